/-! the reference's constructor -/
set_option maxHeartbeats 4000000 in
theorem n_ref0 {s : SG} (h0 : s (-1) 0 = 57) : ∃ s', sem 151 0 [aA 56] [] s = sem 151 28 [aA 56] [] s' ∧ s' (-1) 0 = 60 ∧ s' (-1) 1 = s (-1) 1 + 84 ∧ (s' 56 0 = 57 ∧ s' 56 1 = 58 ∧ s' 56 2 = 59) ∧ ((∀ i, s' 57 i = 0) ∧ (∀ i, s' 58 i = 0) ∧ (∀ i, s' 59 i = 0)) ∧ ∀ k i, k ≠ -1 → ¬ (57 ≤ k ∧ k < 60) → ¬ (k = 56 ∧ (i = 0 ∨ i = 1 ∨ i = 2)) → s' k i = s k i := by
  obtain ⟨t57, ht57⟩ : ∃ z, z = alc s 28 (fun _ => 0) := ⟨_, rfl⟩
  obtain ⟨a57, b57, c57, d57⟩ := al_spec ht57 h0 (by decide)
  obtain ⟨u57, hu57⟩ : ∃ z, z = up t57 56 0 57 := ⟨_, rfl⟩
  obtain ⟨e57, f57⟩ := up_spec hu57
  have k57 : u57 (-1) 0 = 58 := by rw [f57 _ _ (by decide)]; exact a57
  obtain ⟨t58, ht58⟩ : ∃ z, z = alc u57 28 (fun _ => 0) := ⟨_, rfl⟩
  obtain ⟨a58, b58, c58, d58⟩ := al_spec ht58 k57 (by decide)
  obtain ⟨u58, hu58⟩ : ∃ z, z = up t58 56 1 58 := ⟨_, rfl⟩
  obtain ⟨e58, f58⟩ := up_spec hu58
  have k58 : u58 (-1) 0 = 59 := by rw [f58 _ _ (by decide)]; exact a58
  obtain ⟨t59, ht59⟩ : ∃ z, z = alc u58 28 (fun _ => 0) := ⟨_, rfl⟩
  obtain ⟨a59, b59, c59, d59⟩ := al_spec ht59 k58 (by decide)
  obtain ⟨u59, hu59⟩ : ∃ z, z = up t59 56 2 59 := ⟨_, rfl⟩
  obtain ⟨e59, f59⟩ := up_spec hu59
  have k59 : u59 (-1) 0 = 60 := by rw [f59 _ _ (by decide)]; exact a59
  refine ⟨u59, ?_, k59, ?_, ?_, ⟨fun i => ?_, fun i => ?_, fun i => ?_⟩, fun k i h1 h2 h3 => ?_⟩
  · rw [e151_0, h0]
    (try rw [← ht57])
    (try rw [← hu57])
    (try rw [k57])
    (try rw [← ht58])
    (try rw [← hu58])
    (try rw [k58])
    (try rw [← ht59])
    (try rw [← hu59])
    (try rw [k59])
    repeat rw [g_t (by decide)]
  · simp (disch := omega) only [f59, e59, d59, c59, b59, f58, e58, d58, c58, b58, f57, e57, d57, c57, b57]
    try omega
  · simp (disch := omega) only [f59, e59, d59, c59, b59, f58, e58, d58, c58, b58, f57, e57, d57, c57, b57, and_self]
  · simp (disch := omega) only [f59, e59, d59, c59, b59, f58, e58, d58, c58, b58, f57, e57, d57, c57, b57]
  · simp (disch := omega) only [f59, e59, d59, c59, b59, f58, e58, d58, c58, b58, f57, e57, d57, c57, b57]
  · simp (disch := omega) only [f59, e59, d59, c59, b59, f58, e58, d58, c58, b58, f57, e57, d57, c57, b57]
  · simp (disch := omega) only [f59, e59, d59, c59, b59, f58, e58, d58, c58, b58, f57, e57, d57, c57, b57]
set_option maxHeartbeats 4000000 in
theorem n_ref28 {s : SG} (h0 : s (-1) 0 = 60) : ∃ s', sem 151 28 [aA 56] [] s = sem 151 51 [aA 56] [] s' ∧ s' (-1) 0 = 63 ∧ s' (-1) 1 = s (-1) 1 + 75 ∧ (s' 56 3 = 60 ∧ s' 56 8 = 61 ∧ s' 56 10 = 62) ∧ ((∀ i, s' 60 i = 0) ∧ (∀ i, s' 61 i = 0) ∧ (∀ i, s' 62 i = 0)) ∧ ∀ k i, k ≠ -1 → ¬ (60 ≤ k ∧ k < 63) → ¬ (k = 56 ∧ (i = 3 ∨ i = 8 ∨ i = 10)) → s' k i = s k i := by
  obtain ⟨t60, ht60⟩ : ∃ z, z = alc s 64 (fun _ => 0) := ⟨_, rfl⟩
  obtain ⟨a60, b60, c60, d60⟩ := al_spec ht60 h0 (by decide)
  obtain ⟨u60, hu60⟩ : ∃ z, z = up t60 56 3 60 := ⟨_, rfl⟩
  obtain ⟨e60, f60⟩ := up_spec hu60
  have k60 : u60 (-1) 0 = 61 := by rw [f60 _ _ (by decide)]; exact a60
  obtain ⟨t61, ht61⟩ : ∃ z, z = alc u60 3 (fun _ => 0) := ⟨_, rfl⟩
  obtain ⟨a61, b61, c61, d61⟩ := al_spec ht61 k60 (by decide)
  obtain ⟨u61, hu61⟩ : ∃ z, z = up t61 56 8 61 := ⟨_, rfl⟩
  obtain ⟨e61, f61⟩ := up_spec hu61
  have k61 : u61 (-1) 0 = 62 := by rw [f61 _ _ (by decide)]; exact a61
  obtain ⟨t62, ht62⟩ : ∃ z, z = alc u61 8 (fun _ => 0) := ⟨_, rfl⟩
  obtain ⟨a62, b62, c62, d62⟩ := al_spec ht62 k61 (by decide)
  obtain ⟨u62, hu62⟩ : ∃ z, z = up t62 56 10 62 := ⟨_, rfl⟩
  obtain ⟨e62, f62⟩ := up_spec hu62
  have k62 : u62 (-1) 0 = 63 := by rw [f62 _ _ (by decide)]; exact a62
  refine ⟨u62, ?_, k62, ?_, ?_, ⟨fun i => ?_, fun i => ?_, fun i => ?_⟩, fun k i h1 h2 h3 => ?_⟩
  · rw [e151_28, h0]
    (try rw [← ht60])
    (try rw [← hu60])
    (try rw [k60])
    (try rw [← ht61])
    (try rw [← hu61])
    (try rw [k61])
    (try rw [← ht62])
    (try rw [← hu62])
    (try rw [k62])
    repeat rw [g_t (by decide)]
  · simp (disch := omega) only [f62, e62, d62, c62, b62, f61, e61, d61, c61, b61, f60, e60, d60, c60, b60]
    try omega
  · simp (disch := omega) only [f62, e62, d62, c62, b62, f61, e61, d61, c61, b61, f60, e60, d60, c60, b60, and_self]
  · simp (disch := omega) only [f62, e62, d62, c62, b62, f61, e61, d61, c61, b61, f60, e60, d60, c60, b60]
  · simp (disch := omega) only [f62, e62, d62, c62, b62, f61, e61, d61, c61, b61, f60, e60, d60, c60, b60]
  · simp (disch := omega) only [f62, e62, d62, c62, b62, f61, e61, d61, c61, b61, f60, e60, d60, c60, b60]
  · simp (disch := omega) only [f62, e62, d62, c62, b62, f61, e61, d61, c61, b61, f60, e60, d60, c60, b60]
set_option maxHeartbeats 4000000 in
theorem n_ref51 {s : SG} (h0 : s (-1) 0 = 63) : ∃ s', sem 151 51 [aA 56] [] s = sem 151 77 [aA 56] [] s' ∧ s' (-1) 0 = 66 ∧ s' (-1) 1 = s (-1) 1 + 4402 ∧ (s' 56 11 = 63 ∧ s' 56 12 = 64 ∧ s' 56 13 = 65) ∧ ((∀ i, s' 63 i = 0) ∧ (∀ i, s' 64 i = 0) ∧ (∀ i, s' 65 i = 0)) ∧ ∀ k i, k ≠ -1 → ¬ (63 ≤ k ∧ k < 66) → ¬ (k = 56 ∧ (i = 11 ∨ i = 12 ∨ i = 13)) → s' k i = s k i := by
  obtain ⟨t63, ht63⟩ : ∃ z, z = alc s 8 (fun _ => 0) := ⟨_, rfl⟩
  obtain ⟨a63, b63, c63, d63⟩ := al_spec ht63 h0 (by decide)
  obtain ⟨u63, hu63⟩ : ∃ z, z = up t63 56 11 63 := ⟨_, rfl⟩
  obtain ⟨e63, f63⟩ := up_spec hu63
  have k63 : u63 (-1) 0 = 64 := by rw [f63 _ _ (by decide)]; exact a63
  obtain ⟨t64, ht64⟩ : ∃ z, z = alc u63 2197 (fun _ => 0) := ⟨_, rfl⟩
  obtain ⟨a64, b64, c64, d64⟩ := al_spec ht64 k63 (by decide)
  obtain ⟨u64, hu64⟩ : ∃ z, z = up t64 56 12 64 := ⟨_, rfl⟩
  obtain ⟨e64, f64⟩ := up_spec hu64
  have k64 : u64 (-1) 0 = 65 := by rw [f64 _ _ (by decide)]; exact a64
  obtain ⟨t65, ht65⟩ : ∃ z, z = alc u64 2197 (fun _ => 0) := ⟨_, rfl⟩
  obtain ⟨a65, b65, c65, d65⟩ := al_spec ht65 k64 (by decide)
  obtain ⟨u65, hu65⟩ : ∃ z, z = up t65 56 13 65 := ⟨_, rfl⟩
  obtain ⟨e65, f65⟩ := up_spec hu65
  have k65 : u65 (-1) 0 = 66 := by rw [f65 _ _ (by decide)]; exact a65
  refine ⟨u65, ?_, k65, ?_, ?_, ⟨fun i => ?_, fun i => ?_, fun i => ?_⟩, fun k i h1 h2 h3 => ?_⟩
  · rw [e151_51, h0]
    (try rw [← ht63])
    (try rw [← hu63])
    (try rw [k63])
    (try rw [← ht64])
    (try rw [← hu64])
    (try rw [k64])
    (try rw [← ht65])
    (try rw [← hu65])
    (try rw [k65])
    repeat rw [g_t (by decide)]
  · simp (disch := omega) only [f65, e65, d65, c65, b65, f64, e64, d64, c64, b64, f63, e63, d63, c63, b63]
    try omega
  · simp (disch := omega) only [f65, e65, d65, c65, b65, f64, e64, d64, c64, b64, f63, e63, d63, c63, b63, and_self]
  · simp (disch := omega) only [f65, e65, d65, c65, b65, f64, e64, d64, c64, b64, f63, e63, d63, c63, b63]
  · simp (disch := omega) only [f65, e65, d65, c65, b65, f64, e64, d64, c64, b64, f63, e63, d63, c63, b63]
  · simp (disch := omega) only [f65, e65, d65, c65, b65, f64, e64, d64, c64, b64, f63, e63, d63, c63, b63]
  · simp (disch := omega) only [f65, e65, d65, c65, b65, f64, e64, d64, c64, b64, f63, e63, d63, c63, b63]
set_option maxHeartbeats 4000000 in
theorem n_ref77 {s : SG} (h0 : s (-1) 0 = 66) : ∃ s', sem 151 77 [aA 56] [] s = sem 151 98 [aA 56] [] s' ∧ s' (-1) 0 = 69 ∧ s' (-1) 1 = s (-1) 1 + 9 ∧ (s' 56 16 = 66 ∧ s' 56 17 = 67 ∧ s' 56 18 = 68) ∧ ((∀ i, s' 66 i = 0) ∧ (∀ i, s' 67 i = 0) ∧ (∀ i, s' 68 i = 0)) ∧ ∀ k i, k ≠ -1 → ¬ (66 ≤ k ∧ k < 69) → ¬ (k = 56 ∧ (i = 16 ∨ i = 17 ∨ i = 18)) → s' k i = s k i := by
  obtain ⟨t66, ht66⟩ : ∃ z, z = alc s 3 (fun _ => 0) := ⟨_, rfl⟩
  obtain ⟨a66, b66, c66, d66⟩ := al_spec ht66 h0 (by decide)
  obtain ⟨u66, hu66⟩ : ∃ z, z = up t66 56 16 66 := ⟨_, rfl⟩
  obtain ⟨e66, f66⟩ := up_spec hu66
  have k66 : u66 (-1) 0 = 67 := by rw [f66 _ _ (by decide)]; exact a66
  obtain ⟨t67, ht67⟩ : ∃ z, z = alc u66 3 (fun _ => 0) := ⟨_, rfl⟩
  obtain ⟨a67, b67, c67, d67⟩ := al_spec ht67 k66 (by decide)
  obtain ⟨u67, hu67⟩ : ∃ z, z = up t67 56 17 67 := ⟨_, rfl⟩
  obtain ⟨e67, f67⟩ := up_spec hu67
  have k67 : u67 (-1) 0 = 68 := by rw [f67 _ _ (by decide)]; exact a67
  obtain ⟨t68, ht68⟩ : ∃ z, z = alc u67 3 (fun _ => 0) := ⟨_, rfl⟩
  obtain ⟨a68, b68, c68, d68⟩ := al_spec ht68 k67 (by decide)
  obtain ⟨u68, hu68⟩ : ∃ z, z = up t68 56 18 68 := ⟨_, rfl⟩
  obtain ⟨e68, f68⟩ := up_spec hu68
  have k68 : u68 (-1) 0 = 69 := by rw [f68 _ _ (by decide)]; exact a68
  refine ⟨u68, ?_, k68, ?_, ?_, ⟨fun i => ?_, fun i => ?_, fun i => ?_⟩, fun k i h1 h2 h3 => ?_⟩
  · rw [e151_77, h0]
    (try rw [← ht66])
    (try rw [← hu66])
    (try rw [k66])
    (try rw [← ht67])
    (try rw [← hu67])
    (try rw [k67])
    (try rw [← ht68])
    (try rw [← hu68])
    (try rw [k68])
    repeat rw [g_t (by decide)]
  · simp (disch := omega) only [f68, e68, d68, c68, b68, f67, e67, d67, c67, b67, f66, e66, d66, c66, b66]
    try omega
  · simp (disch := omega) only [f68, e68, d68, c68, b68, f67, e67, d67, c67, b67, f66, e66, d66, c66, b66, and_self]
  · simp (disch := omega) only [f68, e68, d68, c68, b68, f67, e67, d67, c67, b67, f66, e66, d66, c66, b66]
  · simp (disch := omega) only [f68, e68, d68, c68, b68, f67, e67, d67, c67, b67, f66, e66, d66, c66, b66]
  · simp (disch := omega) only [f68, e68, d68, c68, b68, f67, e67, d67, c67, b67, f66, e66, d66, c66, b66]
  · simp (disch := omega) only [f68, e68, d68, c68, b68, f67, e67, d67, c67, b67, f66, e66, d66, c66, b66]
set_option maxHeartbeats 4000000 in
theorem n_ref98 {s : SG} (h0 : s (-1) 0 = 69) : ∃ s', sem 151 98 [aA 56] [] s = sem 151 122 [aA 56] [] s' ∧ s' (-1) 0 = 72 ∧ s' (-1) 1 = s (-1) 1 + 18 ∧ (s' 56 23 = 69 ∧ s' 56 24 = 70 ∧ s' 56 25 = 71) ∧ ((∀ i, s' 69 i = 0) ∧ (∀ i, s' 70 i = 0) ∧ (∀ i, s' 71 i = 0)) ∧ ∀ k i, k ≠ -1 → ¬ (69 ≤ k ∧ k < 72) → ¬ (k = 56 ∧ (i = 23 ∨ i = 24 ∨ i = 25)) → s' k i = s k i := by
  obtain ⟨t69, ht69⟩ : ∃ z, z = alc s 6 (fun _ => 0) := ⟨_, rfl⟩
  obtain ⟨a69, b69, c69, d69⟩ := al_spec ht69 h0 (by decide)
  obtain ⟨u69, hu69⟩ : ∃ z, z = up t69 56 23 69 := ⟨_, rfl⟩
  obtain ⟨e69, f69⟩ := up_spec hu69
  have k69 : u69 (-1) 0 = 70 := by rw [f69 _ _ (by decide)]; exact a69
  obtain ⟨t70, ht70⟩ : ∃ z, z = alc u69 6 (fun _ => 0) := ⟨_, rfl⟩
  obtain ⟨a70, b70, c70, d70⟩ := al_spec ht70 k69 (by decide)
  obtain ⟨u70, hu70⟩ : ∃ z, z = up t70 56 24 70 := ⟨_, rfl⟩
  obtain ⟨e70, f70⟩ := up_spec hu70
  have k70 : u70 (-1) 0 = 71 := by rw [f70 _ _ (by decide)]; exact a70
  obtain ⟨t71, ht71⟩ : ∃ z, z = alc u70 6 (fun _ => 0) := ⟨_, rfl⟩
  obtain ⟨a71, b71, c71, d71⟩ := al_spec ht71 k70 (by decide)
  obtain ⟨u71, hu71⟩ : ∃ z, z = up t71 56 25 71 := ⟨_, rfl⟩
  obtain ⟨e71, f71⟩ := up_spec hu71
  have k71 : u71 (-1) 0 = 72 := by rw [f71 _ _ (by decide)]; exact a71
  refine ⟨u71, ?_, k71, ?_, ?_, ⟨fun i => ?_, fun i => ?_, fun i => ?_⟩, fun k i h1 h2 h3 => ?_⟩
  · rw [e151_98, h0]
    (try rw [← ht69])
    (try rw [← hu69])
    (try rw [k69])
    (try rw [← ht70])
    (try rw [← hu70])
    (try rw [k70])
    (try rw [← ht71])
    (try rw [← hu71])
    (try rw [k71])
    repeat rw [g_t (by decide)]
  · simp (disch := omega) only [f71, e71, d71, c71, b71, f70, e70, d70, c70, b70, f69, e69, d69, c69, b69]
    try omega
  · simp (disch := omega) only [f71, e71, d71, c71, b71, f70, e70, d70, c70, b70, f69, e69, d69, c69, b69, and_self]
  · simp (disch := omega) only [f71, e71, d71, c71, b71, f70, e70, d70, c70, b70, f69, e69, d69, c69, b69]
  · simp (disch := omega) only [f71, e71, d71, c71, b71, f70, e70, d70, c70, b70, f69, e69, d69, c69, b69]
  · simp (disch := omega) only [f71, e71, d71, c71, b71, f70, e70, d70, c70, b70, f69, e69, d69, c69, b69]
  · simp (disch := omega) only [f71, e71, d71, c71, b71, f70, e70, d70, c70, b70, f69, e69, d69, c69, b69]
set_option maxHeartbeats 4000000 in
theorem n_ref122 {s : SG} (h0 : s (-1) 0 = 72) : ∃ s', sem 151 122 [aA 56] [] s = sem 151 146 [aA 56] [] s' ∧ s' (-1) 0 = 75 ∧ s' (-1) 1 = s (-1) 1 + 54 ∧ (s' 56 26 = 72 ∧ s' 56 27 = 73 ∧ s' 56 28 = 74) ∧ ((∀ i, s' 72 i = 0) ∧ (∀ i, s' 73 i = 0) ∧ (∀ i, s' 74 i = 0)) ∧ ∀ k i, k ≠ -1 → ¬ (72 ≤ k ∧ k < 75) → ¬ (k = 56 ∧ (i = 26 ∨ i = 27 ∨ i = 28)) → s' k i = s k i := by
  obtain ⟨t72, ht72⟩ : ∃ z, z = alc s 18 (fun _ => 0) := ⟨_, rfl⟩
  obtain ⟨a72, b72, c72, d72⟩ := al_spec ht72 h0 (by decide)
  obtain ⟨u72, hu72⟩ : ∃ z, z = up t72 56 26 72 := ⟨_, rfl⟩
  obtain ⟨e72, f72⟩ := up_spec hu72
  have k72 : u72 (-1) 0 = 73 := by rw [f72 _ _ (by decide)]; exact a72
  obtain ⟨t73, ht73⟩ : ∃ z, z = alc u72 18 (fun _ => 0) := ⟨_, rfl⟩
  obtain ⟨a73, b73, c73, d73⟩ := al_spec ht73 k72 (by decide)
  obtain ⟨u73, hu73⟩ : ∃ z, z = up t73 56 27 73 := ⟨_, rfl⟩
  obtain ⟨e73, f73⟩ := up_spec hu73
  have k73 : u73 (-1) 0 = 74 := by rw [f73 _ _ (by decide)]; exact a73
  obtain ⟨t74, ht74⟩ : ∃ z, z = alc u73 18 (fun _ => 0) := ⟨_, rfl⟩
  obtain ⟨a74, b74, c74, d74⟩ := al_spec ht74 k73 (by decide)
  obtain ⟨u74, hu74⟩ : ∃ z, z = up t74 56 28 74 := ⟨_, rfl⟩
  obtain ⟨e74, f74⟩ := up_spec hu74
  have k74 : u74 (-1) 0 = 75 := by rw [f74 _ _ (by decide)]; exact a74
  refine ⟨u74, ?_, k74, ?_, ?_, ⟨fun i => ?_, fun i => ?_, fun i => ?_⟩, fun k i h1 h2 h3 => ?_⟩
  · rw [e151_122, h0]
    (try rw [← ht72])
    (try rw [← hu72])
    (try rw [k72])
    (try rw [← ht73])
    (try rw [← hu73])
    (try rw [k73])
    (try rw [← ht74])
    (try rw [← hu74])
    (try rw [k74])
    repeat rw [g_t (by decide)]
  · simp (disch := omega) only [f74, e74, d74, c74, b74, f73, e73, d73, c73, b73, f72, e72, d72, c72, b72]
    try omega
  · simp (disch := omega) only [f74, e74, d74, c74, b74, f73, e73, d73, c73, b73, f72, e72, d72, c72, b72, and_self]
  · simp (disch := omega) only [f74, e74, d74, c74, b74, f73, e73, d73, c73, b73, f72, e72, d72, c72, b72]
  · simp (disch := omega) only [f74, e74, d74, c74, b74, f73, e73, d73, c73, b73, f72, e72, d72, c72, b72]
  · simp (disch := omega) only [f74, e74, d74, c74, b74, f73, e73, d73, c73, b73, f72, e72, d72, c72, b72]
  · simp (disch := omega) only [f74, e74, d74, c74, b74, f73, e73, d73, c73, b73, f72, e72, d72, c72, b72]
set_option maxHeartbeats 4000000 in
theorem n_ref146 {s : SG} (h0 : s (-1) 0 = 75) : ∃ s', sem 151 146 [aA 56] [] s = sem 151 168 [aA 56] [] s' ∧ s' (-1) 0 = 78 ∧ s' (-1) 1 = s (-1) 1 + 24 ∧ (s' 56 29 = 75 ∧ s' 56 30 = 76 ∧ s' 56 31 = 77) ∧ ((∀ i, s' 75 i = 0) ∧ (∀ i, s' 76 i = 0) ∧ (∀ i, s' 77 i = 0)) ∧ ∀ k i, k ≠ -1 → ¬ (75 ≤ k ∧ k < 78) → ¬ (k = 56 ∧ (i = 29 ∨ i = 30 ∨ i = 31)) → s' k i = s k i := by
  obtain ⟨t75, ht75⟩ : ∃ z, z = alc s 18 (fun _ => 0) := ⟨_, rfl⟩
  obtain ⟨a75, b75, c75, d75⟩ := al_spec ht75 h0 (by decide)
  obtain ⟨u75, hu75⟩ : ∃ z, z = up t75 56 29 75 := ⟨_, rfl⟩
  obtain ⟨e75, f75⟩ := up_spec hu75
  have k75 : u75 (-1) 0 = 76 := by rw [f75 _ _ (by decide)]; exact a75
  obtain ⟨t76, ht76⟩ : ∃ z, z = alc u75 3 (fun _ => 0) := ⟨_, rfl⟩
  obtain ⟨a76, b76, c76, d76⟩ := al_spec ht76 k75 (by decide)
  obtain ⟨u76, hu76⟩ : ∃ z, z = up t76 56 30 76 := ⟨_, rfl⟩
  obtain ⟨e76, f76⟩ := up_spec hu76
  have k76 : u76 (-1) 0 = 77 := by rw [f76 _ _ (by decide)]; exact a76
  obtain ⟨t77, ht77⟩ : ∃ z, z = alc u76 3 (fun _ => 0) := ⟨_, rfl⟩
  obtain ⟨a77, b77, c77, d77⟩ := al_spec ht77 k76 (by decide)
  obtain ⟨u77, hu77⟩ : ∃ z, z = up t77 56 31 77 := ⟨_, rfl⟩
  obtain ⟨e77, f77⟩ := up_spec hu77
  have k77 : u77 (-1) 0 = 78 := by rw [f77 _ _ (by decide)]; exact a77
  refine ⟨u77, ?_, k77, ?_, ?_, ⟨fun i => ?_, fun i => ?_, fun i => ?_⟩, fun k i h1 h2 h3 => ?_⟩
  · rw [e151_146, h0]
    (try rw [← ht75])
    (try rw [← hu75])
    (try rw [k75])
    (try rw [← ht76])
    (try rw [← hu76])
    (try rw [k76])
    (try rw [← ht77])
    (try rw [← hu77])
    (try rw [k77])
    repeat rw [g_t (by decide)]
  · simp (disch := omega) only [f77, e77, d77, c77, b77, f76, e76, d76, c76, b76, f75, e75, d75, c75, b75]
    try omega
  · simp (disch := omega) only [f77, e77, d77, c77, b77, f76, e76, d76, c76, b76, f75, e75, d75, c75, b75, and_self]
  · simp (disch := omega) only [f77, e77, d77, c77, b77, f76, e76, d76, c76, b76, f75, e75, d75, c75, b75]
  · simp (disch := omega) only [f77, e77, d77, c77, b77, f76, e76, d76, c76, b76, f75, e75, d75, c75, b75]
  · simp (disch := omega) only [f77, e77, d77, c77, b77, f76, e76, d76, c76, b76, f75, e75, d75, c75, b75]
  · simp (disch := omega) only [f77, e77, d77, c77, b77, f76, e76, d76, c76, b76, f75, e75, d75, c75, b75]
set_option maxHeartbeats 4000000 in
theorem n_ref168 {s : SG} (h0 : s (-1) 0 = 78) : ∃ s', sem 151 168 [aA 56] [] s = sem 151 190 [aA 56] [] s' ∧ s' (-1) 0 = 81 ∧ s' (-1) 1 = s (-1) 1 + 11 ∧ (s' 56 32 = 78 ∧ s' 56 39 = 79 ∧ s' 56 40 = 80) ∧ ((∀ i, s' 78 i = 0) ∧ (∀ i, s' 79 i = 0) ∧ (∀ i, s' 80 i = 0)) ∧ ∀ k i, k ≠ -1 → ¬ (78 ≤ k ∧ k < 81) → ¬ (k = 56 ∧ (i = 32 ∨ i = 39 ∨ i = 40)) → s' k i = s k i := by
  obtain ⟨t78, ht78⟩ : ∃ z, z = alc s 3 (fun _ => 0) := ⟨_, rfl⟩
  obtain ⟨a78, b78, c78, d78⟩ := al_spec ht78 h0 (by decide)
  obtain ⟨u78, hu78⟩ : ∃ z, z = up t78 56 32 78 := ⟨_, rfl⟩
  obtain ⟨e78, f78⟩ := up_spec hu78
  have k78 : u78 (-1) 0 = 79 := by rw [f78 _ _ (by decide)]; exact a78
  obtain ⟨t79, ht79⟩ : ∃ z, z = alc u78 2 (fun _ => 0) := ⟨_, rfl⟩
  obtain ⟨a79, b79, c79, d79⟩ := al_spec ht79 k78 (by decide)
  obtain ⟨u79, hu79⟩ : ∃ z, z = up t79 56 39 79 := ⟨_, rfl⟩
  obtain ⟨e79, f79⟩ := up_spec hu79
  have k79 : u79 (-1) 0 = 80 := by rw [f79 _ _ (by decide)]; exact a79
  obtain ⟨t80, ht80⟩ : ∃ z, z = alc u79 6 (fun _ => 0) := ⟨_, rfl⟩
  obtain ⟨a80, b80, c80, d80⟩ := al_spec ht80 k79 (by decide)
  obtain ⟨u80, hu80⟩ : ∃ z, z = up t80 56 40 80 := ⟨_, rfl⟩
  obtain ⟨e80, f80⟩ := up_spec hu80
  have k80 : u80 (-1) 0 = 81 := by rw [f80 _ _ (by decide)]; exact a80
  refine ⟨u80, ?_, k80, ?_, ?_, ⟨fun i => ?_, fun i => ?_, fun i => ?_⟩, fun k i h1 h2 h3 => ?_⟩
  · rw [e151_168, h0]
    (try rw [← ht78])
    (try rw [← hu78])
    (try rw [k78])
    (try rw [← ht79])
    (try rw [← hu79])
    (try rw [k79])
    (try rw [← ht80])
    (try rw [← hu80])
    (try rw [k80])
    repeat rw [g_t (by decide)]
  · simp (disch := omega) only [f80, e80, d80, c80, b80, f79, e79, d79, c79, b79, f78, e78, d78, c78, b78]
    try omega
  · simp (disch := omega) only [f80, e80, d80, c80, b80, f79, e79, d79, c79, b79, f78, e78, d78, c78, b78, and_self]
  · simp (disch := omega) only [f80, e80, d80, c80, b80, f79, e79, d79, c79, b79, f78, e78, d78, c78, b78]
  · simp (disch := omega) only [f80, e80, d80, c80, b80, f79, e79, d79, c79, b79, f78, e78, d78, c78, b78]
  · simp (disch := omega) only [f80, e80, d80, c80, b80, f79, e79, d79, c79, b79, f78, e78, d78, c78, b78]
  · simp (disch := omega) only [f80, e80, d80, c80, b80, f79, e79, d79, c79, b79, f78, e78, d78, c78, b78]
set_option maxHeartbeats 4000000 in
theorem n_ref190 {s : SG} (h0 : s (-1) 0 = 81) : ∃ s', sem 151 190 [aA 56] [] s = sem 151 214 [aA 56] [] s' ∧ s' (-1) 0 = 84 ∧ s' (-1) 1 = s (-1) 1 + 22 ∧ (s' 56 41 = 81 ∧ s' 56 42 = 82 ∧ s' 56 43 = 83) ∧ ((∀ i, s' 81 i = 0) ∧ (∀ i, s' 82 i = 0) ∧ (∀ i, s' 83 i = 0)) ∧ ∀ k i, k ≠ -1 → ¬ (81 ≤ k ∧ k < 84) → ¬ (k = 56 ∧ (i = 41 ∨ i = 42 ∨ i = 43)) → s' k i = s k i := by
  obtain ⟨t81, ht81⟩ : ∃ z, z = alc s 6 (fun _ => 0) := ⟨_, rfl⟩
  obtain ⟨a81, b81, c81, d81⟩ := al_spec ht81 h0 (by decide)
  obtain ⟨u81, hu81⟩ : ∃ z, z = up t81 56 41 81 := ⟨_, rfl⟩
  obtain ⟨e81, f81⟩ := up_spec hu81
  have k81 : u81 (-1) 0 = 82 := by rw [f81 _ _ (by decide)]; exact a81
  obtain ⟨t82, ht82⟩ : ∃ z, z = alc u81 6 (fun _ => 0) := ⟨_, rfl⟩
  obtain ⟨a82, b82, c82, d82⟩ := al_spec ht82 k81 (by decide)
  obtain ⟨u82, hu82⟩ : ∃ z, z = up t82 56 42 82 := ⟨_, rfl⟩
  obtain ⟨e82, f82⟩ := up_spec hu82
  have k82 : u82 (-1) 0 = 83 := by rw [f82 _ _ (by decide)]; exact a82
  obtain ⟨t83, ht83⟩ : ∃ z, z = alc u82 10 (fun _ => 0) := ⟨_, rfl⟩
  obtain ⟨a83, b83, c83, d83⟩ := al_spec ht83 k82 (by decide)
  obtain ⟨u83, hu83⟩ : ∃ z, z = up t83 56 43 83 := ⟨_, rfl⟩
  obtain ⟨e83, f83⟩ := up_spec hu83
  have k83 : u83 (-1) 0 = 84 := by rw [f83 _ _ (by decide)]; exact a83
  refine ⟨u83, ?_, k83, ?_, ?_, ⟨fun i => ?_, fun i => ?_, fun i => ?_⟩, fun k i h1 h2 h3 => ?_⟩
  · rw [e151_190, h0]
    (try rw [← ht81])
    (try rw [← hu81])
    (try rw [k81])
    (try rw [← ht82])
    (try rw [← hu82])
    (try rw [k82])
    (try rw [← ht83])
    (try rw [← hu83])
    (try rw [k83])
    repeat rw [g_t (by decide)]
  · simp (disch := omega) only [f83, e83, d83, c83, b83, f82, e82, d82, c82, b82, f81, e81, d81, c81, b81]
    try omega
  · simp (disch := omega) only [f83, e83, d83, c83, b83, f82, e82, d82, c82, b82, f81, e81, d81, c81, b81, and_self]
  · simp (disch := omega) only [f83, e83, d83, c83, b83, f82, e82, d82, c82, b82, f81, e81, d81, c81, b81]
  · simp (disch := omega) only [f83, e83, d83, c83, b83, f82, e82, d82, c82, b82, f81, e81, d81, c81, b81]
  · simp (disch := omega) only [f83, e83, d83, c83, b83, f82, e82, d82, c82, b82, f81, e81, d81, c81, b81]
  · simp (disch := omega) only [f83, e83, d83, c83, b83, f82, e82, d82, c82, b82, f81, e81, d81, c81, b81]
set_option maxHeartbeats 16000000 in
theorem n_ref {s : SG} (h0 : s (-1) 0 = 57) (hP : RefP s) (h4 : s 56 4 = 0) : ∃ s', sem 151 0 [aA 56] [] s = some (aU, s') ∧ s' (-1) 0 = 85 ∧ s' (-1) 1 = s (-1) 1 + 4735 ∧ RefC s' ∧ (∀ i, 0 ≤ i → i < 28 → s' 58 i = T0 i) ∧ (s' 56 4 = 0 ∧ s' 56 9 = 0 ∧ s' 79 0 = 0 ∧ s' 79 1 = 0 ∧ s' 56 15 = 0 ∧ s' 56 19 = 0 ∧ s' 56 20 = 0 ∧ s' 56 21 = 0 ∧ s' 56 22 = 0) ∧ (∀ c, 0 ≤ c → c < 3 → s' 66 c = 0 ∧ s' 67 c = 0 ∧ s' 68 c = 5) ∧ (∀ i, 0 ≤ i → i < 6 → s' 69 i = 0 ∧ s' 70 i = 0 ∧ s' 71 i = 0) ∧ ∀ k i, k ≠ -1 → ¬ (56 ≤ k ∧ k < 85) → s' k i = s k i := by
  obtain ⟨v0, x0, y0, z0, w_0, c0, q0⟩ := n_ref0 (s := s) h0
  obtain ⟨v1, x1, y1, z1, w_1, c1, q1⟩ := n_ref28 (s := v0) y0
  obtain ⟨v2, x2, y2, z2, w_2, c2, q2⟩ := n_ref51 (s := v1) y1
  obtain ⟨v3, x3, y3, z3, w_3, c3, q3⟩ := n_ref77 (s := v2) y2
  obtain ⟨v4, x4, y4, z4, w_4, c4, q4⟩ := n_ref98 (s := v3) y3
  obtain ⟨v5, x5, y5, z5, w_5, c5, q5⟩ := n_ref122 (s := v4) y4
  obtain ⟨v6, x6, y6, z6, w_6, c6, q6⟩ := n_ref146 (s := v5) y5
  obtain ⟨v7, x7, y7, z7, w_7, c7, q7⟩ := n_ref168 (s := v6) y6
  obtain ⟨v8, x8, y8, z8, w_8, c8, q8⟩ := n_ref190 (s := v7) y7
  obtain ⟨t84, ht84⟩ : ∃ z, z = alc v8 36 (fun _ => 0) := ⟨_, rfl⟩
  obtain ⟨a84, b84, c84, d84⟩ := al_spec ht84 y8 (by decide)
  obtain ⟨u84, hu84⟩ : ∃ z, z = up t84 56 44 84 := ⟨_, rfl⟩
  obtain ⟨e84, f84⟩ := up_spec hu84
  have k84 : u84 (-1) 0 = 85 := by rw [f84 _ _ (by decide)]; exact a84
  have hR : RefC u84 := by
    unfold RefP at hP
    unfold RefC
    simp (disch := omega) only [f84, e84, d84, c84, b84, q8, c8, w_8, z8, q7, c7, w_7, z7, q6, c6, w_6, z6, q5, c5, w_5, z5, q4, c4, w_4, z4, q3, c3, w_3, z3, q2, c2, w_2, z2, q1, c1, w_1, z1, q0, c0, w_0, z0, hP, and_self]
  have g4 : u84 56 4 = 0 := by
    simp (disch := omega) only [f84, e84, d84, c84, b84, q8, c8, w_8, z8, q7, c7, w_7, z7, q6, c6, w_6, z6, q5, c5, w_5, z5, q4, c4, w_4, z4, q3, c3, w_3, z3, q2, c2, w_2, z2, q1, c1, w_1, z1, q0, c0, w_0, z0, h4]
  have g69 : ∀ i, u84 69 i = 0 := fun i => by
    simp (disch := omega) only [f84, e84, d84, c84, b84, q8, c8, w_8, z8, q7, c7, w_7, z7, q6, c6, w_6, z6, q5, c5, w_5, z5, q4, c4, w_4, z4, q3, c3, w_3, z3, q2, c2, w_2, z2, q1, c1, w_1, z1, q0, c0, w_0, z0]
  have g70 : ∀ i, u84 70 i = 0 := fun i => by
    simp (disch := omega) only [f84, e84, d84, c84, b84, q8, c8, w_8, z8, q7, c7, w_7, z7, q6, c6, w_6, z6, q5, c5, w_5, z5, q4, c4, w_4, z4, q3, c3, w_3, z3, q2, c2, w_2, z2, q1, c1, w_1, z1, q0, c0, w_0, z0]
  have g71 : ∀ i, u84 71 i = 0 := fun i => by
    simp (disch := omega) only [f84, e84, d84, c84, b84, q8, c8, w_8, z8, q7, c7, w_7, z7, q6, c6, w_6, z6, q5, c5, w_5, z5, q4, c4, w_4, z4, q3, c3, w_3, z3, q2, c2, w_2, z2, q1, c1, w_1, z1, q0, c0, w_0, z0]
  have gs : u84 (-1) 1 = s (-1) 1 + 4735 := by
    simp (disch := omega) only [f84, e84, d84, c84, b84, q8, c8, w_8, z8, q7, c7, w_7, z7, q6, c6, w_6, z6, q5, c5, w_5, z5, q4, c4, w_4, z4, q3, c3, w_3, z3, q2, c2, w_2, z2, q1, c1, w_1, z1, q0, c0, w_0, z0]
    try omega
  have gf : ∀ k i, k ≠ -1 → ¬ (56 ≤ k ∧ k < 85) → u84 k i = s k i := fun k i h1 h2 => by
    simp (disch := omega) only [f84, e84, d84, c84, b84, q8, c8, w_8, z8, q7, c7, w_7, z7, q6, c6, w_6, z6, q5, c5, w_5, z5, q4, c4, w_4, z4, q3, c3, w_3, z3, q2, c2, w_2, z2, q1, c1, w_1, z1, q0, c0, w_0, z0]
  obtain ⟨s1, i1, i2, i3, i4⟩ := l_blank 28 0 u84 (by decide) (by decide) hR
  have y0 : s1 56 0 = 57 := by rw [i4 56 0 (by omega) (by omega)]; simp (disch := omega) only [f84, e84, d84, c84, b84, q8, c8, w_8, z8, q7, c7, w_7, z7, q6, c6, w_6, z6, q5, c5, w_5, z5, q4, c4, w_4, z4, q3, c3, w_3, z3, q2, c2, w_2, z2, q1, c1, w_1, z1, q0, c0, w_0, z0]
  have R1 : RefC (up s1 57 0 1) := RefC.upd i2 (rcb_a (by decide))
  obtain ⟨s2, j1, j2, j3, j4, j5, j6⟩ := c_takeT R1
  have xE : sem 151 214 [aA 56] [] v8 = some (aU, s2) := by
    rw [e151_214, y8]
    repeat rw [g_t (by decide)]
    rw [← ht84, ← hu84, g153_0 hR, i1, bnV_some, y0]
    repeat rw [g_t (by decide)]
    rw [j1, bnV_some]
  have fr : ∀ q i, q ≠ 58 → ¬ (66 ≤ q ∧ q ≤ 68) → ¬ (q = 79 ∧ 0 ≤ i ∧ i ≤ 1) → ¬ (q = 56 ∧ (i = 9 ∨ i = 15 ∨ (19 ≤ i ∧ i ≤ 22))) → q ≠ 57 → q ≠ 59 → s2 q i = u84 q i := fun q i h1 h2 h3 h4 h5 h6 => by
    rw [j6 q i h1 h2 h3 h4, up_ne h5, i4 q i (fun z => h5 z.1) (fun z => h6 z.1)]
  obtain ⟨m1, m2, m3, m4, m5, m6, m7, m8⟩ := j4
  refine ⟨s2, ?_, ?_, ?_, j2, fun i i0 i1 => ?_, ⟨?_, m1, m2, m3, m4, m5, m6, m7, m8⟩, j5, fun i _ _ => ?_, fun k i h1 h2 => ?_⟩
  · rw [x0, x1, x2, x3, x4, x5, x6, x7, x8, xE]
  · rw [fr _ _ (by omega) (by omega) (by omega) (by omega) (by omega) (by omega)]
    exact k84
  · rw [fr _ _ (by omega) (by omega) (by omega) (by omega) (by omega) (by omega)]
    exact gs
  · rw [j3 i i0 i1]
    unfold T0
    by_cases z : i = 0
    · rw [z, up_at, if_pos rfl]
    · rw [up_ni z, if_neg z, (i3 i i0 i1).1]
  · rw [fr _ _ (by omega) (by omega) (by omega) (by omega) (by omega) (by omega)]
    exact g4
  · rw [fr _ _ (by omega) (by omega) (by omega) (by omega) (by omega) (by omega), fr _ _ (by omega) (by omega) (by omega) (by omega) (by omega) (by omega), fr _ _ (by omega) (by omega) (by omega) (by omega) (by omega) (by omega)]
    exact ⟨g69 i, g70 i, g71 i⟩
  · rw [fr _ _ (by omega) (by omega) (by omega) (by omega) (by omega) (by omega)]
    exact gf k i h1 h2

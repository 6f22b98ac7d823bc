/-! the reference's constructor -/
set_option maxHeartbeats 16000000 in
theorem n_ref {s : SG} (h0 : s (-1) 0 = 57) (hP : RefP s) (h4 : s 56 4 = 0) : ∃ s', sem 151 0 [aA 56] [] s = some (aU, s') ∧ s' (-1) 0 = 85 ∧ s' (-1) 1 = s (-1) 1 + 4735 ∧ RefC s' ∧ (∀ i, 0 ≤ i → i < 28 → s' 58 i = T0 i) ∧ (s' 56 4 = 0 ∧ s' 56 9 = 0 ∧ s' 79 0 = 0 ∧ s' 79 1 = 0 ∧ s' 56 15 = 0 ∧ s' 56 19 = 0 ∧ s' 56 20 = 0 ∧ s' 56 21 = 0 ∧ s' 56 22 = 0) ∧ (∀ c, 0 ≤ c → c < 3 → s' 66 c = 0 ∧ s' 67 c = 0 ∧ s' 68 c = 5) ∧ (∀ i, 0 ≤ i → i < 6 → s' 69 i = 0 ∧ s' 70 i = 0 ∧ s' 71 i = 0) ∧ ∀ k i, k ≠ -1 → ¬ (56 ≤ k ∧ k < 85) → s' k i = s k i := by
  obtain ⟨t57, ht57⟩ : ∃ z, z = alc s 28 (fun _ => 0) := ⟨_, rfl⟩
  obtain ⟨a57, b57, c57, d57⟩ := al_spec ht57 h0 (by decide)
  obtain ⟨u57, hu57⟩ : ∃ z, z = up t57 56 0 57 := ⟨_, rfl⟩
  obtain ⟨e57, f57⟩ := up_spec hu57
  have k57 : u57 (-1) 0 = 58 := by rw [f57 _ _ (by decide)]; exact a57
  obtain ⟨t58, ht58⟩ : ∃ z, z = alc u57 28 (fun _ => 0) := ⟨_, rfl⟩
  obtain ⟨a58, b58, c58, d58⟩ := al_spec ht58 k57 (by decide)
  obtain ⟨u58, hu58⟩ : ∃ z, z = up t58 56 1 58 := ⟨_, rfl⟩
  obtain ⟨e58, f58⟩ := up_spec hu58
  have k58 : u58 (-1) 0 = 59 := by rw [f58 _ _ (by decide)]; exact a58
  obtain ⟨t59, ht59⟩ : ∃ z, z = alc u58 28 (fun _ => 0) := ⟨_, rfl⟩
  obtain ⟨a59, b59, c59, d59⟩ := al_spec ht59 k58 (by decide)
  obtain ⟨u59, hu59⟩ : ∃ z, z = up t59 56 2 59 := ⟨_, rfl⟩
  obtain ⟨e59, f59⟩ := up_spec hu59
  have k59 : u59 (-1) 0 = 60 := by rw [f59 _ _ (by decide)]; exact a59
  have x0 : sem 151 0 [aA 56] [] s = sem 151 28 [aA 56] [] u59 := by
    rw [e151_0, h0]
    (try rw [← ht57])
    (try rw [← hu57])
    (try rw [k57])
    (try rw [← ht58])
    (try rw [← hu58])
    (try rw [k58])
    (try rw [← ht59])
    (try rw [← hu59])
    (try rw [k59])
    repeat rw [g_t (by decide)]
  obtain ⟨t60, ht60⟩ : ∃ z, z = alc u59 64 (fun _ => 0) := ⟨_, rfl⟩
  obtain ⟨a60, b60, c60, d60⟩ := al_spec ht60 k59 (by decide)
  obtain ⟨u60, hu60⟩ : ∃ z, z = up t60 56 3 60 := ⟨_, rfl⟩
  obtain ⟨e60, f60⟩ := up_spec hu60
  have k60 : u60 (-1) 0 = 61 := by rw [f60 _ _ (by decide)]; exact a60
  obtain ⟨t61, ht61⟩ : ∃ z, z = alc u60 3 (fun _ => 0) := ⟨_, rfl⟩
  obtain ⟨a61, b61, c61, d61⟩ := al_spec ht61 k60 (by decide)
  obtain ⟨u61, hu61⟩ : ∃ z, z = up t61 56 8 61 := ⟨_, rfl⟩
  obtain ⟨e61, f61⟩ := up_spec hu61
  have k61 : u61 (-1) 0 = 62 := by rw [f61 _ _ (by decide)]; exact a61
  obtain ⟨t62, ht62⟩ : ∃ z, z = alc u61 8 (fun _ => 0) := ⟨_, rfl⟩
  obtain ⟨a62, b62, c62, d62⟩ := al_spec ht62 k61 (by decide)
  obtain ⟨u62, hu62⟩ : ∃ z, z = up t62 56 10 62 := ⟨_, rfl⟩
  obtain ⟨e62, f62⟩ := up_spec hu62
  have k62 : u62 (-1) 0 = 63 := by rw [f62 _ _ (by decide)]; exact a62
  have x28 : sem 151 28 [aA 56] [] u59 = sem 151 51 [aA 56] [] u62 := by
    rw [e151_28, k59]
    (try rw [← ht60])
    (try rw [← hu60])
    (try rw [k60])
    (try rw [← ht61])
    (try rw [← hu61])
    (try rw [k61])
    (try rw [← ht62])
    (try rw [← hu62])
    (try rw [k62])
    repeat rw [g_t (by decide)]
  obtain ⟨t63, ht63⟩ : ∃ z, z = alc u62 8 (fun _ => 0) := ⟨_, rfl⟩
  obtain ⟨a63, b63, c63, d63⟩ := al_spec ht63 k62 (by decide)
  obtain ⟨u63, hu63⟩ : ∃ z, z = up t63 56 11 63 := ⟨_, rfl⟩
  obtain ⟨e63, f63⟩ := up_spec hu63
  have k63 : u63 (-1) 0 = 64 := by rw [f63 _ _ (by decide)]; exact a63
  obtain ⟨t64, ht64⟩ : ∃ z, z = alc u63 2197 (fun _ => 0) := ⟨_, rfl⟩
  obtain ⟨a64, b64, c64, d64⟩ := al_spec ht64 k63 (by decide)
  obtain ⟨u64, hu64⟩ : ∃ z, z = up t64 56 12 64 := ⟨_, rfl⟩
  obtain ⟨e64, f64⟩ := up_spec hu64
  have k64 : u64 (-1) 0 = 65 := by rw [f64 _ _ (by decide)]; exact a64
  obtain ⟨t65, ht65⟩ : ∃ z, z = alc u64 2197 (fun _ => 0) := ⟨_, rfl⟩
  obtain ⟨a65, b65, c65, d65⟩ := al_spec ht65 k64 (by decide)
  obtain ⟨u65, hu65⟩ : ∃ z, z = up t65 56 13 65 := ⟨_, rfl⟩
  obtain ⟨e65, f65⟩ := up_spec hu65
  have k65 : u65 (-1) 0 = 66 := by rw [f65 _ _ (by decide)]; exact a65
  have x51 : sem 151 51 [aA 56] [] u62 = sem 151 77 [aA 56] [] u65 := by
    rw [e151_51, k62]
    (try rw [← ht63])
    (try rw [← hu63])
    (try rw [k63])
    (try rw [← ht64])
    (try rw [← hu64])
    (try rw [k64])
    (try rw [← ht65])
    (try rw [← hu65])
    (try rw [k65])
    repeat rw [g_t (by decide)]
  obtain ⟨t66, ht66⟩ : ∃ z, z = alc u65 3 (fun _ => 0) := ⟨_, rfl⟩
  obtain ⟨a66, b66, c66, d66⟩ := al_spec ht66 k65 (by decide)
  obtain ⟨u66, hu66⟩ : ∃ z, z = up t66 56 16 66 := ⟨_, rfl⟩
  obtain ⟨e66, f66⟩ := up_spec hu66
  have k66 : u66 (-1) 0 = 67 := by rw [f66 _ _ (by decide)]; exact a66
  obtain ⟨t67, ht67⟩ : ∃ z, z = alc u66 3 (fun _ => 0) := ⟨_, rfl⟩
  obtain ⟨a67, b67, c67, d67⟩ := al_spec ht67 k66 (by decide)
  obtain ⟨u67, hu67⟩ : ∃ z, z = up t67 56 17 67 := ⟨_, rfl⟩
  obtain ⟨e67, f67⟩ := up_spec hu67
  have k67 : u67 (-1) 0 = 68 := by rw [f67 _ _ (by decide)]; exact a67
  obtain ⟨t68, ht68⟩ : ∃ z, z = alc u67 3 (fun _ => 0) := ⟨_, rfl⟩
  obtain ⟨a68, b68, c68, d68⟩ := al_spec ht68 k67 (by decide)
  obtain ⟨u68, hu68⟩ : ∃ z, z = up t68 56 18 68 := ⟨_, rfl⟩
  obtain ⟨e68, f68⟩ := up_spec hu68
  have k68 : u68 (-1) 0 = 69 := by rw [f68 _ _ (by decide)]; exact a68
  have x77 : sem 151 77 [aA 56] [] u65 = sem 151 98 [aA 56] [] u68 := by
    rw [e151_77, k65]
    (try rw [← ht66])
    (try rw [← hu66])
    (try rw [k66])
    (try rw [← ht67])
    (try rw [← hu67])
    (try rw [k67])
    (try rw [← ht68])
    (try rw [← hu68])
    (try rw [k68])
    repeat rw [g_t (by decide)]
  obtain ⟨t69, ht69⟩ : ∃ z, z = alc u68 6 (fun _ => 0) := ⟨_, rfl⟩
  obtain ⟨a69, b69, c69, d69⟩ := al_spec ht69 k68 (by decide)
  obtain ⟨u69, hu69⟩ : ∃ z, z = up t69 56 23 69 := ⟨_, rfl⟩
  obtain ⟨e69, f69⟩ := up_spec hu69
  have k69 : u69 (-1) 0 = 70 := by rw [f69 _ _ (by decide)]; exact a69
  obtain ⟨t70, ht70⟩ : ∃ z, z = alc u69 6 (fun _ => 0) := ⟨_, rfl⟩
  obtain ⟨a70, b70, c70, d70⟩ := al_spec ht70 k69 (by decide)
  obtain ⟨u70, hu70⟩ : ∃ z, z = up t70 56 24 70 := ⟨_, rfl⟩
  obtain ⟨e70, f70⟩ := up_spec hu70
  have k70 : u70 (-1) 0 = 71 := by rw [f70 _ _ (by decide)]; exact a70
  obtain ⟨t71, ht71⟩ : ∃ z, z = alc u70 6 (fun _ => 0) := ⟨_, rfl⟩
  obtain ⟨a71, b71, c71, d71⟩ := al_spec ht71 k70 (by decide)
  obtain ⟨u71, hu71⟩ : ∃ z, z = up t71 56 25 71 := ⟨_, rfl⟩
  obtain ⟨e71, f71⟩ := up_spec hu71
  have k71 : u71 (-1) 0 = 72 := by rw [f71 _ _ (by decide)]; exact a71
  have x98 : sem 151 98 [aA 56] [] u68 = sem 151 122 [aA 56] [] u71 := by
    rw [e151_98, k68]
    (try rw [← ht69])
    (try rw [← hu69])
    (try rw [k69])
    (try rw [← ht70])
    (try rw [← hu70])
    (try rw [k70])
    (try rw [← ht71])
    (try rw [← hu71])
    (try rw [k71])
    repeat rw [g_t (by decide)]
  obtain ⟨t72, ht72⟩ : ∃ z, z = alc u71 18 (fun _ => 0) := ⟨_, rfl⟩
  obtain ⟨a72, b72, c72, d72⟩ := al_spec ht72 k71 (by decide)
  obtain ⟨u72, hu72⟩ : ∃ z, z = up t72 56 26 72 := ⟨_, rfl⟩
  obtain ⟨e72, f72⟩ := up_spec hu72
  have k72 : u72 (-1) 0 = 73 := by rw [f72 _ _ (by decide)]; exact a72
  obtain ⟨t73, ht73⟩ : ∃ z, z = alc u72 18 (fun _ => 0) := ⟨_, rfl⟩
  obtain ⟨a73, b73, c73, d73⟩ := al_spec ht73 k72 (by decide)
  obtain ⟨u73, hu73⟩ : ∃ z, z = up t73 56 27 73 := ⟨_, rfl⟩
  obtain ⟨e73, f73⟩ := up_spec hu73
  have k73 : u73 (-1) 0 = 74 := by rw [f73 _ _ (by decide)]; exact a73
  obtain ⟨t74, ht74⟩ : ∃ z, z = alc u73 18 (fun _ => 0) := ⟨_, rfl⟩
  obtain ⟨a74, b74, c74, d74⟩ := al_spec ht74 k73 (by decide)
  obtain ⟨u74, hu74⟩ : ∃ z, z = up t74 56 28 74 := ⟨_, rfl⟩
  obtain ⟨e74, f74⟩ := up_spec hu74
  have k74 : u74 (-1) 0 = 75 := by rw [f74 _ _ (by decide)]; exact a74
  have x122 : sem 151 122 [aA 56] [] u71 = sem 151 146 [aA 56] [] u74 := by
    rw [e151_122, k71]
    (try rw [← ht72])
    (try rw [← hu72])
    (try rw [k72])
    (try rw [← ht73])
    (try rw [← hu73])
    (try rw [k73])
    (try rw [← ht74])
    (try rw [← hu74])
    (try rw [k74])
    repeat rw [g_t (by decide)]
  obtain ⟨t75, ht75⟩ : ∃ z, z = alc u74 18 (fun _ => 0) := ⟨_, rfl⟩
  obtain ⟨a75, b75, c75, d75⟩ := al_spec ht75 k74 (by decide)
  obtain ⟨u75, hu75⟩ : ∃ z, z = up t75 56 29 75 := ⟨_, rfl⟩
  obtain ⟨e75, f75⟩ := up_spec hu75
  have k75 : u75 (-1) 0 = 76 := by rw [f75 _ _ (by decide)]; exact a75
  obtain ⟨t76, ht76⟩ : ∃ z, z = alc u75 3 (fun _ => 0) := ⟨_, rfl⟩
  obtain ⟨a76, b76, c76, d76⟩ := al_spec ht76 k75 (by decide)
  obtain ⟨u76, hu76⟩ : ∃ z, z = up t76 56 30 76 := ⟨_, rfl⟩
  obtain ⟨e76, f76⟩ := up_spec hu76
  have k76 : u76 (-1) 0 = 77 := by rw [f76 _ _ (by decide)]; exact a76
  obtain ⟨t77, ht77⟩ : ∃ z, z = alc u76 3 (fun _ => 0) := ⟨_, rfl⟩
  obtain ⟨a77, b77, c77, d77⟩ := al_spec ht77 k76 (by decide)
  obtain ⟨u77, hu77⟩ : ∃ z, z = up t77 56 31 77 := ⟨_, rfl⟩
  obtain ⟨e77, f77⟩ := up_spec hu77
  have k77 : u77 (-1) 0 = 78 := by rw [f77 _ _ (by decide)]; exact a77
  have x146 : sem 151 146 [aA 56] [] u74 = sem 151 168 [aA 56] [] u77 := by
    rw [e151_146, k74]
    (try rw [← ht75])
    (try rw [← hu75])
    (try rw [k75])
    (try rw [← ht76])
    (try rw [← hu76])
    (try rw [k76])
    (try rw [← ht77])
    (try rw [← hu77])
    (try rw [k77])
    repeat rw [g_t (by decide)]
  obtain ⟨t78, ht78⟩ : ∃ z, z = alc u77 3 (fun _ => 0) := ⟨_, rfl⟩
  obtain ⟨a78, b78, c78, d78⟩ := al_spec ht78 k77 (by decide)
  obtain ⟨u78, hu78⟩ : ∃ z, z = up t78 56 32 78 := ⟨_, rfl⟩
  obtain ⟨e78, f78⟩ := up_spec hu78
  have k78 : u78 (-1) 0 = 79 := by rw [f78 _ _ (by decide)]; exact a78
  obtain ⟨t79, ht79⟩ : ∃ z, z = alc u78 2 (fun _ => 0) := ⟨_, rfl⟩
  obtain ⟨a79, b79, c79, d79⟩ := al_spec ht79 k78 (by decide)
  obtain ⟨u79, hu79⟩ : ∃ z, z = up t79 56 39 79 := ⟨_, rfl⟩
  obtain ⟨e79, f79⟩ := up_spec hu79
  have k79 : u79 (-1) 0 = 80 := by rw [f79 _ _ (by decide)]; exact a79
  obtain ⟨t80, ht80⟩ : ∃ z, z = alc u79 6 (fun _ => 0) := ⟨_, rfl⟩
  obtain ⟨a80, b80, c80, d80⟩ := al_spec ht80 k79 (by decide)
  obtain ⟨u80, hu80⟩ : ∃ z, z = up t80 56 40 80 := ⟨_, rfl⟩
  obtain ⟨e80, f80⟩ := up_spec hu80
  have k80 : u80 (-1) 0 = 81 := by rw [f80 _ _ (by decide)]; exact a80
  have x168 : sem 151 168 [aA 56] [] u77 = sem 151 190 [aA 56] [] u80 := by
    rw [e151_168, k77]
    (try rw [← ht78])
    (try rw [← hu78])
    (try rw [k78])
    (try rw [← ht79])
    (try rw [← hu79])
    (try rw [k79])
    (try rw [← ht80])
    (try rw [← hu80])
    (try rw [k80])
    repeat rw [g_t (by decide)]
  obtain ⟨t81, ht81⟩ : ∃ z, z = alc u80 6 (fun _ => 0) := ⟨_, rfl⟩
  obtain ⟨a81, b81, c81, d81⟩ := al_spec ht81 k80 (by decide)
  obtain ⟨u81, hu81⟩ : ∃ z, z = up t81 56 41 81 := ⟨_, rfl⟩
  obtain ⟨e81, f81⟩ := up_spec hu81
  have k81 : u81 (-1) 0 = 82 := by rw [f81 _ _ (by decide)]; exact a81
  obtain ⟨t82, ht82⟩ : ∃ z, z = alc u81 6 (fun _ => 0) := ⟨_, rfl⟩
  obtain ⟨a82, b82, c82, d82⟩ := al_spec ht82 k81 (by decide)
  obtain ⟨u82, hu82⟩ : ∃ z, z = up t82 56 42 82 := ⟨_, rfl⟩
  obtain ⟨e82, f82⟩ := up_spec hu82
  have k82 : u82 (-1) 0 = 83 := by rw [f82 _ _ (by decide)]; exact a82
  obtain ⟨t83, ht83⟩ : ∃ z, z = alc u82 10 (fun _ => 0) := ⟨_, rfl⟩
  obtain ⟨a83, b83, c83, d83⟩ := al_spec ht83 k82 (by decide)
  obtain ⟨u83, hu83⟩ : ∃ z, z = up t83 56 43 83 := ⟨_, rfl⟩
  obtain ⟨e83, f83⟩ := up_spec hu83
  have k83 : u83 (-1) 0 = 84 := by rw [f83 _ _ (by decide)]; exact a83
  have x190 : sem 151 190 [aA 56] [] u80 = sem 151 214 [aA 56] [] u83 := by
    rw [e151_190, k80]
    (try rw [← ht81])
    (try rw [← hu81])
    (try rw [k81])
    (try rw [← ht82])
    (try rw [← hu82])
    (try rw [k82])
    (try rw [← ht83])
    (try rw [← hu83])
    (try rw [k83])
    repeat rw [g_t (by decide)]
  obtain ⟨t84, ht84⟩ : ∃ z, z = alc u83 36 (fun _ => 0) := ⟨_, rfl⟩
  obtain ⟨a84, b84, c84, d84⟩ := al_spec ht84 k83 (by decide)
  obtain ⟨u84, hu84⟩ : ∃ z, z = up t84 56 44 84 := ⟨_, rfl⟩
  obtain ⟨e84, f84⟩ := up_spec hu84
  have k84 : u84 (-1) 0 = 85 := by rw [f84 _ _ (by decide)]; exact a84
  have hR : RefC u84 := by
    unfold RefP at hP
    unfold RefC
    simp (disch := omega) only [f84, e84, d84, c84, b84, f83, e83, d83, c83, b83, f82, e82, d82, c82, b82, f81, e81, d81, c81, b81, f80, e80, d80, c80, b80, f79, e79, d79, c79, b79, f78, e78, d78, c78, b78, f77, e77, d77, c77, b77, f76, e76, d76, c76, b76, f75, e75, d75, c75, b75, f74, e74, d74, c74, b74, f73, e73, d73, c73, b73, f72, e72, d72, c72, b72, f71, e71, d71, c71, b71, f70, e70, d70, c70, b70, f69, e69, d69, c69, b69, f68, e68, d68, c68, b68, f67, e67, d67, c67, b67, f66, e66, d66, c66, b66, f65, e65, d65, c65, b65, f64, e64, d64, c64, b64, f63, e63, d63, c63, b63, f62, e62, d62, c62, b62, f61, e61, d61, c61, b61, f60, e60, d60, c60, b60, f59, e59, d59, c59, b59, f58, e58, d58, c58, b58, f57, e57, d57, c57, b57, hP, and_self]
  have g4 : u84 56 4 = 0 := by
    simp (disch := omega) only [f84, e84, d84, c84, b84, f83, e83, d83, c83, b83, f82, e82, d82, c82, b82, f81, e81, d81, c81, b81, f80, e80, d80, c80, b80, f79, e79, d79, c79, b79, f78, e78, d78, c78, b78, f77, e77, d77, c77, b77, f76, e76, d76, c76, b76, f75, e75, d75, c75, b75, f74, e74, d74, c74, b74, f73, e73, d73, c73, b73, f72, e72, d72, c72, b72, f71, e71, d71, c71, b71, f70, e70, d70, c70, b70, f69, e69, d69, c69, b69, f68, e68, d68, c68, b68, f67, e67, d67, c67, b67, f66, e66, d66, c66, b66, f65, e65, d65, c65, b65, f64, e64, d64, c64, b64, f63, e63, d63, c63, b63, f62, e62, d62, c62, b62, f61, e61, d61, c61, b61, f60, e60, d60, c60, b60, f59, e59, d59, c59, b59, f58, e58, d58, c58, b58, f57, e57, d57, c57, b57, h4]
  have g69 : ∀ i, u84 69 i = 0 := fun i => by
    simp (disch := omega) only [f84, e84, d84, c84, b84, f83, e83, d83, c83, b83, f82, e82, d82, c82, b82, f81, e81, d81, c81, b81, f80, e80, d80, c80, b80, f79, e79, d79, c79, b79, f78, e78, d78, c78, b78, f77, e77, d77, c77, b77, f76, e76, d76, c76, b76, f75, e75, d75, c75, b75, f74, e74, d74, c74, b74, f73, e73, d73, c73, b73, f72, e72, d72, c72, b72, f71, e71, d71, c71, b71, f70, e70, d70, c70, b70, f69, e69, d69, c69, b69, f68, e68, d68, c68, b68, f67, e67, d67, c67, b67, f66, e66, d66, c66, b66, f65, e65, d65, c65, b65, f64, e64, d64, c64, b64, f63, e63, d63, c63, b63, f62, e62, d62, c62, b62, f61, e61, d61, c61, b61, f60, e60, d60, c60, b60, f59, e59, d59, c59, b59, f58, e58, d58, c58, b58, f57, e57, d57, c57, b57]
  have g70 : ∀ i, u84 70 i = 0 := fun i => by
    simp (disch := omega) only [f84, e84, d84, c84, b84, f83, e83, d83, c83, b83, f82, e82, d82, c82, b82, f81, e81, d81, c81, b81, f80, e80, d80, c80, b80, f79, e79, d79, c79, b79, f78, e78, d78, c78, b78, f77, e77, d77, c77, b77, f76, e76, d76, c76, b76, f75, e75, d75, c75, b75, f74, e74, d74, c74, b74, f73, e73, d73, c73, b73, f72, e72, d72, c72, b72, f71, e71, d71, c71, b71, f70, e70, d70, c70, b70, f69, e69, d69, c69, b69, f68, e68, d68, c68, b68, f67, e67, d67, c67, b67, f66, e66, d66, c66, b66, f65, e65, d65, c65, b65, f64, e64, d64, c64, b64, f63, e63, d63, c63, b63, f62, e62, d62, c62, b62, f61, e61, d61, c61, b61, f60, e60, d60, c60, b60, f59, e59, d59, c59, b59, f58, e58, d58, c58, b58, f57, e57, d57, c57, b57]
  have g71 : ∀ i, u84 71 i = 0 := fun i => by
    simp (disch := omega) only [f84, e84, d84, c84, b84, f83, e83, d83, c83, b83, f82, e82, d82, c82, b82, f81, e81, d81, c81, b81, f80, e80, d80, c80, b80, f79, e79, d79, c79, b79, f78, e78, d78, c78, b78, f77, e77, d77, c77, b77, f76, e76, d76, c76, b76, f75, e75, d75, c75, b75, f74, e74, d74, c74, b74, f73, e73, d73, c73, b73, f72, e72, d72, c72, b72, f71, e71, d71, c71, b71, f70, e70, d70, c70, b70, f69, e69, d69, c69, b69, f68, e68, d68, c68, b68, f67, e67, d67, c67, b67, f66, e66, d66, c66, b66, f65, e65, d65, c65, b65, f64, e64, d64, c64, b64, f63, e63, d63, c63, b63, f62, e62, d62, c62, b62, f61, e61, d61, c61, b61, f60, e60, d60, c60, b60, f59, e59, d59, c59, b59, f58, e58, d58, c58, b58, f57, e57, d57, c57, b57]
  have gs : u84 (-1) 1 = s (-1) 1 + 4735 := by
    simp (disch := omega) only [f84, e84, d84, c84, b84, f83, e83, d83, c83, b83, f82, e82, d82, c82, b82, f81, e81, d81, c81, b81, f80, e80, d80, c80, b80, f79, e79, d79, c79, b79, f78, e78, d78, c78, b78, f77, e77, d77, c77, b77, f76, e76, d76, c76, b76, f75, e75, d75, c75, b75, f74, e74, d74, c74, b74, f73, e73, d73, c73, b73, f72, e72, d72, c72, b72, f71, e71, d71, c71, b71, f70, e70, d70, c70, b70, f69, e69, d69, c69, b69, f68, e68, d68, c68, b68, f67, e67, d67, c67, b67, f66, e66, d66, c66, b66, f65, e65, d65, c65, b65, f64, e64, d64, c64, b64, f63, e63, d63, c63, b63, f62, e62, d62, c62, b62, f61, e61, d61, c61, b61, f60, e60, d60, c60, b60, f59, e59, d59, c59, b59, f58, e58, d58, c58, b58, f57, e57, d57, c57, b57]
    try omega
  have gf : ∀ k i, k ≠ -1 → ¬ (56 ≤ k ∧ k < 85) → u84 k i = s k i := fun k i h1 h2 => by
    simp (disch := omega) only [f84, e84, d84, c84, b84, f83, e83, d83, c83, b83, f82, e82, d82, c82, b82, f81, e81, d81, c81, b81, f80, e80, d80, c80, b80, f79, e79, d79, c79, b79, f78, e78, d78, c78, b78, f77, e77, d77, c77, b77, f76, e76, d76, c76, b76, f75, e75, d75, c75, b75, f74, e74, d74, c74, b74, f73, e73, d73, c73, b73, f72, e72, d72, c72, b72, f71, e71, d71, c71, b71, f70, e70, d70, c70, b70, f69, e69, d69, c69, b69, f68, e68, d68, c68, b68, f67, e67, d67, c67, b67, f66, e66, d66, c66, b66, f65, e65, d65, c65, b65, f64, e64, d64, c64, b64, f63, e63, d63, c63, b63, f62, e62, d62, c62, b62, f61, e61, d61, c61, b61, f60, e60, d60, c60, b60, f59, e59, d59, c59, b59, f58, e58, d58, c58, b58, f57, e57, d57, c57, b57]
  obtain ⟨s1, i1, i2, i3, i4⟩ := l_blank 28 0 u84 (by decide) (by decide) hR
  have y0 : s1 56 0 = 57 := by rw [i4 56 0 (by omega) (by omega)]; simp (disch := omega) only [f84, e84, d84, c84, b84, f83, e83, d83, c83, b83, f82, e82, d82, c82, b82, f81, e81, d81, c81, b81, f80, e80, d80, c80, b80, f79, e79, d79, c79, b79, f78, e78, d78, c78, b78, f77, e77, d77, c77, b77, f76, e76, d76, c76, b76, f75, e75, d75, c75, b75, f74, e74, d74, c74, b74, f73, e73, d73, c73, b73, f72, e72, d72, c72, b72, f71, e71, d71, c71, b71, f70, e70, d70, c70, b70, f69, e69, d69, c69, b69, f68, e68, d68, c68, b68, f67, e67, d67, c67, b67, f66, e66, d66, c66, b66, f65, e65, d65, c65, b65, f64, e64, d64, c64, b64, f63, e63, d63, c63, b63, f62, e62, d62, c62, b62, f61, e61, d61, c61, b61, f60, e60, d60, c60, b60, f59, e59, d59, c59, b59, f58, e58, d58, c58, b58, f57, e57, d57, c57, b57]
  have R1 : RefC (up s1 57 0 1) := RefC.upd i2 (rcb_a (by decide))
  obtain ⟨s2, j1, j2, j3, j4, j5, j6⟩ := c_takeT R1
  have xE : sem 151 214 [aA 56] [] u83 = some (aU, s2) := by
    rw [e151_214, k83]
    repeat rw [g_t (by decide)]
    rw [← ht84, ← hu84, g153_0 hR, i1, bnV_some, y0]
    repeat rw [g_t (by decide)]
    rw [j1, bnV_some]
  have fr : ∀ q i, q ≠ 58 → ¬ (66 ≤ q ∧ q ≤ 68) → ¬ (q = 79 ∧ 0 ≤ i ∧ i ≤ 1) → ¬ (q = 56 ∧ (i = 9 ∨ i = 15 ∨ (19 ≤ i ∧ i ≤ 22))) → q ≠ 57 → q ≠ 59 → s2 q i = u84 q i := fun q i h1 h2 h3 h4 h5 h6 => by
    rw [j6 q i h1 h2 h3 h4, up_ne h5, i4 q i (fun z => h5 z.1) (fun z => h6 z.1)]
  obtain ⟨m1, m2, m3, m4, m5, m6, m7, m8⟩ := j4
  refine ⟨s2, ?_, ?_, ?_, j2, fun i i0 i1 => ?_, ⟨?_, m1, m2, m3, m4, m5, m6, m7, m8⟩, j5, fun i _ _ => ?_, fun k i h1 h2 => ?_⟩
  · rw [x0, x28, x51, x77, x98, x122, x146, x168, x190, xE]
  · rw [fr _ _ (by omega) (by omega) (by omega) (by omega) (by omega) (by omega)]
    exact k84
  · rw [fr _ _ (by omega) (by omega) (by omega) (by omega) (by omega) (by omega)]
    exact gs
  · rw [j3 i i0 i1]
    unfold T0
    by_cases z : i = 0
    · rw [z, up_at, if_pos rfl]
    · rw [up_ni z, if_neg z, (i3 i i0 i1).1]
  · rw [fr _ _ (by omega) (by omega) (by omega) (by omega) (by omega) (by omega)]
    exact g4
  · rw [fr _ _ (by omega) (by omega) (by omega) (by omega) (by omega) (by omega), fr _ _ (by omega) (by omega) (by omega) (by omega) (by omega) (by omega), fr _ _ (by omega) (by omega) (by omega) (by omega) (by omega) (by omega)]
    exact ⟨g69 i, g70 i, g71 i⟩
  · rw [fr _ _ (by omega) (by omega) (by omega) (by omega) (by omega) (by omega)]
    exact gf k i h1 h2

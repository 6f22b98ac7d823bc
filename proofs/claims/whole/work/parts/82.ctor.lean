/-! constructors: what each leaves -/
theorem al_spec {s t : SG} {N n : Int} {f : Int → Int} (ht : t = alc s n f) (h0 : s (-1) 0 = N) (hN : N ≠ -1) : t (-1) 0 = N + 1 ∧ t (-1) 1 = s (-1) 1 + n ∧ (∀ i, t N i = f i) ∧ ∀ k i, k ≠ -1 → k ≠ N → t k i = s k i := by
  subst ht
  subst h0
  unfold alc
  refine ⟨?_, ?_, fun i => if_pos rfl, fun k i h1 h2 => ?_⟩
  · rw [if_neg (fun z => hN z.symm), if_pos ⟨rfl, rfl⟩]
  · rw [if_neg (fun z => hN z.symm), if_neg (fun z => by have := z.2; omega), if_pos ⟨rfl, rfl⟩]
  · rw [if_neg h2, if_neg (fun z => h1 z.1), if_neg (fun z => h1 z.1)]
theorem up_spec {t u : SG} {p j v : Int} (hu : u = up t p j v) : u p j = v ∧ ∀ k i, ¬ (k = p ∧ i = j) → u k i = t k i := by
  subst hu
  exact ⟨up_at _ _ _ _, fun k i h => by rw [up_app, if_neg h]⟩
set_option maxHeartbeats 4000000 in
theorem n_text {s : SG} (h0 : s (-1) 0 = 2) : ∃ s', sem 74 0 [aA 1] [] s = some (aU, s') ∧ s' (-1) 0 = 3 ∧ s' (-1) 1 = s (-1) 1 + 64 ∧ ((s' 1 0 = 2 ∧ s' 1 1 = 0) ∧ ((∀ i, 0 ≤ i → i < 64 → s' 2 i = 0))) ∧ ∀ k i, k ≠ -1 → ¬ (1 ≤ k ∧ k < 3) → s' k i = s k i := by
  -- from 0
  obtain ⟨t1, ht1⟩ : ∃ z, z = alc s 64 (fun _ => 0) := ⟨_, rfl⟩
  obtain ⟨a1, b1, c1, d1⟩ := al_spec ht1 h0 (by decide)
  rw [show (2 : Int) + 1 = 3 from rfl] at a1
  obtain ⟨u2, hu2⟩ : ∃ z, z = up t1 1 0 (2) := ⟨_, rfl⟩
  obtain ⟨e2, f2⟩ := up_spec hu2
  have k2 : u2 (-1) 0 = 3 := by rw [f2 _ _ (by decide)]; exact a1
  obtain ⟨u3, hu3⟩ : ∃ z, z = up u2 1 1 (0) := ⟨_, rfl⟩
  obtain ⟨e3, f3⟩ := up_spec hu3
  have k3 : u3 (-1) 0 = 3 := by rw [f3 _ _ (by decide)]; exact k2
  have x0 : sem 74 0 [aA 1] [] s = some (aU, u3) := by
    rw [e74_0]
    rw [h0]
    (try rw [← ht1])
    (try rw [← hu2])
    (try rw [k2])
    (try rw [← hu3])
    (try rw [k3])
    repeat rw [g_t (by decide)]
  refine ⟨u3, ?_, k3, ?_, ⟨?_, ?_⟩, fun k i h1 h2 => ?_⟩
  · rw [x0]
  · simp (disch := omega) only [f3, e3, f2, e2, d1, c1, b1, a1]
    try omega
  · simp (disch := omega) only [f3, e3, f2, e2, d1, c1, b1, a1, and_self]
  · intro i i0 i1
    simp (disch := omega) only [f3, e3, f2, e2, d1, c1, b1, a1]
  · simp (disch := omega) only [f3, e3, f2, e2, d1, c1, b1, a1]
set_option maxHeartbeats 4000000 in
theorem n_reader {s : SG} (h0 : s (-1) 0 = 4) : ∃ s', sem 30 0 [aA 3] [] s = some (aU, s') ∧ s' (-1) 0 = 5 ∧ s' (-1) 1 = s (-1) 1 + 18 ∧ ((s' 3 0 = 4 ∧ s' 3 1 = 0 ∧ s' 3 2 = 0) ∧ ((∀ i, 0 ≤ i → i < 18 → s' 4 i = 0))) ∧ ∀ k i, k ≠ -1 → ¬ (3 ≤ k ∧ k < 5) → s' k i = s k i := by
  -- from 0
  obtain ⟨t1, ht1⟩ : ∃ z, z = alc s 18 (fun _ => 0) := ⟨_, rfl⟩
  obtain ⟨a1, b1, c1, d1⟩ := al_spec ht1 h0 (by decide)
  rw [show (4 : Int) + 1 = 5 from rfl] at a1
  obtain ⟨u2, hu2⟩ : ∃ z, z = up t1 3 0 (4) := ⟨_, rfl⟩
  obtain ⟨e2, f2⟩ := up_spec hu2
  have k2 : u2 (-1) 0 = 5 := by rw [f2 _ _ (by decide)]; exact a1
  obtain ⟨u3, hu3⟩ : ∃ z, z = up u2 3 1 (0) := ⟨_, rfl⟩
  obtain ⟨e3, f3⟩ := up_spec hu3
  have k3 : u3 (-1) 0 = 5 := by rw [f3 _ _ (by decide)]; exact k2
  obtain ⟨u4, hu4⟩ : ∃ z, z = up u3 3 2 (0) := ⟨_, rfl⟩
  obtain ⟨e4, f4⟩ := up_spec hu4
  have k4 : u4 (-1) 0 = 5 := by rw [f4 _ _ (by decide)]; exact k3
  have x0 : sem 30 0 [aA 3] [] s = some (aU, u4) := by
    rw [e30_0]
    rw [h0]
    (try rw [← ht1])
    (try rw [← hu2])
    (try rw [k2])
    (try rw [← hu3])
    (try rw [k3])
    (try rw [← hu4])
    (try rw [k4])
    repeat rw [g_t (by decide)]
  refine ⟨u4, ?_, k4, ?_, ⟨?_, ?_⟩, fun k i h1 h2 => ?_⟩
  · rw [x0]
  · simp (disch := omega) only [f4, e4, f3, e3, f2, e2, d1, c1, b1, a1]
    try omega
  · simp (disch := omega) only [f4, e4, f3, e3, f2, e2, d1, c1, b1, a1, and_self]
  · intro i i0 i1
    simp (disch := omega) only [f4, e4, f3, e3, f2, e2, d1, c1, b1, a1]
  · simp (disch := omega) only [f4, e4, f3, e3, f2, e2, d1, c1, b1, a1]
set_option maxHeartbeats 4000000 in
theorem n_apart {s : SG} (h0 : s (-1) 0 = 6) : ∃ s', sem 0 0 [aA 5] [] s = some (aU, s') ∧ s' (-1) 0 = 10 ∧ s' (-1) 1 = s (-1) 1 + 376 ∧ ((s' 5 0 = 6 ∧ s' 5 1 = 7 ∧ s' 5 2 = 8 ∧ s' 5 3 = 9 ∧ s' 5 4 = 1) ∧ ((∀ i, 0 ≤ i → i < 183 → s' 6 i = 0)) ∧ ((∀ i, 0 ≤ i → i < 183 → s' 7 i = 0)) ∧ ((∀ i, 0 ≤ i → i < 7 → s' 8 i = 0)) ∧ ((∀ i, 0 ≤ i → i < 3 → s' 9 i = 0))) ∧ ∀ k i, k ≠ -1 → ¬ (5 ≤ k ∧ k < 10) → s' k i = s k i := by
  -- from 0
  obtain ⟨t1, ht1⟩ : ∃ z, z = alc s 183 (fun _ => 0) := ⟨_, rfl⟩
  obtain ⟨a1, b1, c1, d1⟩ := al_spec ht1 h0 (by decide)
  rw [show (6 : Int) + 1 = 7 from rfl] at a1
  obtain ⟨u2, hu2⟩ : ∃ z, z = up t1 5 0 (6) := ⟨_, rfl⟩
  obtain ⟨e2, f2⟩ := up_spec hu2
  have k2 : u2 (-1) 0 = 7 := by rw [f2 _ _ (by decide)]; exact a1
  obtain ⟨t3, ht3⟩ : ∃ z, z = alc u2 183 (fun _ => 0) := ⟨_, rfl⟩
  obtain ⟨a3, b3, c3, d3⟩ := al_spec ht3 k2 (by decide)
  rw [show (7 : Int) + 1 = 8 from rfl] at a3
  obtain ⟨u4, hu4⟩ : ∃ z, z = up t3 5 1 (7) := ⟨_, rfl⟩
  obtain ⟨e4, f4⟩ := up_spec hu4
  have k4 : u4 (-1) 0 = 8 := by rw [f4 _ _ (by decide)]; exact a3
  obtain ⟨t5, ht5⟩ : ∃ z, z = alc u4 7 (fun _ => 0) := ⟨_, rfl⟩
  obtain ⟨a5, b5, c5, d5⟩ := al_spec ht5 k4 (by decide)
  rw [show (8 : Int) + 1 = 9 from rfl] at a5
  obtain ⟨u6, hu6⟩ : ∃ z, z = up t5 5 2 (8) := ⟨_, rfl⟩
  obtain ⟨e6, f6⟩ := up_spec hu6
  have k6 : u6 (-1) 0 = 9 := by rw [f6 _ _ (by decide)]; exact a5
  have x0 : sem 0 0 [aA 5] [] s = sem 0 30 [aA 5] [] u6 := by
    rw [e0_0]
    rw [h0]
    (try rw [← ht1])
    (try rw [← hu2])
    (try rw [k2])
    (try rw [← ht3])
    (try rw [← hu4])
    (try rw [k4])
    (try rw [← ht5])
    (try rw [← hu6])
    (try rw [k6])
    repeat rw [g_t (by decide)]
  -- from 30
  obtain ⟨t7, ht7⟩ : ∃ z, z = alc u6 3 (fun _ => 0) := ⟨_, rfl⟩
  obtain ⟨a7, b7, c7, d7⟩ := al_spec ht7 k6 (by decide)
  rw [show (9 : Int) + 1 = 10 from rfl] at a7
  obtain ⟨u8, hu8⟩ : ∃ z, z = up t7 5 3 (9) := ⟨_, rfl⟩
  obtain ⟨e8, f8⟩ := up_spec hu8
  have k8 : u8 (-1) 0 = 10 := by rw [f8 _ _ (by decide)]; exact a7
  obtain ⟨u9, hu9⟩ : ∃ z, z = up u8 5 4 (1) := ⟨_, rfl⟩
  obtain ⟨e9, f9⟩ := up_spec hu9
  have k9 : u9 (-1) 0 = 10 := by rw [f9 _ _ (by decide)]; exact k8
  have x30 : sem 0 30 [aA 5] [] u6 = some (aU, u9) := by
    rw [e0_30]
    rw [k6]
    (try rw [← ht7])
    (try rw [← hu8])
    (try rw [k8])
    (try rw [← hu9])
    (try rw [k9])
    repeat rw [g_t (by decide)]
  refine ⟨u9, ?_, k9, ?_, ⟨?_, ?_, ?_, ?_, ?_⟩, fun k i h1 h2 => ?_⟩
  · rw [x0, x30]
  · simp (disch := omega) only [f9, e9, f8, e8, d7, c7, b7, a7, f6, e6, d5, c5, b5, a5, f4, e4, d3, c3, b3, a3, f2, e2, d1, c1, b1, a1]
    try omega
  · simp (disch := omega) only [f9, e9, f8, e8, d7, c7, b7, a7, f6, e6, d5, c5, b5, a5, f4, e4, d3, c3, b3, a3, f2, e2, d1, c1, b1, a1, and_self]
  · intro i i0 i1
    simp (disch := omega) only [f9, e9, f8, e8, d7, c7, b7, a7, f6, e6, d5, c5, b5, a5, f4, e4, d3, c3, b3, a3, f2, e2, d1, c1, b1, a1]
  · intro i i0 i1
    simp (disch := omega) only [f9, e9, f8, e8, d7, c7, b7, a7, f6, e6, d5, c5, b5, a5, f4, e4, d3, c3, b3, a3, f2, e2, d1, c1, b1, a1]
  · intro i i0 i1
    simp (disch := omega) only [f9, e9, f8, e8, d7, c7, b7, a7, f6, e6, d5, c5, b5, a5, f4, e4, d3, c3, b3, a3, f2, e2, d1, c1, b1, a1]
  · intro i i0 i1
    simp (disch := omega) only [f9, e9, f8, e8, d7, c7, b7, a7, f6, e6, d5, c5, b5, a5, f4, e4, d3, c3, b3, a3, f2, e2, d1, c1, b1, a1]
  · simp (disch := omega) only [f9, e9, f8, e8, d7, c7, b7, a7, f6, e6, d5, c5, b5, a5, f4, e4, d3, c3, b3, a3, f2, e2, d1, c1, b1, a1]
set_option maxHeartbeats 4000000 in
theorem n_sights {s : SG} (h0 : s (-1) 0 = 11) : ∃ s', sem 64 0 [aA 10] [] s = some (aU, s') ∧ s' (-1) 0 = 13 ∧ s' (-1) 1 = s (-1) 1 + 16 ∧ ((s' 10 0 = 11 ∧ s' 10 1 = 12 ∧ s' 10 2 = 0) ∧ ((∀ i, 0 ≤ i → i < 8 → s' 11 i = 0)) ∧ ((∀ i, 0 ≤ i → i < 8 → s' 12 i = 0))) ∧ ∀ k i, k ≠ -1 → ¬ (10 ≤ k ∧ k < 13) → s' k i = s k i := by
  -- from 0
  obtain ⟨t1, ht1⟩ : ∃ z, z = alc s 8 (fun _ => 0) := ⟨_, rfl⟩
  obtain ⟨a1, b1, c1, d1⟩ := al_spec ht1 h0 (by decide)
  rw [show (11 : Int) + 1 = 12 from rfl] at a1
  obtain ⟨u2, hu2⟩ : ∃ z, z = up t1 10 0 (11) := ⟨_, rfl⟩
  obtain ⟨e2, f2⟩ := up_spec hu2
  have k2 : u2 (-1) 0 = 12 := by rw [f2 _ _ (by decide)]; exact a1
  obtain ⟨t3, ht3⟩ : ∃ z, z = alc u2 8 (fun _ => 0) := ⟨_, rfl⟩
  obtain ⟨a3, b3, c3, d3⟩ := al_spec ht3 k2 (by decide)
  rw [show (12 : Int) + 1 = 13 from rfl] at a3
  obtain ⟨u4, hu4⟩ : ∃ z, z = up t3 10 1 (12) := ⟨_, rfl⟩
  obtain ⟨e4, f4⟩ := up_spec hu4
  have k4 : u4 (-1) 0 = 13 := by rw [f4 _ _ (by decide)]; exact a3
  obtain ⟨u5, hu5⟩ : ∃ z, z = up u4 10 2 (0) := ⟨_, rfl⟩
  obtain ⟨e5, f5⟩ := up_spec hu5
  have k5 : u5 (-1) 0 = 13 := by rw [f5 _ _ (by decide)]; exact k4
  have x0 : sem 64 0 [aA 10] [] s = some (aU, u5) := by
    rw [e64_0]
    rw [h0]
    (try rw [← ht1])
    (try rw [← hu2])
    (try rw [k2])
    (try rw [← ht3])
    (try rw [← hu4])
    (try rw [k4])
    (try rw [← hu5])
    (try rw [k5])
    repeat rw [g_t (by decide)]
  refine ⟨u5, ?_, k5, ?_, ⟨?_, ?_, ?_⟩, fun k i h1 h2 => ?_⟩
  · rw [x0]
  · simp (disch := omega) only [f5, e5, f4, e4, d3, c3, b3, a3, f2, e2, d1, c1, b1, a1]
    try omega
  · simp (disch := omega) only [f5, e5, f4, e4, d3, c3, b3, a3, f2, e2, d1, c1, b1, a1, and_self]
  · intro i i0 i1
    simp (disch := omega) only [f5, e5, f4, e4, d3, c3, b3, a3, f2, e2, d1, c1, b1, a1]
  · intro i i0 i1
    simp (disch := omega) only [f5, e5, f4, e4, d3, c3, b3, a3, f2, e2, d1, c1, b1, a1]
  · simp (disch := omega) only [f5, e5, f4, e4, d3, c3, b3, a3, f2, e2, d1, c1, b1, a1]
set_option maxHeartbeats 4000000 in
theorem n_plan {s : SG} (h0 : s (-1) 0 = 14) : ∃ s', sem 90 0 [aA 13] [] s = some (aU, s') ∧ s' (-1) 0 = 16 ∧ s' (-1) 1 = s (-1) 1 + 4394 ∧ ((s' 13 0 = 14 ∧ s' 13 1 = 15 ∧ s' 13 2 = 1) ∧ ((∀ i, 0 ≤ i → i < 2197 → s' 14 i = 0)) ∧ ((∀ i, 0 ≤ i → i < 2197 → s' 15 i = 0))) ∧ ∀ k i, k ≠ -1 → ¬ (13 ≤ k ∧ k < 16) → s' k i = s k i := by
  -- from 0
  obtain ⟨t1, ht1⟩ : ∃ z, z = alc s 2197 (fun _ => 0) := ⟨_, rfl⟩
  obtain ⟨a1, b1, c1, d1⟩ := al_spec ht1 h0 (by decide)
  rw [show (14 : Int) + 1 = 15 from rfl] at a1
  obtain ⟨u2, hu2⟩ : ∃ z, z = up t1 13 0 (14) := ⟨_, rfl⟩
  obtain ⟨e2, f2⟩ := up_spec hu2
  have k2 : u2 (-1) 0 = 15 := by rw [f2 _ _ (by decide)]; exact a1
  obtain ⟨t3, ht3⟩ : ∃ z, z = alc u2 2197 (fun _ => 0) := ⟨_, rfl⟩
  obtain ⟨a3, b3, c3, d3⟩ := al_spec ht3 k2 (by decide)
  rw [show (15 : Int) + 1 = 16 from rfl] at a3
  obtain ⟨u4, hu4⟩ : ∃ z, z = up t3 13 1 (15) := ⟨_, rfl⟩
  obtain ⟨e4, f4⟩ := up_spec hu4
  have k4 : u4 (-1) 0 = 16 := by rw [f4 _ _ (by decide)]; exact a3
  obtain ⟨u5, hu5⟩ : ∃ z, z = up u4 13 2 (1) := ⟨_, rfl⟩
  obtain ⟨e5, f5⟩ := up_spec hu5
  have k5 : u5 (-1) 0 = 16 := by rw [f5 _ _ (by decide)]; exact k4
  have x0 : sem 90 0 [aA 13] [] s = some (aU, u5) := by
    rw [e90_0]
    rw [h0]
    (try rw [← ht1])
    (try rw [← hu2])
    (try rw [k2])
    (try rw [← ht3])
    (try rw [← hu4])
    (try rw [k4])
    (try rw [← hu5])
    (try rw [k5])
    repeat rw [g_t (by decide)]
  refine ⟨u5, ?_, k5, ?_, ⟨?_, ?_, ?_⟩, fun k i h1 h2 => ?_⟩
  · rw [x0]
  · simp (disch := omega) only [f5, e5, f4, e4, d3, c3, b3, a3, f2, e2, d1, c1, b1, a1]
    try omega
  · simp (disch := omega) only [f5, e5, f4, e4, d3, c3, b3, a3, f2, e2, d1, c1, b1, a1, and_self]
  · intro i i0 i1
    simp (disch := omega) only [f5, e5, f4, e4, d3, c3, b3, a3, f2, e2, d1, c1, b1, a1]
  · intro i i0 i1
    simp (disch := omega) only [f5, e5, f4, e4, d3, c3, b3, a3, f2, e2, d1, c1, b1, a1]
  · simp (disch := omega) only [f5, e5, f4, e4, d3, c3, b3, a3, f2, e2, d1, c1, b1, a1]
set_option maxHeartbeats 4000000 in
theorem n_morn16 {s : SG} (h0 : s (-1) 0 = 17) : ∃ s', sem 17 0 [aA 16] [] s = some (aU, s') ∧ s' (-1) 0 = 23 ∧ s' (-1) 1 = s (-1) 1 + 27 ∧ ((s' 16 0 = 17 ∧ s' 16 1 = 18 ∧ s' 16 2 = 19 ∧ s' 16 3 = 20 ∧ s' 16 4 = 21 ∧ s' 16 5 = 22 ∧ s' 16 6 = 0 ∧ s' 16 7 = 0 ∧ s' 16 8 = 0 ∧ s' 16 9 = 0 ∧ s' 16 10 = 0) ∧ ((∀ i, 0 ≤ i → i < 3 → s' 17 i = 0)) ∧ ((∀ i, 0 ≤ i → i < 3 → s' 18 i = 5)) ∧ ((∀ i, 0 ≤ i → i < 3 → s' 19 i = 0)) ∧ ((∀ i, 0 ≤ i → i < 6 → s' 20 i = 0)) ∧ ((∀ i, 0 ≤ i → i < 6 → s' 21 i = 0)) ∧ ((∀ i, 0 ≤ i → i < 6 → s' 22 i = 0))) ∧ ∀ k i, k ≠ -1 → ¬ (16 ≤ k ∧ k < 23) → s' k i = s k i := by
  -- from 0
  obtain ⟨t1, ht1⟩ : ∃ z, z = alc s 3 (fun _ => 0) := ⟨_, rfl⟩
  obtain ⟨a1, b1, c1, d1⟩ := al_spec ht1 h0 (by decide)
  rw [show (17 : Int) + 1 = 18 from rfl] at a1
  obtain ⟨u2, hu2⟩ : ∃ z, z = up t1 16 0 (17) := ⟨_, rfl⟩
  obtain ⟨e2, f2⟩ := up_spec hu2
  have k2 : u2 (-1) 0 = 18 := by rw [f2 _ _ (by decide)]; exact a1
  obtain ⟨t3, ht3⟩ : ∃ z, z = alc u2 3 (fun _ => 0) := ⟨_, rfl⟩
  obtain ⟨a3, b3, c3, d3⟩ := al_spec ht3 k2 (by decide)
  rw [show (18 : Int) + 1 = 19 from rfl] at a3
  obtain ⟨u4, hu4⟩ : ∃ z, z = up t3 16 1 (18) := ⟨_, rfl⟩
  obtain ⟨e4, f4⟩ := up_spec hu4
  have k4 : u4 (-1) 0 = 19 := by rw [f4 _ _ (by decide)]; exact a3
  obtain ⟨t5, ht5⟩ : ∃ z, z = alc u4 3 (fun _ => 0) := ⟨_, rfl⟩
  obtain ⟨a5, b5, c5, d5⟩ := al_spec ht5 k4 (by decide)
  rw [show (19 : Int) + 1 = 20 from rfl] at a5
  obtain ⟨u6, hu6⟩ : ∃ z, z = up t5 16 2 (19) := ⟨_, rfl⟩
  obtain ⟨e6, f6⟩ := up_spec hu6
  have k6 : u6 (-1) 0 = 20 := by rw [f6 _ _ (by decide)]; exact a5
  have x0 : sem 17 0 [aA 16] [] s = sem 17 25 [aA 16] [] u6 := by
    rw [e17_0]
    rw [h0]
    (try rw [← ht1])
    (try rw [← hu2])
    (try rw [k2])
    (try rw [← ht3])
    (try rw [← hu4])
    (try rw [k4])
    (try rw [← ht5])
    (try rw [← hu6])
    (try rw [k6])
    repeat rw [g_t (by decide)]
  -- from 25
  obtain ⟨t7, ht7⟩ : ∃ z, z = alc u6 6 (fun _ => 0) := ⟨_, rfl⟩
  obtain ⟨a7, b7, c7, d7⟩ := al_spec ht7 k6 (by decide)
  rw [show (20 : Int) + 1 = 21 from rfl] at a7
  obtain ⟨u8, hu8⟩ : ∃ z, z = up t7 16 3 (20) := ⟨_, rfl⟩
  obtain ⟨e8, f8⟩ := up_spec hu8
  have k8 : u8 (-1) 0 = 21 := by rw [f8 _ _ (by decide)]; exact a7
  obtain ⟨t9, ht9⟩ : ∃ z, z = alc u8 6 (fun _ => 0) := ⟨_, rfl⟩
  obtain ⟨a9, b9, c9, d9⟩ := al_spec ht9 k8 (by decide)
  rw [show (21 : Int) + 1 = 22 from rfl] at a9
  obtain ⟨u10, hu10⟩ : ∃ z, z = up t9 16 4 (21) := ⟨_, rfl⟩
  obtain ⟨e10, f10⟩ := up_spec hu10
  have k10 : u10 (-1) 0 = 22 := by rw [f10 _ _ (by decide)]; exact a9
  obtain ⟨t11, ht11⟩ : ∃ z, z = alc u10 6 (fun _ => 0) := ⟨_, rfl⟩
  obtain ⟨a11, b11, c11, d11⟩ := al_spec ht11 k10 (by decide)
  rw [show (22 : Int) + 1 = 23 from rfl] at a11
  obtain ⟨u12, hu12⟩ : ∃ z, z = up t11 16 5 (22) := ⟨_, rfl⟩
  obtain ⟨e12, f12⟩ := up_spec hu12
  have k12 : u12 (-1) 0 = 23 := by rw [f12 _ _ (by decide)]; exact a11
  have x25 : sem 17 25 [aA 16] [] u6 = sem 17 49 [aA 16] [] u12 := by
    rw [e17_25]
    rw [k6]
    (try rw [← ht7])
    (try rw [← hu8])
    (try rw [k8])
    (try rw [← ht9])
    (try rw [← hu10])
    (try rw [k10])
    (try rw [← ht11])
    (try rw [← hu12])
    (try rw [k12])
    repeat rw [g_t (by decide)]
  -- from 49
  have x49 : sem 17 49 [aA 16] [] u12 = bnV (sem 18 0 [aA 16] [] u12) fun s1 => some (aU, s1) := by
    rw [e17_49]
    repeat rw [g_t (by decide)]
  obtain ⟨v13, hv13⟩ : ∃ z, z = fillS u12 17 (0) 0 := ⟨_, rfl⟩
  have e13 : ∀ i, 0 ≤ i → i < 3 → v13 17 i = 0 := fun i i0 i1 => by rw [hv13, fillS_app, if_pos ⟨rfl, i0, i1⟩]
  have f13 : ∀ k i, k ≠ 17 → v13 k i = u12 k i := fun k i hk => by rw [hv13, fillS_app, if_neg (fun z => hk z.1)]
  have k13 : v13 (-1) 0 = 23 := by rw [f13 _ _ (by decide)]; exact k12
  obtain ⟨v14, hv14⟩ : ∃ z, z = fillS v13 18 (5) 0 := ⟨_, rfl⟩
  have e14 : ∀ i, 0 ≤ i → i < 3 → v14 18 i = 5 := fun i i0 i1 => by rw [hv14, fillS_app, if_pos ⟨rfl, i0, i1⟩]
  have f14 : ∀ k i, k ≠ 18 → v14 k i = v13 k i := fun k i hk => by rw [hv14, fillS_app, if_neg (fun z => hk z.1)]
  have k14 : v14 (-1) 0 = 23 := by rw [f14 _ _ (by decide)]; exact k13
  obtain ⟨v15, hv15⟩ : ∃ z, z = fillS v14 19 (0) 0 := ⟨_, rfl⟩
  have e15 : ∀ i, 0 ≤ i → i < 3 → v15 19 i = 0 := fun i i0 i1 => by rw [hv15, fillS_app, if_pos ⟨rfl, i0, i1⟩]
  have f15 : ∀ k i, k ≠ 19 → v15 k i = v14 k i := fun k i hk => by rw [hv15, fillS_app, if_neg (fun z => hk z.1)]
  have k15 : v15 (-1) 0 = 23 := by rw [f15 _ _ (by decide)]; exact k14
  obtain ⟨u16, hu16⟩ : ∃ z, z = up v15 16 6 (0) := ⟨_, rfl⟩
  obtain ⟨e16, f16⟩ := up_spec hu16
  have k16 : u16 (-1) 0 = 23 := by rw [f16 _ _ (by decide)]; exact k15
  obtain ⟨u17, hu17⟩ : ∃ z, z = up u16 16 7 (0) := ⟨_, rfl⟩
  obtain ⟨e17, f17⟩ := up_spec hu17
  have k17 : u17 (-1) 0 = 23 := by rw [f17 _ _ (by decide)]; exact k16
  obtain ⟨u18, hu18⟩ : ∃ z, z = up u17 16 8 (0) := ⟨_, rfl⟩
  obtain ⟨e18, f18⟩ := up_spec hu18
  have k18 : u18 (-1) 0 = 23 := by rw [f18 _ _ (by decide)]; exact k17
  obtain ⟨u19, hu19⟩ : ∃ z, z = up u18 16 9 (0) := ⟨_, rfl⟩
  obtain ⟨e19, f19⟩ := up_spec hu19
  have k19 : u19 (-1) 0 = 23 := by rw [f19 _ _ (by decide)]; exact k18
  obtain ⟨u20, hu20⟩ : ∃ z, z = up u19 16 10 (0) := ⟨_, rfl⟩
  obtain ⟨e20, f20⟩ := up_spec hu20
  have k20 : u20 (-1) 0 = 23 := by rw [f20 _ _ (by decide)]; exact k19
  have xr : sem 18 0 [aA 16] [] u12 = some (aU, u20) := by
    have y0 : u12 16 0 = 17 := by simp (disch := omega) only [f20, e20, f19, e19, f18, e18, f17, e17, f16, e16, f15, e15, f14, e14, f13, e13, f12, e12, d11, c11, b11, a11, f10, e10, d9, c9, b9, a9, f8, e8, d7, c7, b7, a7, f6, e6, d5, c5, b5, a5, f4, e4, d3, c3, b3, a3, f2, e2, d1, c1, b1, a1]
    have y1 : v13 16 1 = 18 := by simp (disch := omega) only [f20, e20, f19, e19, f18, e18, f17, e17, f16, e16, f15, e15, f14, e14, f13, e13, f12, e12, d11, c11, b11, a11, f10, e10, d9, c9, b9, a9, f8, e8, d7, c7, b7, a7, f6, e6, d5, c5, b5, a5, f4, e4, d3, c3, b3, a3, f2, e2, d1, c1, b1, a1]
    have y2 : v14 16 2 = 19 := by simp (disch := omega) only [f20, e20, f19, e19, f18, e18, f17, e17, f16, e16, f15, e15, f14, e14, f13, e13, f12, e12, d11, c11, b11, a11, f10, e10, d9, c9, b9, a9, f8, e8, d7, c7, b7, a7, f6, e6, d5, c5, b5, a5, f4, e4, d3, c3, b3, a3, f2, e2, d1, c1, b1, a1]
    rw [e18_0, g_t (by decide), y0, g_t (by decide), c_fill (k := 17) rfl (by decide), ← hv13, bnV_some, g_t (by decide), y1, g_t (by decide), c_fill (k := 18) rfl (by decide), ← hv14, bnV_some, g_t (by decide), y2, g_t (by decide), c_fill (k := 19) rfl (by decide), ← hv15, bnV_some]
    (try rw [← hu16])
    (try rw [← hu17])
    (try rw [← hu18])
    (try rw [← hu19])
    (try rw [← hu20])
    repeat rw [g_t (by decide)]
  refine ⟨u20, ?_, k20, ?_, ⟨?_, ?_, ?_, ?_, ?_, ?_, ?_⟩, fun k i h1 h2 => ?_⟩
  · rw [x0, x25, x49, xr, bnV_some]
  · simp (disch := omega) only [f20, e20, f19, e19, f18, e18, f17, e17, f16, e16, f15, e15, f14, e14, f13, e13, f12, e12, d11, c11, b11, a11, f10, e10, d9, c9, b9, a9, f8, e8, d7, c7, b7, a7, f6, e6, d5, c5, b5, a5, f4, e4, d3, c3, b3, a3, f2, e2, d1, c1, b1, a1]
    try omega
  · simp (disch := omega) only [f20, e20, f19, e19, f18, e18, f17, e17, f16, e16, f15, e15, f14, e14, f13, e13, f12, e12, d11, c11, b11, a11, f10, e10, d9, c9, b9, a9, f8, e8, d7, c7, b7, a7, f6, e6, d5, c5, b5, a5, f4, e4, d3, c3, b3, a3, f2, e2, d1, c1, b1, a1, and_self]
  · intro i i0 i1
    simp (disch := omega) only [f20, e20, f19, e19, f18, e18, f17, e17, f16, e16, f15, e15, f14, e14, f13, e13, f12, e12, d11, c11, b11, a11, f10, e10, d9, c9, b9, a9, f8, e8, d7, c7, b7, a7, f6, e6, d5, c5, b5, a5, f4, e4, d3, c3, b3, a3, f2, e2, d1, c1, b1, a1]
  · intro i i0 i1
    simp (disch := omega) only [f20, e20, f19, e19, f18, e18, f17, e17, f16, e16, f15, e15, f14, e14, f13, e13, f12, e12, d11, c11, b11, a11, f10, e10, d9, c9, b9, a9, f8, e8, d7, c7, b7, a7, f6, e6, d5, c5, b5, a5, f4, e4, d3, c3, b3, a3, f2, e2, d1, c1, b1, a1]
  · intro i i0 i1
    simp (disch := omega) only [f20, e20, f19, e19, f18, e18, f17, e17, f16, e16, f15, e15, f14, e14, f13, e13, f12, e12, d11, c11, b11, a11, f10, e10, d9, c9, b9, a9, f8, e8, d7, c7, b7, a7, f6, e6, d5, c5, b5, a5, f4, e4, d3, c3, b3, a3, f2, e2, d1, c1, b1, a1]
  · intro i i0 i1
    simp (disch := omega) only [f20, e20, f19, e19, f18, e18, f17, e17, f16, e16, f15, e15, f14, e14, f13, e13, f12, e12, d11, c11, b11, a11, f10, e10, d9, c9, b9, a9, f8, e8, d7, c7, b7, a7, f6, e6, d5, c5, b5, a5, f4, e4, d3, c3, b3, a3, f2, e2, d1, c1, b1, a1]
  · intro i i0 i1
    simp (disch := omega) only [f20, e20, f19, e19, f18, e18, f17, e17, f16, e16, f15, e15, f14, e14, f13, e13, f12, e12, d11, c11, b11, a11, f10, e10, d9, c9, b9, a9, f8, e8, d7, c7, b7, a7, f6, e6, d5, c5, b5, a5, f4, e4, d3, c3, b3, a3, f2, e2, d1, c1, b1, a1]
  · intro i i0 i1
    simp (disch := omega) only [f20, e20, f19, e19, f18, e18, f17, e17, f16, e16, f15, e15, f14, e14, f13, e13, f12, e12, d11, c11, b11, a11, f10, e10, d9, c9, b9, a9, f8, e8, d7, c7, b7, a7, f6, e6, d5, c5, b5, a5, f4, e4, d3, c3, b3, a3, f2, e2, d1, c1, b1, a1]
  · simp (disch := omega) only [f20, e20, f19, e19, f18, e18, f17, e17, f16, e16, f15, e15, f14, e14, f13, e13, f12, e12, d11, c11, b11, a11, f10, e10, d9, c9, b9, a9, f8, e8, d7, c7, b7, a7, f6, e6, d5, c5, b5, a5, f4, e4, d3, c3, b3, a3, f2, e2, d1, c1, b1, a1]
set_option maxHeartbeats 4000000 in
theorem n_morn42 {s : SG} (h0 : s (-1) 0 = 43) : ∃ s', sem 17 0 [aA 42] [] s = some (aU, s') ∧ s' (-1) 0 = 49 ∧ s' (-1) 1 = s (-1) 1 + 27 ∧ ((s' 42 0 = 43 ∧ s' 42 1 = 44 ∧ s' 42 2 = 45 ∧ s' 42 3 = 46 ∧ s' 42 4 = 47 ∧ s' 42 5 = 48 ∧ s' 42 6 = 0 ∧ s' 42 7 = 0 ∧ s' 42 8 = 0 ∧ s' 42 9 = 0 ∧ s' 42 10 = 0) ∧ ((∀ i, 0 ≤ i → i < 3 → s' 43 i = 0)) ∧ ((∀ i, 0 ≤ i → i < 3 → s' 44 i = 5)) ∧ ((∀ i, 0 ≤ i → i < 3 → s' 45 i = 0)) ∧ ((∀ i, 0 ≤ i → i < 6 → s' 46 i = 0)) ∧ ((∀ i, 0 ≤ i → i < 6 → s' 47 i = 0)) ∧ ((∀ i, 0 ≤ i → i < 6 → s' 48 i = 0))) ∧ ∀ k i, k ≠ -1 → ¬ (42 ≤ k ∧ k < 49) → s' k i = s k i := by
  -- from 0
  obtain ⟨t1, ht1⟩ : ∃ z, z = alc s 3 (fun _ => 0) := ⟨_, rfl⟩
  obtain ⟨a1, b1, c1, d1⟩ := al_spec ht1 h0 (by decide)
  rw [show (43 : Int) + 1 = 44 from rfl] at a1
  obtain ⟨u2, hu2⟩ : ∃ z, z = up t1 42 0 (43) := ⟨_, rfl⟩
  obtain ⟨e2, f2⟩ := up_spec hu2
  have k2 : u2 (-1) 0 = 44 := by rw [f2 _ _ (by decide)]; exact a1
  obtain ⟨t3, ht3⟩ : ∃ z, z = alc u2 3 (fun _ => 0) := ⟨_, rfl⟩
  obtain ⟨a3, b3, c3, d3⟩ := al_spec ht3 k2 (by decide)
  rw [show (44 : Int) + 1 = 45 from rfl] at a3
  obtain ⟨u4, hu4⟩ : ∃ z, z = up t3 42 1 (44) := ⟨_, rfl⟩
  obtain ⟨e4, f4⟩ := up_spec hu4
  have k4 : u4 (-1) 0 = 45 := by rw [f4 _ _ (by decide)]; exact a3
  obtain ⟨t5, ht5⟩ : ∃ z, z = alc u4 3 (fun _ => 0) := ⟨_, rfl⟩
  obtain ⟨a5, b5, c5, d5⟩ := al_spec ht5 k4 (by decide)
  rw [show (45 : Int) + 1 = 46 from rfl] at a5
  obtain ⟨u6, hu6⟩ : ∃ z, z = up t5 42 2 (45) := ⟨_, rfl⟩
  obtain ⟨e6, f6⟩ := up_spec hu6
  have k6 : u6 (-1) 0 = 46 := by rw [f6 _ _ (by decide)]; exact a5
  have x0 : sem 17 0 [aA 42] [] s = sem 17 25 [aA 42] [] u6 := by
    rw [e17_0]
    rw [h0]
    (try rw [← ht1])
    (try rw [← hu2])
    (try rw [k2])
    (try rw [← ht3])
    (try rw [← hu4])
    (try rw [k4])
    (try rw [← ht5])
    (try rw [← hu6])
    (try rw [k6])
    repeat rw [g_t (by decide)]
  -- from 25
  obtain ⟨t7, ht7⟩ : ∃ z, z = alc u6 6 (fun _ => 0) := ⟨_, rfl⟩
  obtain ⟨a7, b7, c7, d7⟩ := al_spec ht7 k6 (by decide)
  rw [show (46 : Int) + 1 = 47 from rfl] at a7
  obtain ⟨u8, hu8⟩ : ∃ z, z = up t7 42 3 (46) := ⟨_, rfl⟩
  obtain ⟨e8, f8⟩ := up_spec hu8
  have k8 : u8 (-1) 0 = 47 := by rw [f8 _ _ (by decide)]; exact a7
  obtain ⟨t9, ht9⟩ : ∃ z, z = alc u8 6 (fun _ => 0) := ⟨_, rfl⟩
  obtain ⟨a9, b9, c9, d9⟩ := al_spec ht9 k8 (by decide)
  rw [show (47 : Int) + 1 = 48 from rfl] at a9
  obtain ⟨u10, hu10⟩ : ∃ z, z = up t9 42 4 (47) := ⟨_, rfl⟩
  obtain ⟨e10, f10⟩ := up_spec hu10
  have k10 : u10 (-1) 0 = 48 := by rw [f10 _ _ (by decide)]; exact a9
  obtain ⟨t11, ht11⟩ : ∃ z, z = alc u10 6 (fun _ => 0) := ⟨_, rfl⟩
  obtain ⟨a11, b11, c11, d11⟩ := al_spec ht11 k10 (by decide)
  rw [show (48 : Int) + 1 = 49 from rfl] at a11
  obtain ⟨u12, hu12⟩ : ∃ z, z = up t11 42 5 (48) := ⟨_, rfl⟩
  obtain ⟨e12, f12⟩ := up_spec hu12
  have k12 : u12 (-1) 0 = 49 := by rw [f12 _ _ (by decide)]; exact a11
  have x25 : sem 17 25 [aA 42] [] u6 = sem 17 49 [aA 42] [] u12 := by
    rw [e17_25]
    rw [k6]
    (try rw [← ht7])
    (try rw [← hu8])
    (try rw [k8])
    (try rw [← ht9])
    (try rw [← hu10])
    (try rw [k10])
    (try rw [← ht11])
    (try rw [← hu12])
    (try rw [k12])
    repeat rw [g_t (by decide)]
  -- from 49
  have x49 : sem 17 49 [aA 42] [] u12 = bnV (sem 18 0 [aA 42] [] u12) fun s1 => some (aU, s1) := by
    rw [e17_49]
    repeat rw [g_t (by decide)]
  obtain ⟨v13, hv13⟩ : ∃ z, z = fillS u12 43 (0) 0 := ⟨_, rfl⟩
  have e13 : ∀ i, 0 ≤ i → i < 3 → v13 43 i = 0 := fun i i0 i1 => by rw [hv13, fillS_app, if_pos ⟨rfl, i0, i1⟩]
  have f13 : ∀ k i, k ≠ 43 → v13 k i = u12 k i := fun k i hk => by rw [hv13, fillS_app, if_neg (fun z => hk z.1)]
  have k13 : v13 (-1) 0 = 49 := by rw [f13 _ _ (by decide)]; exact k12
  obtain ⟨v14, hv14⟩ : ∃ z, z = fillS v13 44 (5) 0 := ⟨_, rfl⟩
  have e14 : ∀ i, 0 ≤ i → i < 3 → v14 44 i = 5 := fun i i0 i1 => by rw [hv14, fillS_app, if_pos ⟨rfl, i0, i1⟩]
  have f14 : ∀ k i, k ≠ 44 → v14 k i = v13 k i := fun k i hk => by rw [hv14, fillS_app, if_neg (fun z => hk z.1)]
  have k14 : v14 (-1) 0 = 49 := by rw [f14 _ _ (by decide)]; exact k13
  obtain ⟨v15, hv15⟩ : ∃ z, z = fillS v14 45 (0) 0 := ⟨_, rfl⟩
  have e15 : ∀ i, 0 ≤ i → i < 3 → v15 45 i = 0 := fun i i0 i1 => by rw [hv15, fillS_app, if_pos ⟨rfl, i0, i1⟩]
  have f15 : ∀ k i, k ≠ 45 → v15 k i = v14 k i := fun k i hk => by rw [hv15, fillS_app, if_neg (fun z => hk z.1)]
  have k15 : v15 (-1) 0 = 49 := by rw [f15 _ _ (by decide)]; exact k14
  obtain ⟨u16, hu16⟩ : ∃ z, z = up v15 42 6 (0) := ⟨_, rfl⟩
  obtain ⟨e16, f16⟩ := up_spec hu16
  have k16 : u16 (-1) 0 = 49 := by rw [f16 _ _ (by decide)]; exact k15
  obtain ⟨u17, hu17⟩ : ∃ z, z = up u16 42 7 (0) := ⟨_, rfl⟩
  obtain ⟨e17, f17⟩ := up_spec hu17
  have k17 : u17 (-1) 0 = 49 := by rw [f17 _ _ (by decide)]; exact k16
  obtain ⟨u18, hu18⟩ : ∃ z, z = up u17 42 8 (0) := ⟨_, rfl⟩
  obtain ⟨e18, f18⟩ := up_spec hu18
  have k18 : u18 (-1) 0 = 49 := by rw [f18 _ _ (by decide)]; exact k17
  obtain ⟨u19, hu19⟩ : ∃ z, z = up u18 42 9 (0) := ⟨_, rfl⟩
  obtain ⟨e19, f19⟩ := up_spec hu19
  have k19 : u19 (-1) 0 = 49 := by rw [f19 _ _ (by decide)]; exact k18
  obtain ⟨u20, hu20⟩ : ∃ z, z = up u19 42 10 (0) := ⟨_, rfl⟩
  obtain ⟨e20, f20⟩ := up_spec hu20
  have k20 : u20 (-1) 0 = 49 := by rw [f20 _ _ (by decide)]; exact k19
  have xr : sem 18 0 [aA 42] [] u12 = some (aU, u20) := by
    have y0 : u12 42 0 = 43 := by simp (disch := omega) only [f20, e20, f19, e19, f18, e18, f17, e17, f16, e16, f15, e15, f14, e14, f13, e13, f12, e12, d11, c11, b11, a11, f10, e10, d9, c9, b9, a9, f8, e8, d7, c7, b7, a7, f6, e6, d5, c5, b5, a5, f4, e4, d3, c3, b3, a3, f2, e2, d1, c1, b1, a1]
    have y1 : v13 42 1 = 44 := by simp (disch := omega) only [f20, e20, f19, e19, f18, e18, f17, e17, f16, e16, f15, e15, f14, e14, f13, e13, f12, e12, d11, c11, b11, a11, f10, e10, d9, c9, b9, a9, f8, e8, d7, c7, b7, a7, f6, e6, d5, c5, b5, a5, f4, e4, d3, c3, b3, a3, f2, e2, d1, c1, b1, a1]
    have y2 : v14 42 2 = 45 := by simp (disch := omega) only [f20, e20, f19, e19, f18, e18, f17, e17, f16, e16, f15, e15, f14, e14, f13, e13, f12, e12, d11, c11, b11, a11, f10, e10, d9, c9, b9, a9, f8, e8, d7, c7, b7, a7, f6, e6, d5, c5, b5, a5, f4, e4, d3, c3, b3, a3, f2, e2, d1, c1, b1, a1]
    rw [e18_0, g_t (by decide), y0, g_t (by decide), c_fill (k := 43) rfl (by decide), ← hv13, bnV_some, g_t (by decide), y1, g_t (by decide), c_fill (k := 44) rfl (by decide), ← hv14, bnV_some, g_t (by decide), y2, g_t (by decide), c_fill (k := 45) rfl (by decide), ← hv15, bnV_some]
    (try rw [← hu16])
    (try rw [← hu17])
    (try rw [← hu18])
    (try rw [← hu19])
    (try rw [← hu20])
    repeat rw [g_t (by decide)]
  refine ⟨u20, ?_, k20, ?_, ⟨?_, ?_, ?_, ?_, ?_, ?_, ?_⟩, fun k i h1 h2 => ?_⟩
  · rw [x0, x25, x49, xr, bnV_some]
  · simp (disch := omega) only [f20, e20, f19, e19, f18, e18, f17, e17, f16, e16, f15, e15, f14, e14, f13, e13, f12, e12, d11, c11, b11, a11, f10, e10, d9, c9, b9, a9, f8, e8, d7, c7, b7, a7, f6, e6, d5, c5, b5, a5, f4, e4, d3, c3, b3, a3, f2, e2, d1, c1, b1, a1]
    try omega
  · simp (disch := omega) only [f20, e20, f19, e19, f18, e18, f17, e17, f16, e16, f15, e15, f14, e14, f13, e13, f12, e12, d11, c11, b11, a11, f10, e10, d9, c9, b9, a9, f8, e8, d7, c7, b7, a7, f6, e6, d5, c5, b5, a5, f4, e4, d3, c3, b3, a3, f2, e2, d1, c1, b1, a1, and_self]
  · intro i i0 i1
    simp (disch := omega) only [f20, e20, f19, e19, f18, e18, f17, e17, f16, e16, f15, e15, f14, e14, f13, e13, f12, e12, d11, c11, b11, a11, f10, e10, d9, c9, b9, a9, f8, e8, d7, c7, b7, a7, f6, e6, d5, c5, b5, a5, f4, e4, d3, c3, b3, a3, f2, e2, d1, c1, b1, a1]
  · intro i i0 i1
    simp (disch := omega) only [f20, e20, f19, e19, f18, e18, f17, e17, f16, e16, f15, e15, f14, e14, f13, e13, f12, e12, d11, c11, b11, a11, f10, e10, d9, c9, b9, a9, f8, e8, d7, c7, b7, a7, f6, e6, d5, c5, b5, a5, f4, e4, d3, c3, b3, a3, f2, e2, d1, c1, b1, a1]
  · intro i i0 i1
    simp (disch := omega) only [f20, e20, f19, e19, f18, e18, f17, e17, f16, e16, f15, e15, f14, e14, f13, e13, f12, e12, d11, c11, b11, a11, f10, e10, d9, c9, b9, a9, f8, e8, d7, c7, b7, a7, f6, e6, d5, c5, b5, a5, f4, e4, d3, c3, b3, a3, f2, e2, d1, c1, b1, a1]
  · intro i i0 i1
    simp (disch := omega) only [f20, e20, f19, e19, f18, e18, f17, e17, f16, e16, f15, e15, f14, e14, f13, e13, f12, e12, d11, c11, b11, a11, f10, e10, d9, c9, b9, a9, f8, e8, d7, c7, b7, a7, f6, e6, d5, c5, b5, a5, f4, e4, d3, c3, b3, a3, f2, e2, d1, c1, b1, a1]
  · intro i i0 i1
    simp (disch := omega) only [f20, e20, f19, e19, f18, e18, f17, e17, f16, e16, f15, e15, f14, e14, f13, e13, f12, e12, d11, c11, b11, a11, f10, e10, d9, c9, b9, a9, f8, e8, d7, c7, b7, a7, f6, e6, d5, c5, b5, a5, f4, e4, d3, c3, b3, a3, f2, e2, d1, c1, b1, a1]
  · intro i i0 i1
    simp (disch := omega) only [f20, e20, f19, e19, f18, e18, f17, e17, f16, e16, f15, e15, f14, e14, f13, e13, f12, e12, d11, c11, b11, a11, f10, e10, d9, c9, b9, a9, f8, e8, d7, c7, b7, a7, f6, e6, d5, c5, b5, a5, f4, e4, d3, c3, b3, a3, f2, e2, d1, c1, b1, a1]
  · simp (disch := omega) only [f20, e20, f19, e19, f18, e18, f17, e17, f16, e16, f15, e15, f14, e14, f13, e13, f12, e12, d11, c11, b11, a11, f10, e10, d9, c9, b9, a9, f8, e8, d7, c7, b7, a7, f6, e6, d5, c5, b5, a5, f4, e4, d3, c3, b3, a3, f2, e2, d1, c1, b1, a1]
set_option maxHeartbeats 4000000 in
theorem n_morn49 {s : SG} (h0 : s (-1) 0 = 50) : ∃ s', sem 17 0 [aA 49] [] s = some (aU, s') ∧ s' (-1) 0 = 56 ∧ s' (-1) 1 = s (-1) 1 + 27 ∧ ((s' 49 0 = 50 ∧ s' 49 1 = 51 ∧ s' 49 2 = 52 ∧ s' 49 3 = 53 ∧ s' 49 4 = 54 ∧ s' 49 5 = 55 ∧ s' 49 6 = 0 ∧ s' 49 7 = 0 ∧ s' 49 8 = 0 ∧ s' 49 9 = 0 ∧ s' 49 10 = 0) ∧ ((∀ i, 0 ≤ i → i < 3 → s' 50 i = 0)) ∧ ((∀ i, 0 ≤ i → i < 3 → s' 51 i = 5)) ∧ ((∀ i, 0 ≤ i → i < 3 → s' 52 i = 0)) ∧ ((∀ i, 0 ≤ i → i < 6 → s' 53 i = 0)) ∧ ((∀ i, 0 ≤ i → i < 6 → s' 54 i = 0)) ∧ ((∀ i, 0 ≤ i → i < 6 → s' 55 i = 0))) ∧ ∀ k i, k ≠ -1 → ¬ (49 ≤ k ∧ k < 56) → s' k i = s k i := by
  -- from 0
  obtain ⟨t1, ht1⟩ : ∃ z, z = alc s 3 (fun _ => 0) := ⟨_, rfl⟩
  obtain ⟨a1, b1, c1, d1⟩ := al_spec ht1 h0 (by decide)
  rw [show (50 : Int) + 1 = 51 from rfl] at a1
  obtain ⟨u2, hu2⟩ : ∃ z, z = up t1 49 0 (50) := ⟨_, rfl⟩
  obtain ⟨e2, f2⟩ := up_spec hu2
  have k2 : u2 (-1) 0 = 51 := by rw [f2 _ _ (by decide)]; exact a1
  obtain ⟨t3, ht3⟩ : ∃ z, z = alc u2 3 (fun _ => 0) := ⟨_, rfl⟩
  obtain ⟨a3, b3, c3, d3⟩ := al_spec ht3 k2 (by decide)
  rw [show (51 : Int) + 1 = 52 from rfl] at a3
  obtain ⟨u4, hu4⟩ : ∃ z, z = up t3 49 1 (51) := ⟨_, rfl⟩
  obtain ⟨e4, f4⟩ := up_spec hu4
  have k4 : u4 (-1) 0 = 52 := by rw [f4 _ _ (by decide)]; exact a3
  obtain ⟨t5, ht5⟩ : ∃ z, z = alc u4 3 (fun _ => 0) := ⟨_, rfl⟩
  obtain ⟨a5, b5, c5, d5⟩ := al_spec ht5 k4 (by decide)
  rw [show (52 : Int) + 1 = 53 from rfl] at a5
  obtain ⟨u6, hu6⟩ : ∃ z, z = up t5 49 2 (52) := ⟨_, rfl⟩
  obtain ⟨e6, f6⟩ := up_spec hu6
  have k6 : u6 (-1) 0 = 53 := by rw [f6 _ _ (by decide)]; exact a5
  have x0 : sem 17 0 [aA 49] [] s = sem 17 25 [aA 49] [] u6 := by
    rw [e17_0]
    rw [h0]
    (try rw [← ht1])
    (try rw [← hu2])
    (try rw [k2])
    (try rw [← ht3])
    (try rw [← hu4])
    (try rw [k4])
    (try rw [← ht5])
    (try rw [← hu6])
    (try rw [k6])
    repeat rw [g_t (by decide)]
  -- from 25
  obtain ⟨t7, ht7⟩ : ∃ z, z = alc u6 6 (fun _ => 0) := ⟨_, rfl⟩
  obtain ⟨a7, b7, c7, d7⟩ := al_spec ht7 k6 (by decide)
  rw [show (53 : Int) + 1 = 54 from rfl] at a7
  obtain ⟨u8, hu8⟩ : ∃ z, z = up t7 49 3 (53) := ⟨_, rfl⟩
  obtain ⟨e8, f8⟩ := up_spec hu8
  have k8 : u8 (-1) 0 = 54 := by rw [f8 _ _ (by decide)]; exact a7
  obtain ⟨t9, ht9⟩ : ∃ z, z = alc u8 6 (fun _ => 0) := ⟨_, rfl⟩
  obtain ⟨a9, b9, c9, d9⟩ := al_spec ht9 k8 (by decide)
  rw [show (54 : Int) + 1 = 55 from rfl] at a9
  obtain ⟨u10, hu10⟩ : ∃ z, z = up t9 49 4 (54) := ⟨_, rfl⟩
  obtain ⟨e10, f10⟩ := up_spec hu10
  have k10 : u10 (-1) 0 = 55 := by rw [f10 _ _ (by decide)]; exact a9
  obtain ⟨t11, ht11⟩ : ∃ z, z = alc u10 6 (fun _ => 0) := ⟨_, rfl⟩
  obtain ⟨a11, b11, c11, d11⟩ := al_spec ht11 k10 (by decide)
  rw [show (55 : Int) + 1 = 56 from rfl] at a11
  obtain ⟨u12, hu12⟩ : ∃ z, z = up t11 49 5 (55) := ⟨_, rfl⟩
  obtain ⟨e12, f12⟩ := up_spec hu12
  have k12 : u12 (-1) 0 = 56 := by rw [f12 _ _ (by decide)]; exact a11
  have x25 : sem 17 25 [aA 49] [] u6 = sem 17 49 [aA 49] [] u12 := by
    rw [e17_25]
    rw [k6]
    (try rw [← ht7])
    (try rw [← hu8])
    (try rw [k8])
    (try rw [← ht9])
    (try rw [← hu10])
    (try rw [k10])
    (try rw [← ht11])
    (try rw [← hu12])
    (try rw [k12])
    repeat rw [g_t (by decide)]
  -- from 49
  have x49 : sem 17 49 [aA 49] [] u12 = bnV (sem 18 0 [aA 49] [] u12) fun s1 => some (aU, s1) := by
    rw [e17_49]
    repeat rw [g_t (by decide)]
  obtain ⟨v13, hv13⟩ : ∃ z, z = fillS u12 50 (0) 0 := ⟨_, rfl⟩
  have e13 : ∀ i, 0 ≤ i → i < 3 → v13 50 i = 0 := fun i i0 i1 => by rw [hv13, fillS_app, if_pos ⟨rfl, i0, i1⟩]
  have f13 : ∀ k i, k ≠ 50 → v13 k i = u12 k i := fun k i hk => by rw [hv13, fillS_app, if_neg (fun z => hk z.1)]
  have k13 : v13 (-1) 0 = 56 := by rw [f13 _ _ (by decide)]; exact k12
  obtain ⟨v14, hv14⟩ : ∃ z, z = fillS v13 51 (5) 0 := ⟨_, rfl⟩
  have e14 : ∀ i, 0 ≤ i → i < 3 → v14 51 i = 5 := fun i i0 i1 => by rw [hv14, fillS_app, if_pos ⟨rfl, i0, i1⟩]
  have f14 : ∀ k i, k ≠ 51 → v14 k i = v13 k i := fun k i hk => by rw [hv14, fillS_app, if_neg (fun z => hk z.1)]
  have k14 : v14 (-1) 0 = 56 := by rw [f14 _ _ (by decide)]; exact k13
  obtain ⟨v15, hv15⟩ : ∃ z, z = fillS v14 52 (0) 0 := ⟨_, rfl⟩
  have e15 : ∀ i, 0 ≤ i → i < 3 → v15 52 i = 0 := fun i i0 i1 => by rw [hv15, fillS_app, if_pos ⟨rfl, i0, i1⟩]
  have f15 : ∀ k i, k ≠ 52 → v15 k i = v14 k i := fun k i hk => by rw [hv15, fillS_app, if_neg (fun z => hk z.1)]
  have k15 : v15 (-1) 0 = 56 := by rw [f15 _ _ (by decide)]; exact k14
  obtain ⟨u16, hu16⟩ : ∃ z, z = up v15 49 6 (0) := ⟨_, rfl⟩
  obtain ⟨e16, f16⟩ := up_spec hu16
  have k16 : u16 (-1) 0 = 56 := by rw [f16 _ _ (by decide)]; exact k15
  obtain ⟨u17, hu17⟩ : ∃ z, z = up u16 49 7 (0) := ⟨_, rfl⟩
  obtain ⟨e17, f17⟩ := up_spec hu17
  have k17 : u17 (-1) 0 = 56 := by rw [f17 _ _ (by decide)]; exact k16
  obtain ⟨u18, hu18⟩ : ∃ z, z = up u17 49 8 (0) := ⟨_, rfl⟩
  obtain ⟨e18, f18⟩ := up_spec hu18
  have k18 : u18 (-1) 0 = 56 := by rw [f18 _ _ (by decide)]; exact k17
  obtain ⟨u19, hu19⟩ : ∃ z, z = up u18 49 9 (0) := ⟨_, rfl⟩
  obtain ⟨e19, f19⟩ := up_spec hu19
  have k19 : u19 (-1) 0 = 56 := by rw [f19 _ _ (by decide)]; exact k18
  obtain ⟨u20, hu20⟩ : ∃ z, z = up u19 49 10 (0) := ⟨_, rfl⟩
  obtain ⟨e20, f20⟩ := up_spec hu20
  have k20 : u20 (-1) 0 = 56 := by rw [f20 _ _ (by decide)]; exact k19
  have xr : sem 18 0 [aA 49] [] u12 = some (aU, u20) := by
    have y0 : u12 49 0 = 50 := by simp (disch := omega) only [f20, e20, f19, e19, f18, e18, f17, e17, f16, e16, f15, e15, f14, e14, f13, e13, f12, e12, d11, c11, b11, a11, f10, e10, d9, c9, b9, a9, f8, e8, d7, c7, b7, a7, f6, e6, d5, c5, b5, a5, f4, e4, d3, c3, b3, a3, f2, e2, d1, c1, b1, a1]
    have y1 : v13 49 1 = 51 := by simp (disch := omega) only [f20, e20, f19, e19, f18, e18, f17, e17, f16, e16, f15, e15, f14, e14, f13, e13, f12, e12, d11, c11, b11, a11, f10, e10, d9, c9, b9, a9, f8, e8, d7, c7, b7, a7, f6, e6, d5, c5, b5, a5, f4, e4, d3, c3, b3, a3, f2, e2, d1, c1, b1, a1]
    have y2 : v14 49 2 = 52 := by simp (disch := omega) only [f20, e20, f19, e19, f18, e18, f17, e17, f16, e16, f15, e15, f14, e14, f13, e13, f12, e12, d11, c11, b11, a11, f10, e10, d9, c9, b9, a9, f8, e8, d7, c7, b7, a7, f6, e6, d5, c5, b5, a5, f4, e4, d3, c3, b3, a3, f2, e2, d1, c1, b1, a1]
    rw [e18_0, g_t (by decide), y0, g_t (by decide), c_fill (k := 50) rfl (by decide), ← hv13, bnV_some, g_t (by decide), y1, g_t (by decide), c_fill (k := 51) rfl (by decide), ← hv14, bnV_some, g_t (by decide), y2, g_t (by decide), c_fill (k := 52) rfl (by decide), ← hv15, bnV_some]
    (try rw [← hu16])
    (try rw [← hu17])
    (try rw [← hu18])
    (try rw [← hu19])
    (try rw [← hu20])
    repeat rw [g_t (by decide)]
  refine ⟨u20, ?_, k20, ?_, ⟨?_, ?_, ?_, ?_, ?_, ?_, ?_⟩, fun k i h1 h2 => ?_⟩
  · rw [x0, x25, x49, xr, bnV_some]
  · simp (disch := omega) only [f20, e20, f19, e19, f18, e18, f17, e17, f16, e16, f15, e15, f14, e14, f13, e13, f12, e12, d11, c11, b11, a11, f10, e10, d9, c9, b9, a9, f8, e8, d7, c7, b7, a7, f6, e6, d5, c5, b5, a5, f4, e4, d3, c3, b3, a3, f2, e2, d1, c1, b1, a1]
    try omega
  · simp (disch := omega) only [f20, e20, f19, e19, f18, e18, f17, e17, f16, e16, f15, e15, f14, e14, f13, e13, f12, e12, d11, c11, b11, a11, f10, e10, d9, c9, b9, a9, f8, e8, d7, c7, b7, a7, f6, e6, d5, c5, b5, a5, f4, e4, d3, c3, b3, a3, f2, e2, d1, c1, b1, a1, and_self]
  · intro i i0 i1
    simp (disch := omega) only [f20, e20, f19, e19, f18, e18, f17, e17, f16, e16, f15, e15, f14, e14, f13, e13, f12, e12, d11, c11, b11, a11, f10, e10, d9, c9, b9, a9, f8, e8, d7, c7, b7, a7, f6, e6, d5, c5, b5, a5, f4, e4, d3, c3, b3, a3, f2, e2, d1, c1, b1, a1]
  · intro i i0 i1
    simp (disch := omega) only [f20, e20, f19, e19, f18, e18, f17, e17, f16, e16, f15, e15, f14, e14, f13, e13, f12, e12, d11, c11, b11, a11, f10, e10, d9, c9, b9, a9, f8, e8, d7, c7, b7, a7, f6, e6, d5, c5, b5, a5, f4, e4, d3, c3, b3, a3, f2, e2, d1, c1, b1, a1]
  · intro i i0 i1
    simp (disch := omega) only [f20, e20, f19, e19, f18, e18, f17, e17, f16, e16, f15, e15, f14, e14, f13, e13, f12, e12, d11, c11, b11, a11, f10, e10, d9, c9, b9, a9, f8, e8, d7, c7, b7, a7, f6, e6, d5, c5, b5, a5, f4, e4, d3, c3, b3, a3, f2, e2, d1, c1, b1, a1]
  · intro i i0 i1
    simp (disch := omega) only [f20, e20, f19, e19, f18, e18, f17, e17, f16, e16, f15, e15, f14, e14, f13, e13, f12, e12, d11, c11, b11, a11, f10, e10, d9, c9, b9, a9, f8, e8, d7, c7, b7, a7, f6, e6, d5, c5, b5, a5, f4, e4, d3, c3, b3, a3, f2, e2, d1, c1, b1, a1]
  · intro i i0 i1
    simp (disch := omega) only [f20, e20, f19, e19, f18, e18, f17, e17, f16, e16, f15, e15, f14, e14, f13, e13, f12, e12, d11, c11, b11, a11, f10, e10, d9, c9, b9, a9, f8, e8, d7, c7, b7, a7, f6, e6, d5, c5, b5, a5, f4, e4, d3, c3, b3, a3, f2, e2, d1, c1, b1, a1]
  · intro i i0 i1
    simp (disch := omega) only [f20, e20, f19, e19, f18, e18, f17, e17, f16, e16, f15, e15, f14, e14, f13, e13, f12, e12, d11, c11, b11, a11, f10, e10, d9, c9, b9, a9, f8, e8, d7, c7, b7, a7, f6, e6, d5, c5, b5, a5, f4, e4, d3, c3, b3, a3, f2, e2, d1, c1, b1, a1]
  · simp (disch := omega) only [f20, e20, f19, e19, f18, e18, f17, e17, f16, e16, f15, e15, f14, e14, f13, e13, f12, e12, d11, c11, b11, a11, f10, e10, d9, c9, b9, a9, f8, e8, d7, c7, b7, a7, f6, e6, d5, c5, b5, a5, f4, e4, d3, c3, b3, a3, f2, e2, d1, c1, b1, a1]
set_option maxHeartbeats 4000000 in
theorem n_run {s : SG} (h0 : s (-1) 0 = 24) : ∃ s', sem 44 0 [aA 23] [] s = some (aU, s') ∧ s' (-1) 0 = 30 ∧ s' (-1) 1 = s (-1) 1 + 78 ∧ ((s' 23 0 = 24 ∧ s' 23 1 = 25 ∧ s' 23 2 = 26 ∧ s' 23 3 = 27 ∧ s' 23 4 = 28 ∧ s' 23 5 = 29 ∧ s' 23 9 = -9 ∧ s' 23 10 = -9 ∧ s' 23 11 = -9 ∧ s' 23 12 = 0) ∧ ((∀ i, 0 ≤ i → i < 18 → s' 24 i = 0)) ∧ ((∀ i, 0 ≤ i → i < 18 → s' 25 i = 0)) ∧ ((∀ i, 0 ≤ i → i < 18 → s' 26 i = 0)) ∧ ((∀ i, 0 ≤ i → i < 18 → s' 27 i = 0)) ∧ ((∀ i, 0 ≤ i → i < 3 → s' 28 i = 0)) ∧ ((∀ i, 0 ≤ i → i < 3 → s' 29 i = 0))) ∧ ∀ k i, k ≠ -1 → ¬ (23 ≤ k ∧ k < 30) → s' k i = s k i := by
  -- from 0
  obtain ⟨t1, ht1⟩ : ∃ z, z = alc s 18 (fun _ => 0) := ⟨_, rfl⟩
  obtain ⟨a1, b1, c1, d1⟩ := al_spec ht1 h0 (by decide)
  rw [show (24 : Int) + 1 = 25 from rfl] at a1
  obtain ⟨u2, hu2⟩ : ∃ z, z = up t1 23 0 (24) := ⟨_, rfl⟩
  obtain ⟨e2, f2⟩ := up_spec hu2
  have k2 : u2 (-1) 0 = 25 := by rw [f2 _ _ (by decide)]; exact a1
  obtain ⟨t3, ht3⟩ : ∃ z, z = alc u2 18 (fun _ => 0) := ⟨_, rfl⟩
  obtain ⟨a3, b3, c3, d3⟩ := al_spec ht3 k2 (by decide)
  rw [show (25 : Int) + 1 = 26 from rfl] at a3
  obtain ⟨u4, hu4⟩ : ∃ z, z = up t3 23 1 (25) := ⟨_, rfl⟩
  obtain ⟨e4, f4⟩ := up_spec hu4
  have k4 : u4 (-1) 0 = 26 := by rw [f4 _ _ (by decide)]; exact a3
  obtain ⟨t5, ht5⟩ : ∃ z, z = alc u4 18 (fun _ => 0) := ⟨_, rfl⟩
  obtain ⟨a5, b5, c5, d5⟩ := al_spec ht5 k4 (by decide)
  rw [show (26 : Int) + 1 = 27 from rfl] at a5
  obtain ⟨u6, hu6⟩ : ∃ z, z = up t5 23 2 (26) := ⟨_, rfl⟩
  obtain ⟨e6, f6⟩ := up_spec hu6
  have k6 : u6 (-1) 0 = 27 := by rw [f6 _ _ (by decide)]; exact a5
  have x0 : sem 44 0 [aA 23] [] s = sem 44 28 [aA 23] [] u6 := by
    rw [e44_0]
    rw [h0]
    (try rw [← ht1])
    (try rw [← hu2])
    (try rw [k2])
    (try rw [← ht3])
    (try rw [← hu4])
    (try rw [k4])
    (try rw [← ht5])
    (try rw [← hu6])
    (try rw [k6])
    repeat rw [g_t (by decide)]
  -- from 28
  obtain ⟨t7, ht7⟩ : ∃ z, z = alc u6 18 (fun _ => 0) := ⟨_, rfl⟩
  obtain ⟨a7, b7, c7, d7⟩ := al_spec ht7 k6 (by decide)
  rw [show (27 : Int) + 1 = 28 from rfl] at a7
  obtain ⟨u8, hu8⟩ : ∃ z, z = up t7 23 3 (27) := ⟨_, rfl⟩
  obtain ⟨e8, f8⟩ := up_spec hu8
  have k8 : u8 (-1) 0 = 28 := by rw [f8 _ _ (by decide)]; exact a7
  obtain ⟨t9, ht9⟩ : ∃ z, z = alc u8 3 (fun _ => 0) := ⟨_, rfl⟩
  obtain ⟨a9, b9, c9, d9⟩ := al_spec ht9 k8 (by decide)
  rw [show (28 : Int) + 1 = 29 from rfl] at a9
  obtain ⟨u10, hu10⟩ : ∃ z, z = up t9 23 4 (28) := ⟨_, rfl⟩
  obtain ⟨e10, f10⟩ := up_spec hu10
  have k10 : u10 (-1) 0 = 29 := by rw [f10 _ _ (by decide)]; exact a9
  obtain ⟨t11, ht11⟩ : ∃ z, z = alc u10 3 (fun _ => 0) := ⟨_, rfl⟩
  obtain ⟨a11, b11, c11, d11⟩ := al_spec ht11 k10 (by decide)
  rw [show (29 : Int) + 1 = 30 from rfl] at a11
  obtain ⟨u12, hu12⟩ : ∃ z, z = up t11 23 5 (29) := ⟨_, rfl⟩
  obtain ⟨e12, f12⟩ := up_spec hu12
  have k12 : u12 (-1) 0 = 30 := by rw [f12 _ _ (by decide)]; exact a11
  have x28 : sem 44 28 [aA 23] [] u6 = sem 44 50 [aA 23] [] u12 := by
    rw [e44_28]
    rw [k6]
    (try rw [← ht7])
    (try rw [← hu8])
    (try rw [k8])
    (try rw [← ht9])
    (try rw [← hu10])
    (try rw [k10])
    (try rw [← ht11])
    (try rw [← hu12])
    (try rw [k12])
    repeat rw [g_t (by decide)]
  -- from 50
  obtain ⟨u13, hu13⟩ : ∃ z, z = up u12 23 9 (-9) := ⟨_, rfl⟩
  obtain ⟨e13, f13⟩ := up_spec hu13
  have k13 : u13 (-1) 0 = 30 := by rw [f13 _ _ (by decide)]; exact k12
  obtain ⟨u14, hu14⟩ : ∃ z, z = up u13 23 10 (-9) := ⟨_, rfl⟩
  obtain ⟨e14, f14⟩ := up_spec hu14
  have k14 : u14 (-1) 0 = 30 := by rw [f14 _ _ (by decide)]; exact k13
  obtain ⟨u15, hu15⟩ : ∃ z, z = up u14 23 11 (-9) := ⟨_, rfl⟩
  obtain ⟨e15, f15⟩ := up_spec hu15
  have k15 : u15 (-1) 0 = 30 := by rw [f15 _ _ (by decide)]; exact k14
  obtain ⟨u16, hu16⟩ : ∃ z, z = up u15 23 12 (0) := ⟨_, rfl⟩
  obtain ⟨e16, f16⟩ := up_spec hu16
  have k16 : u16 (-1) 0 = 30 := by rw [f16 _ _ (by decide)]; exact k15
  have x50 : sem 44 50 [aA 23] [] u12 = some (aU, u16) := by
    rw [e44_50]
    (try rw [← hu13])
    (try rw [k13])
    (try rw [← hu14])
    (try rw [k14])
    (try rw [← hu15])
    (try rw [k15])
    (try rw [← hu16])
    (try rw [k16])
    repeat rw [g_t (by decide)]
  refine ⟨u16, ?_, k16, ?_, ⟨?_, ?_, ?_, ?_, ?_, ?_, ?_⟩, fun k i h1 h2 => ?_⟩
  · rw [x0, x28, x50]
  · simp (disch := omega) only [f16, e16, f15, e15, f14, e14, f13, e13, f12, e12, d11, c11, b11, a11, f10, e10, d9, c9, b9, a9, f8, e8, d7, c7, b7, a7, f6, e6, d5, c5, b5, a5, f4, e4, d3, c3, b3, a3, f2, e2, d1, c1, b1, a1]
    try omega
  · simp (disch := omega) only [f16, e16, f15, e15, f14, e14, f13, e13, f12, e12, d11, c11, b11, a11, f10, e10, d9, c9, b9, a9, f8, e8, d7, c7, b7, a7, f6, e6, d5, c5, b5, a5, f4, e4, d3, c3, b3, a3, f2, e2, d1, c1, b1, a1, and_self]
  · intro i i0 i1
    simp (disch := omega) only [f16, e16, f15, e15, f14, e14, f13, e13, f12, e12, d11, c11, b11, a11, f10, e10, d9, c9, b9, a9, f8, e8, d7, c7, b7, a7, f6, e6, d5, c5, b5, a5, f4, e4, d3, c3, b3, a3, f2, e2, d1, c1, b1, a1]
  · intro i i0 i1
    simp (disch := omega) only [f16, e16, f15, e15, f14, e14, f13, e13, f12, e12, d11, c11, b11, a11, f10, e10, d9, c9, b9, a9, f8, e8, d7, c7, b7, a7, f6, e6, d5, c5, b5, a5, f4, e4, d3, c3, b3, a3, f2, e2, d1, c1, b1, a1]
  · intro i i0 i1
    simp (disch := omega) only [f16, e16, f15, e15, f14, e14, f13, e13, f12, e12, d11, c11, b11, a11, f10, e10, d9, c9, b9, a9, f8, e8, d7, c7, b7, a7, f6, e6, d5, c5, b5, a5, f4, e4, d3, c3, b3, a3, f2, e2, d1, c1, b1, a1]
  · intro i i0 i1
    simp (disch := omega) only [f16, e16, f15, e15, f14, e14, f13, e13, f12, e12, d11, c11, b11, a11, f10, e10, d9, c9, b9, a9, f8, e8, d7, c7, b7, a7, f6, e6, d5, c5, b5, a5, f4, e4, d3, c3, b3, a3, f2, e2, d1, c1, b1, a1]
  · intro i i0 i1
    simp (disch := omega) only [f16, e16, f15, e15, f14, e14, f13, e13, f12, e12, d11, c11, b11, a11, f10, e10, d9, c9, b9, a9, f8, e8, d7, c7, b7, a7, f6, e6, d5, c5, b5, a5, f4, e4, d3, c3, b3, a3, f2, e2, d1, c1, b1, a1]
  · intro i i0 i1
    simp (disch := omega) only [f16, e16, f15, e15, f14, e14, f13, e13, f12, e12, d11, c11, b11, a11, f10, e10, d9, c9, b9, a9, f8, e8, d7, c7, b7, a7, f6, e6, d5, c5, b5, a5, f4, e4, d3, c3, b3, a3, f2, e2, d1, c1, b1, a1]
  · simp (disch := omega) only [f16, e16, f15, e15, f14, e14, f13, e13, f12, e12, d11, c11, b11, a11, f10, e10, d9, c9, b9, a9, f8, e8, d7, c7, b7, a7, f6, e6, d5, c5, b5, a5, f4, e4, d3, c3, b3, a3, f2, e2, d1, c1, b1, a1]
set_option maxHeartbeats 4000000 in
theorem n_town32 {s : SG} (h0 : s (-1) 0 = 33) : ∃ s', sem 80 0 [aA 32] [] s = some (aU, s') ∧ s' (-1) 0 = 37 ∧ s' (-1) 1 = s (-1) 1 + 24 ∧ ((s' 32 0 = 33 ∧ s' 32 1 = 34 ∧ s' 32 2 = 35 ∧ s' 32 3 = 36 ∧ s' 32 4 = 1 ∧ s' 32 5 = 10 ∧ s' 32 6 = 20 ∧ s' 32 7 = 5) ∧ ((∀ i, 0 ≤ i → i < 3 → s' 33 i = 1)) ∧ ((∀ i, 0 ≤ i → i < 9 → s' 34 i = 1)) ∧ ((∀ i, 0 ≤ i → i < 9 → s' 35 i = 5)) ∧ ((∀ i, 0 ≤ i → i < 3 → s' 36 i = -9))) ∧ ∀ k i, k ≠ -1 → ¬ (32 ≤ k ∧ k < 37) → s' k i = s k i := by
  -- from 0
  obtain ⟨t1, ht1⟩ : ∃ z, z = alc s 3 (fun _ => 0) := ⟨_, rfl⟩
  obtain ⟨a1, b1, c1, d1⟩ := al_spec ht1 h0 (by decide)
  rw [show (33 : Int) + 1 = 34 from rfl] at a1
  obtain ⟨u2, hu2⟩ : ∃ z, z = up t1 32 0 (33) := ⟨_, rfl⟩
  obtain ⟨e2, f2⟩ := up_spec hu2
  have k2 : u2 (-1) 0 = 34 := by rw [f2 _ _ (by decide)]; exact a1
  obtain ⟨t3, ht3⟩ : ∃ z, z = alc u2 9 (fun _ => 0) := ⟨_, rfl⟩
  obtain ⟨a3, b3, c3, d3⟩ := al_spec ht3 k2 (by decide)
  rw [show (34 : Int) + 1 = 35 from rfl] at a3
  obtain ⟨u4, hu4⟩ : ∃ z, z = up t3 32 1 (34) := ⟨_, rfl⟩
  obtain ⟨e4, f4⟩ := up_spec hu4
  have k4 : u4 (-1) 0 = 35 := by rw [f4 _ _ (by decide)]; exact a3
  obtain ⟨t5, ht5⟩ : ∃ z, z = alc u4 9 (fun _ => 0) := ⟨_, rfl⟩
  obtain ⟨a5, b5, c5, d5⟩ := al_spec ht5 k4 (by decide)
  rw [show (35 : Int) + 1 = 36 from rfl] at a5
  obtain ⟨u6, hu6⟩ : ∃ z, z = up t5 32 2 (35) := ⟨_, rfl⟩
  obtain ⟨e6, f6⟩ := up_spec hu6
  have k6 : u6 (-1) 0 = 36 := by rw [f6 _ _ (by decide)]; exact a5
  have x0 : sem 80 0 [aA 32] [] s = sem 80 27 [aA 32] [] u6 := by
    rw [e80_0]
    rw [h0]
    (try rw [← ht1])
    (try rw [← hu2])
    (try rw [k2])
    (try rw [← ht3])
    (try rw [← hu4])
    (try rw [k4])
    (try rw [← ht5])
    (try rw [← hu6])
    (try rw [k6])
    repeat rw [g_t (by decide)]
  -- from 27
  obtain ⟨t7, ht7⟩ : ∃ z, z = alc u6 3 (fun _ => 0) := ⟨_, rfl⟩
  obtain ⟨a7, b7, c7, d7⟩ := al_spec ht7 k6 (by decide)
  rw [show (36 : Int) + 1 = 37 from rfl] at a7
  obtain ⟨u8, hu8⟩ : ∃ z, z = up t7 32 3 (36) := ⟨_, rfl⟩
  obtain ⟨e8, f8⟩ := up_spec hu8
  have k8 : u8 (-1) 0 = 37 := by rw [f8 _ _ (by decide)]; exact a7
  have x27 : sem 80 27 [aA 32] [] u6 = bnV (sem 81 0 [aA 32] [] u8) fun s1 => some (aU, s1) := by
    rw [e80_27]
    rw [k6]
    (try rw [← ht7])
    (try rw [← hu8])
    (try rw [k8])
    repeat rw [g_t (by decide)]
  obtain ⟨u9, hu9⟩ : ∃ z, z = up u8 32 4 (1) := ⟨_, rfl⟩
  obtain ⟨e9, f9⟩ := up_spec hu9
  have k9 : u9 (-1) 0 = 37 := by rw [f9 _ _ (by decide)]; exact k8
  obtain ⟨u10, hu10⟩ : ∃ z, z = up u9 32 5 (10) := ⟨_, rfl⟩
  obtain ⟨e10, f10⟩ := up_spec hu10
  have k10 : u10 (-1) 0 = 37 := by rw [f10 _ _ (by decide)]; exact k9
  obtain ⟨u11, hu11⟩ : ∃ z, z = up u10 32 6 (20) := ⟨_, rfl⟩
  obtain ⟨e11, f11⟩ := up_spec hu11
  have k11 : u11 (-1) 0 = 37 := by rw [f11 _ _ (by decide)]; exact k10
  obtain ⟨u12, hu12⟩ : ∃ z, z = up u11 32 7 (5) := ⟨_, rfl⟩
  obtain ⟨e12, f12⟩ := up_spec hu12
  have k12 : u12 (-1) 0 = 37 := by rw [f12 _ _ (by decide)]; exact k11
  obtain ⟨v13, hv13⟩ : ∃ z, z = fillS u12 33 (1) 0 := ⟨_, rfl⟩
  have e13 : ∀ i, 0 ≤ i → i < 3 → v13 33 i = 1 := fun i i0 i1 => by rw [hv13, fillS_app, if_pos ⟨rfl, i0, i1⟩]
  have f13 : ∀ k i, k ≠ 33 → v13 k i = u12 k i := fun k i hk => by rw [hv13, fillS_app, if_neg (fun z => hk z.1)]
  have k13 : v13 (-1) 0 = 37 := by rw [f13 _ _ (by decide)]; exact k12
  obtain ⟨v14, hv14⟩ : ∃ z, z = fillS v13 34 (1) 0 := ⟨_, rfl⟩
  have e14 : ∀ i, 0 ≤ i → i < 9 → v14 34 i = 1 := fun i i0 i1 => by rw [hv14, fillS_app, if_pos ⟨rfl, i0, i1⟩]
  have f14 : ∀ k i, k ≠ 34 → v14 k i = v13 k i := fun k i hk => by rw [hv14, fillS_app, if_neg (fun z => hk z.1)]
  have k14 : v14 (-1) 0 = 37 := by rw [f14 _ _ (by decide)]; exact k13
  obtain ⟨v15, hv15⟩ : ∃ z, z = fillS v14 35 (5) 0 := ⟨_, rfl⟩
  have e15 : ∀ i, 0 ≤ i → i < 9 → v15 35 i = 5 := fun i i0 i1 => by rw [hv15, fillS_app, if_pos ⟨rfl, i0, i1⟩]
  have f15 : ∀ k i, k ≠ 35 → v15 k i = v14 k i := fun k i hk => by rw [hv15, fillS_app, if_neg (fun z => hk z.1)]
  have k15 : v15 (-1) 0 = 37 := by rw [f15 _ _ (by decide)]; exact k14
  obtain ⟨v16, hv16⟩ : ∃ z, z = fillS v15 36 (-9) 0 := ⟨_, rfl⟩
  have e16 : ∀ i, 0 ≤ i → i < 3 → v16 36 i = -9 := fun i i0 i1 => by rw [hv16, fillS_app, if_pos ⟨rfl, i0, i1⟩]
  have f16 : ∀ k i, k ≠ 36 → v16 k i = v15 k i := fun k i hk => by rw [hv16, fillS_app, if_neg (fun z => hk z.1)]
  have k16 : v16 (-1) 0 = 37 := by rw [f16 _ _ (by decide)]; exact k15
  have xr : sem 81 0 [aA 32] [] u8 = some (aU, v16) := by
    have y0 : u12 32 0 = 33 := by simp (disch := omega) only [f16, e16, f15, e15, f14, e14, f13, e13, f12, e12, f11, e11, f10, e10, f9, e9, f8, e8, d7, c7, b7, a7, f6, e6, d5, c5, b5, a5, f4, e4, d3, c3, b3, a3, f2, e2, d1, c1, b1, a1]
    have y1 : v13 32 1 = 34 := by simp (disch := omega) only [f16, e16, f15, e15, f14, e14, f13, e13, f12, e12, f11, e11, f10, e10, f9, e9, f8, e8, d7, c7, b7, a7, f6, e6, d5, c5, b5, a5, f4, e4, d3, c3, b3, a3, f2, e2, d1, c1, b1, a1]
    have y2 : v14 32 2 = 35 := by simp (disch := omega) only [f16, e16, f15, e15, f14, e14, f13, e13, f12, e12, f11, e11, f10, e10, f9, e9, f8, e8, d7, c7, b7, a7, f6, e6, d5, c5, b5, a5, f4, e4, d3, c3, b3, a3, f2, e2, d1, c1, b1, a1]
    have y3 : v15 32 3 = 36 := by simp (disch := omega) only [f16, e16, f15, e15, f14, e14, f13, e13, f12, e12, f11, e11, f10, e10, f9, e9, f8, e8, d7, c7, b7, a7, f6, e6, d5, c5, b5, a5, f4, e4, d3, c3, b3, a3, f2, e2, d1, c1, b1, a1]
    rw [e81_0]
    (try rw [← hu9])
    (try rw [← hu10])
    (try rw [← hu11])
    (try rw [← hu12])
    repeat rw [g_t (by decide)]
    rw [y0, g_t (by decide), c_fill (k := 33) rfl (by decide), ← hv13, bnV_some]
    rw [g_t (by decide)]
    rw [y1, g_t (by decide), c_fill (k := 34) rfl (by decide), ← hv14, bnV_some]
    rw [g_t (by decide)]
    rw [y2, g_t (by decide), c_fill (k := 35) rfl (by decide), ← hv15, bnV_some]
    rw [g_t (by decide)]
    rw [y3, g_t (by decide), c_fill (k := 36) rfl (by decide), ← hv16, bnV_some]
  refine ⟨v16, ?_, k16, ?_, ⟨?_, ?_, ?_, ?_, ?_⟩, fun k i h1 h2 => ?_⟩
  · rw [x0, x27, xr, bnV_some]
  · simp (disch := omega) only [f16, e16, f15, e15, f14, e14, f13, e13, f12, e12, f11, e11, f10, e10, f9, e9, f8, e8, d7, c7, b7, a7, f6, e6, d5, c5, b5, a5, f4, e4, d3, c3, b3, a3, f2, e2, d1, c1, b1, a1]
    try omega
  · simp (disch := omega) only [f16, e16, f15, e15, f14, e14, f13, e13, f12, e12, f11, e11, f10, e10, f9, e9, f8, e8, d7, c7, b7, a7, f6, e6, d5, c5, b5, a5, f4, e4, d3, c3, b3, a3, f2, e2, d1, c1, b1, a1, and_self]
  · intro i i0 i1
    simp (disch := omega) only [f16, e16, f15, e15, f14, e14, f13, e13, f12, e12, f11, e11, f10, e10, f9, e9, f8, e8, d7, c7, b7, a7, f6, e6, d5, c5, b5, a5, f4, e4, d3, c3, b3, a3, f2, e2, d1, c1, b1, a1]
  · intro i i0 i1
    simp (disch := omega) only [f16, e16, f15, e15, f14, e14, f13, e13, f12, e12, f11, e11, f10, e10, f9, e9, f8, e8, d7, c7, b7, a7, f6, e6, d5, c5, b5, a5, f4, e4, d3, c3, b3, a3, f2, e2, d1, c1, b1, a1]
  · intro i i0 i1
    simp (disch := omega) only [f16, e16, f15, e15, f14, e14, f13, e13, f12, e12, f11, e11, f10, e10, f9, e9, f8, e8, d7, c7, b7, a7, f6, e6, d5, c5, b5, a5, f4, e4, d3, c3, b3, a3, f2, e2, d1, c1, b1, a1]
  · intro i i0 i1
    simp (disch := omega) only [f16, e16, f15, e15, f14, e14, f13, e13, f12, e12, f11, e11, f10, e10, f9, e9, f8, e8, d7, c7, b7, a7, f6, e6, d5, c5, b5, a5, f4, e4, d3, c3, b3, a3, f2, e2, d1, c1, b1, a1]
  · simp (disch := omega) only [f16, e16, f15, e15, f14, e14, f13, e13, f12, e12, f11, e11, f10, e10, f9, e9, f8, e8, d7, c7, b7, a7, f6, e6, d5, c5, b5, a5, f4, e4, d3, c3, b3, a3, f2, e2, d1, c1, b1, a1]
set_option maxHeartbeats 4000000 in
theorem n_town37 {s : SG} (h0 : s (-1) 0 = 38) : ∃ s', sem 80 0 [aA 37] [] s = some (aU, s') ∧ s' (-1) 0 = 42 ∧ s' (-1) 1 = s (-1) 1 + 24 ∧ ((s' 37 0 = 38 ∧ s' 37 1 = 39 ∧ s' 37 2 = 40 ∧ s' 37 3 = 41 ∧ s' 37 4 = 1 ∧ s' 37 5 = 10 ∧ s' 37 6 = 20 ∧ s' 37 7 = 5) ∧ ((∀ i, 0 ≤ i → i < 3 → s' 38 i = 1)) ∧ ((∀ i, 0 ≤ i → i < 9 → s' 39 i = 1)) ∧ ((∀ i, 0 ≤ i → i < 9 → s' 40 i = 5)) ∧ ((∀ i, 0 ≤ i → i < 3 → s' 41 i = -9))) ∧ ∀ k i, k ≠ -1 → ¬ (37 ≤ k ∧ k < 42) → s' k i = s k i := by
  -- from 0
  obtain ⟨t1, ht1⟩ : ∃ z, z = alc s 3 (fun _ => 0) := ⟨_, rfl⟩
  obtain ⟨a1, b1, c1, d1⟩ := al_spec ht1 h0 (by decide)
  rw [show (38 : Int) + 1 = 39 from rfl] at a1
  obtain ⟨u2, hu2⟩ : ∃ z, z = up t1 37 0 (38) := ⟨_, rfl⟩
  obtain ⟨e2, f2⟩ := up_spec hu2
  have k2 : u2 (-1) 0 = 39 := by rw [f2 _ _ (by decide)]; exact a1
  obtain ⟨t3, ht3⟩ : ∃ z, z = alc u2 9 (fun _ => 0) := ⟨_, rfl⟩
  obtain ⟨a3, b3, c3, d3⟩ := al_spec ht3 k2 (by decide)
  rw [show (39 : Int) + 1 = 40 from rfl] at a3
  obtain ⟨u4, hu4⟩ : ∃ z, z = up t3 37 1 (39) := ⟨_, rfl⟩
  obtain ⟨e4, f4⟩ := up_spec hu4
  have k4 : u4 (-1) 0 = 40 := by rw [f4 _ _ (by decide)]; exact a3
  obtain ⟨t5, ht5⟩ : ∃ z, z = alc u4 9 (fun _ => 0) := ⟨_, rfl⟩
  obtain ⟨a5, b5, c5, d5⟩ := al_spec ht5 k4 (by decide)
  rw [show (40 : Int) + 1 = 41 from rfl] at a5
  obtain ⟨u6, hu6⟩ : ∃ z, z = up t5 37 2 (40) := ⟨_, rfl⟩
  obtain ⟨e6, f6⟩ := up_spec hu6
  have k6 : u6 (-1) 0 = 41 := by rw [f6 _ _ (by decide)]; exact a5
  have x0 : sem 80 0 [aA 37] [] s = sem 80 27 [aA 37] [] u6 := by
    rw [e80_0]
    rw [h0]
    (try rw [← ht1])
    (try rw [← hu2])
    (try rw [k2])
    (try rw [← ht3])
    (try rw [← hu4])
    (try rw [k4])
    (try rw [← ht5])
    (try rw [← hu6])
    (try rw [k6])
    repeat rw [g_t (by decide)]
  -- from 27
  obtain ⟨t7, ht7⟩ : ∃ z, z = alc u6 3 (fun _ => 0) := ⟨_, rfl⟩
  obtain ⟨a7, b7, c7, d7⟩ := al_spec ht7 k6 (by decide)
  rw [show (41 : Int) + 1 = 42 from rfl] at a7
  obtain ⟨u8, hu8⟩ : ∃ z, z = up t7 37 3 (41) := ⟨_, rfl⟩
  obtain ⟨e8, f8⟩ := up_spec hu8
  have k8 : u8 (-1) 0 = 42 := by rw [f8 _ _ (by decide)]; exact a7
  have x27 : sem 80 27 [aA 37] [] u6 = bnV (sem 81 0 [aA 37] [] u8) fun s1 => some (aU, s1) := by
    rw [e80_27]
    rw [k6]
    (try rw [← ht7])
    (try rw [← hu8])
    (try rw [k8])
    repeat rw [g_t (by decide)]
  obtain ⟨u9, hu9⟩ : ∃ z, z = up u8 37 4 (1) := ⟨_, rfl⟩
  obtain ⟨e9, f9⟩ := up_spec hu9
  have k9 : u9 (-1) 0 = 42 := by rw [f9 _ _ (by decide)]; exact k8
  obtain ⟨u10, hu10⟩ : ∃ z, z = up u9 37 5 (10) := ⟨_, rfl⟩
  obtain ⟨e10, f10⟩ := up_spec hu10
  have k10 : u10 (-1) 0 = 42 := by rw [f10 _ _ (by decide)]; exact k9
  obtain ⟨u11, hu11⟩ : ∃ z, z = up u10 37 6 (20) := ⟨_, rfl⟩
  obtain ⟨e11, f11⟩ := up_spec hu11
  have k11 : u11 (-1) 0 = 42 := by rw [f11 _ _ (by decide)]; exact k10
  obtain ⟨u12, hu12⟩ : ∃ z, z = up u11 37 7 (5) := ⟨_, rfl⟩
  obtain ⟨e12, f12⟩ := up_spec hu12
  have k12 : u12 (-1) 0 = 42 := by rw [f12 _ _ (by decide)]; exact k11
  obtain ⟨v13, hv13⟩ : ∃ z, z = fillS u12 38 (1) 0 := ⟨_, rfl⟩
  have e13 : ∀ i, 0 ≤ i → i < 3 → v13 38 i = 1 := fun i i0 i1 => by rw [hv13, fillS_app, if_pos ⟨rfl, i0, i1⟩]
  have f13 : ∀ k i, k ≠ 38 → v13 k i = u12 k i := fun k i hk => by rw [hv13, fillS_app, if_neg (fun z => hk z.1)]
  have k13 : v13 (-1) 0 = 42 := by rw [f13 _ _ (by decide)]; exact k12
  obtain ⟨v14, hv14⟩ : ∃ z, z = fillS v13 39 (1) 0 := ⟨_, rfl⟩
  have e14 : ∀ i, 0 ≤ i → i < 9 → v14 39 i = 1 := fun i i0 i1 => by rw [hv14, fillS_app, if_pos ⟨rfl, i0, i1⟩]
  have f14 : ∀ k i, k ≠ 39 → v14 k i = v13 k i := fun k i hk => by rw [hv14, fillS_app, if_neg (fun z => hk z.1)]
  have k14 : v14 (-1) 0 = 42 := by rw [f14 _ _ (by decide)]; exact k13
  obtain ⟨v15, hv15⟩ : ∃ z, z = fillS v14 40 (5) 0 := ⟨_, rfl⟩
  have e15 : ∀ i, 0 ≤ i → i < 9 → v15 40 i = 5 := fun i i0 i1 => by rw [hv15, fillS_app, if_pos ⟨rfl, i0, i1⟩]
  have f15 : ∀ k i, k ≠ 40 → v15 k i = v14 k i := fun k i hk => by rw [hv15, fillS_app, if_neg (fun z => hk z.1)]
  have k15 : v15 (-1) 0 = 42 := by rw [f15 _ _ (by decide)]; exact k14
  obtain ⟨v16, hv16⟩ : ∃ z, z = fillS v15 41 (-9) 0 := ⟨_, rfl⟩
  have e16 : ∀ i, 0 ≤ i → i < 3 → v16 41 i = -9 := fun i i0 i1 => by rw [hv16, fillS_app, if_pos ⟨rfl, i0, i1⟩]
  have f16 : ∀ k i, k ≠ 41 → v16 k i = v15 k i := fun k i hk => by rw [hv16, fillS_app, if_neg (fun z => hk z.1)]
  have k16 : v16 (-1) 0 = 42 := by rw [f16 _ _ (by decide)]; exact k15
  have xr : sem 81 0 [aA 37] [] u8 = some (aU, v16) := by
    have y0 : u12 37 0 = 38 := by simp (disch := omega) only [f16, e16, f15, e15, f14, e14, f13, e13, f12, e12, f11, e11, f10, e10, f9, e9, f8, e8, d7, c7, b7, a7, f6, e6, d5, c5, b5, a5, f4, e4, d3, c3, b3, a3, f2, e2, d1, c1, b1, a1]
    have y1 : v13 37 1 = 39 := by simp (disch := omega) only [f16, e16, f15, e15, f14, e14, f13, e13, f12, e12, f11, e11, f10, e10, f9, e9, f8, e8, d7, c7, b7, a7, f6, e6, d5, c5, b5, a5, f4, e4, d3, c3, b3, a3, f2, e2, d1, c1, b1, a1]
    have y2 : v14 37 2 = 40 := by simp (disch := omega) only [f16, e16, f15, e15, f14, e14, f13, e13, f12, e12, f11, e11, f10, e10, f9, e9, f8, e8, d7, c7, b7, a7, f6, e6, d5, c5, b5, a5, f4, e4, d3, c3, b3, a3, f2, e2, d1, c1, b1, a1]
    have y3 : v15 37 3 = 41 := by simp (disch := omega) only [f16, e16, f15, e15, f14, e14, f13, e13, f12, e12, f11, e11, f10, e10, f9, e9, f8, e8, d7, c7, b7, a7, f6, e6, d5, c5, b5, a5, f4, e4, d3, c3, b3, a3, f2, e2, d1, c1, b1, a1]
    rw [e81_0]
    (try rw [← hu9])
    (try rw [← hu10])
    (try rw [← hu11])
    (try rw [← hu12])
    repeat rw [g_t (by decide)]
    rw [y0, g_t (by decide), c_fill (k := 38) rfl (by decide), ← hv13, bnV_some]
    rw [g_t (by decide)]
    rw [y1, g_t (by decide), c_fill (k := 39) rfl (by decide), ← hv14, bnV_some]
    rw [g_t (by decide)]
    rw [y2, g_t (by decide), c_fill (k := 40) rfl (by decide), ← hv15, bnV_some]
    rw [g_t (by decide)]
    rw [y3, g_t (by decide), c_fill (k := 41) rfl (by decide), ← hv16, bnV_some]
  refine ⟨v16, ?_, k16, ?_, ⟨?_, ?_, ?_, ?_, ?_⟩, fun k i h1 h2 => ?_⟩
  · rw [x0, x27, xr, bnV_some]
  · simp (disch := omega) only [f16, e16, f15, e15, f14, e14, f13, e13, f12, e12, f11, e11, f10, e10, f9, e9, f8, e8, d7, c7, b7, a7, f6, e6, d5, c5, b5, a5, f4, e4, d3, c3, b3, a3, f2, e2, d1, c1, b1, a1]
    try omega
  · simp (disch := omega) only [f16, e16, f15, e15, f14, e14, f13, e13, f12, e12, f11, e11, f10, e10, f9, e9, f8, e8, d7, c7, b7, a7, f6, e6, d5, c5, b5, a5, f4, e4, d3, c3, b3, a3, f2, e2, d1, c1, b1, a1, and_self]
  · intro i i0 i1
    simp (disch := omega) only [f16, e16, f15, e15, f14, e14, f13, e13, f12, e12, f11, e11, f10, e10, f9, e9, f8, e8, d7, c7, b7, a7, f6, e6, d5, c5, b5, a5, f4, e4, d3, c3, b3, a3, f2, e2, d1, c1, b1, a1]
  · intro i i0 i1
    simp (disch := omega) only [f16, e16, f15, e15, f14, e14, f13, e13, f12, e12, f11, e11, f10, e10, f9, e9, f8, e8, d7, c7, b7, a7, f6, e6, d5, c5, b5, a5, f4, e4, d3, c3, b3, a3, f2, e2, d1, c1, b1, a1]
  · intro i i0 i1
    simp (disch := omega) only [f16, e16, f15, e15, f14, e14, f13, e13, f12, e12, f11, e11, f10, e10, f9, e9, f8, e8, d7, c7, b7, a7, f6, e6, d5, c5, b5, a5, f4, e4, d3, c3, b3, a3, f2, e2, d1, c1, b1, a1]
  · intro i i0 i1
    simp (disch := omega) only [f16, e16, f15, e15, f14, e14, f13, e13, f12, e12, f11, e11, f10, e10, f9, e9, f8, e8, d7, c7, b7, a7, f6, e6, d5, c5, b5, a5, f4, e4, d3, c3, b3, a3, f2, e2, d1, c1, b1, a1]
  · simp (disch := omega) only [f16, e16, f15, e15, f14, e14, f13, e13, f12, e12, f11, e11, f10, e10, f9, e9, f8, e8, d7, c7, b7, a7, f6, e6, d5, c5, b5, a5, f4, e4, d3, c3, b3, a3, f2, e2, d1, c1, b1, a1]

/-! after both constructors all is alike -/
theorem n_inv {s1 s : SG} (hR : RefC s) (i5 : s1 0 9 = 32 ∧ s1 0 10 = 37) (i6 : ∀ i, 0 ≤ i → i < 28 → tv s1 32 i = T0 i) (i7 : s1 1 1 = 0 ∧ s1 10 2 = 0 ∧ s1 16 6 = 0 ∧ s1 16 7 = 0 ∧ s1 16 8 = 0 ∧ s1 16 9 = 0 ∧ s1 16 10 = 0) (i8 : s1 5 4 = allS T0 ∧ ∀ b i, 0 ≤ b → b < T0 0 → 0 ≤ i → i ≤ 60 → s1 7 (61 * b + i) = outS T0 b i ∧ s1 6 (61 * b + i) = soldS T0 b i) (i9 : (∀ c, 0 ≤ c → c < 3 → s1 17 c = 0 ∧ s1 18 c = 5 ∧ s1 19 c = 0) ∧ (∀ i, 0 ≤ i → i < 6 → s1 20 i = 0 ∧ s1 21 i = 0 ∧ s1 22 i = 0) ∧ ∀ i, 0 ≤ i → i < 2 → s1 31 i = 0) (f : ∀ k i, 0 ≤ k → k < 56 → s k i = s1 k i) (j2 : s (-1) 0 = 85) (j3 : s (-1) 1 = 9952) (j5 : ∀ i, 0 ≤ i → i < 28 → s 58 i = T0 i) (j6 : s 56 4 = 0 ∧ s 56 9 = 0 ∧ s 79 0 = 0 ∧ s 79 1 = 0 ∧ s 56 15 = 0 ∧ s 56 19 = 0 ∧ s 56 20 = 0 ∧ s 56 21 = 0 ∧ s 56 22 = 0) (j7 : ∀ c, 0 ≤ c → c < 3 → s 66 c = 0 ∧ s 67 c = 0 ∧ s 68 c = 5) (j8 : ∀ i, 0 ≤ i → i < 6 → s 69 i = 0 ∧ s 70 i = 0 ∧ s 71 i = 0) : Inv s := by
  obtain ⟨m1, m2, m3, m4, m5, m6, m7, m8, m9⟩ := j6
  obtain ⟨n1, n2, n3, n4, n5, n6, n7⟩ := i7
  obtain ⟨p1, p2, p3⟩ := i9
  have hT : TRng (s 58) := T0_rng.cg j5
  have e9 : s 0 9 = 32 := by rw [f 0 9 (by decide) (by decide)]; exact i5.1
  refine ⟨hR, ⟨Or.inl ⟨e9, by rw [f 0 10 (by decide) (by decide)]; exact i5.2⟩, fun i i0 i1 => ?_, hT⟩, ⟨by rw [f 1 1 (by decide) (by decide), n1, m1], by rw [m1]; decide, fun i i0 i1 => by omega⟩, ⟨?_, fun c g c0 c1 g0 g1 => ?_⟩, ⟨by rw [f 10 2 (by decide) (by decide), n2, m2], by rw [m2]; decide, fun i i0 i1 => by omega⟩, ?_, ⟨?_, ?_⟩, ⟨j2, j3⟩⟩
  · rw [e9, j5 i i0 i1, ← i6 i i0 i1]
    exact tv_cg (fun q j h0 h1 => f q j (by omega) (by omega)) i
  · rw [f 5 4 (by decide) (by decide), i8.1]
    unfold allS
    rw [j5 1 (by decide) (by decide), j5 2 (by decide) (by decide), j5 3 (by decide) (by decide)]
  · rw [j5 0 (by decide) (by decide)] at c1
    have t0 : T0 0 = 1 := rfl
    have e : c * 61 + g = 61 * c + g := by omega
    obtain ⟨y1, y2⟩ := i8.2 c g c0 c1 g0 g1
    rw [e, f 7 _ (by decide) (by decide), f 6 _ (by decide) (by decide), y1, y2, outS_cg j5 (c := c) (by omega), soldS_cg j5 (c := c) (by omega)]
    exact ⟨rfl, rfl⟩
  · refine ⟨⟨by rw [f 16 6 (by decide) (by decide), n3, m5], by rw [m5]; decide, by rw [m5]; decide⟩, fun c c0 c1 => ?_, ⟨by rw [f 16 7 (by decide) (by decide), n4, m6], by rw [m6]; decide, by rw [m6]; decide⟩, ⟨by rw [f 16 8 (by decide) (by decide), n5, m7], by rw [f 16 9 (by decide) (by decide), n6, m8], by rw [m7, m8]; exact Or.inl ⟨rfl, rfl⟩⟩, ⟨by rw [f 16 10 (by decide) (by decide), n7, m9], by rw [m9]; decide, by rw [m9]; decide⟩, fun i i0 i1 => ⟨?_, fun h => by omega⟩⟩
    · obtain ⟨a1, a2, a3⟩ := p1 c c0 c1
      obtain ⟨b1, b2, b3⟩ := j7 c c0 c1
      rw [f 17 c (by decide) (by decide), f 18 c (by decide) (by decide), f 19 c (by decide) (by decide), a1, a2, a3, b1, b2, b3]
      exact ⟨rfl, rfl, rfl, by decide, by decide, by decide, fun _ => rfl⟩
    · obtain ⟨a1, a2, a3⟩ := p2 i i0 i1
      obtain ⟨b1, b2, b3⟩ := j8 i i0 i1
      rw [f 20 i (by decide) (by decide), f 21 i (by decide) (by decide), f 22 i (by decide) (by decide), a1, a2, a3, b1, b2, b3]
      exact ⟨rfl, rfl, rfl⟩
  · exact ⟨by rw [f 31 0 (by decide) (by decide), p3 0 (by decide) (by decide), m3], Or.inl m3, fun h => by omega⟩
  · exact ⟨by rw [f 31 1 (by decide) (by decide), p3 1 (by decide) (by decide), m4], Or.inl m4, fun h => by omega⟩

set_option maxHeartbeats 4000000 in
theorem q_town {s : SG} (h : Inv s) : ∃ r s1 s2, sem 106 0 [aA 0, aU, aU] [] s = some (aI r, s1) ∧ sem 162 0 [aA 56] [] s1 = some (aI r, s2) ∧ Inv s2 := by
  have hR := h.1
  have hd := h.dh
  obtain ⟨d, hdd⟩ : ∃ d, d = s 0 10 := ⟨_, rfl⟩
  obtain ⟨r, s1, a1, a2, a3⟩ := k_read h
  rw [← hdd] at hd a1 a2 a3
  have hs9 : s 0 9 = 69 - d := by have := h.2.1.1; omega
  have hR1 : RefC s1 := RefC.sem a1 rfl hR
  obtain ⟨t0, b1, b2, b3⟩ := a3 s1 hR1 (a2 56 4 (by omega) (by decide) (by omega) (by omega)) (fun i => a2 60 i (by omega) (by decide) (by omega) (by omega))
  by_cases q : r = -9
  · subst q
    have hRd := (b3 rfl).1
    have hT := hRd.2.2.2
    obtain ⟨sF, c1, c2, c3, c4, c5, c6, c7, c8, c9, c10, c11⟩ := k_town hd hR ⟨hdd.symm, hs9⟩ a1 a2 hT hRd.2.2.1
    have fF : ∀ q i, ¬ (q = 0 ∧ 9 ≤ i) → ¬ (q = 31 ∧ 0 ≤ i) → ¬ (q = 16 ∧ 6 ≤ i) → ¬ (17 ≤ q ∧ q ≤ 19) → ¬ (q = 10 ∧ i = 2) → ¬ Crk q i → ¬ (q = 3 ∧ 1 ≤ i) → q ≠ 4 → ¬ (q = d ∧ 4 ≤ i) → ¬ (d < q ∧ q ≤ d + 4) → sF q i = s q i := fun q i z1 z2 z3 z4 z5 z6 y1 y2 y3 y4 => by
      rw [c11 q i z1 z2 z3 z4 z5 z6, a2 q i y1 y2 y3 y4]
    have f50 : ∀ q i, 50 < q → sF q i = s q i := fun q i hq => fF q i (by omega) (by omega) (by omega) (by omega) (by omega) (by unfold Crk; omega) (by omega) (by omega) (by omega) (by omega)
    obtain ⟨t', e1, e2, e3⟩ := a3 sF c2 (f50 56 4 (by decide)) (fun i => f50 60 i (by decide))
    have hRd2 := (e3 rfl).1
    have hRt : RefC t' := RefC.sem e1 rfl c2
    obtain ⟨s2, g1, g2, g3, g4, g5, g6⟩ := c_takeT hRt
    have fr : ∀ q i, q ≠ 57 → q ≠ 59 → q ≠ 58 → ¬ (66 ≤ q ∧ q ≤ 68) → ¬ (q = 79 ∧ 0 ≤ i ∧ i ≤ 1) → ¬ (q = 56 ∧ (i = 9 ∨ i = 15 ∨ (19 ≤ i ∧ i ≤ 22))) → ¬ (q = 56 ∧ 5 ≤ i ∧ i ≤ 7) → s2 q i = sF q i := fun q i z1 z2 z3 z4 z5 z6 z7 => by
      rw [g6 q i z3 z4 z5 z6, e2 q i z7 z1 z2]
    have lo : ∀ q i, q < 56 → s2 q i = sF q i := fun q i hq => fr q i (by omega) (by omega) (by omega) (by omega) (by omega) (by omega) (by omega)
    have hi : ∀ q i, 50 < q → q ≠ 57 → q ≠ 59 → q ≠ 58 → ¬ (66 ≤ q ∧ q ≤ 68) → ¬ (q = 79 ∧ 0 ≤ i ∧ i ≤ 1) → ¬ (q = 56 ∧ (i = 9 ∨ i = 15 ∨ (19 ≤ i ∧ i ≤ 22))) → ¬ (q = 56 ∧ 5 ≤ i ∧ i ≤ 7) → s2 q i = s q i := fun q i z0 z1 z2 z3 z4 z5 z6 z7 => by
      rw [fr q i z1 z2 z3 z4 z5 z6 z7, f50 q i z0]
    have t58 : ∀ i, 0 ≤ i → i < 28 → s2 58 i = t0 57 i := fun i i0 i1 => by
      rw [g3 i i0 i1, ← hRd2.2.2.1 i i0 i1, hRd.2.2.1 i i0 i1]
    have hT2 : TRng (s2 58) := hT.cg t58
    refine ⟨s1 3 2, sF, s2, c1, ?_, g2, ⟨?_, fun i i0 i1 => ?_, hT2⟩, ?_, ⟨?_, fun c g x0 x1 y0 y1 => ?_⟩, ?_, ?_, ⟨⟨?_, ?_, fun z => ?_⟩, ⟨?_, ?_, fun z => ?_⟩⟩, ?_⟩
    · rw [g162_0 c2, e1, bnI_some, if_pos rfl, g1, bnV_some, g6 56 7 (by decide) (by decide) (by decide) (by decide), (e3 rfl).2]
    · rw [lo 0 9 (by decide), lo 0 10 (by decide), c3.1, c3.2]
      omega
    · rw [lo 0 9 (by decide), c3.1, t58 i i0 i1, ← c4 i i0 i1]
      exact tv_cg (fun q i z1 z2 => lo q i (by omega)) i
    · have hX := h.2.2.1
      unfold TextI at hX ⊢
      rw [lo 1 1 (by decide), fF 1 1 (by omega) (by omega) (by omega) (by omega) (by omega) (by unfold Crk; omega) (by omega) (by omega) (by omega) (by omega), hi 56 4 (by decide) (by decide) (by decide) (by decide) (by decide) (by decide) (by decide) (by decide)]
      refine ⟨hX.1, hX.2.1, fun i i0 i1 => ?_⟩
      rw [lo 2 i (by decide), fF 2 i (by omega) (by omega) (by omega) (by omega) (by omega) (by unfold Crk; omega) (by omega) (by omega) (by omega) (by omega), hi 60 i (by decide) (by decide) (by decide) (by decide) (by decide) (by omega) (by omega) (by omega)]
      exact hX.2.2 i i0 i1
    · rw [lo 5 4 (by decide), c5]
      unfold allS
      rw [t58 1 (by decide) (by decide), t58 2 (by decide) (by decide), t58 3 (by decide) (by decide)]
    · have hc3 : c < 3 := by have := hT2.1; omega
      have e0 : s2 58 0 = t0 57 0 := t58 0 (by decide) (by decide)
      rw [lo 7 _ (by decide), lo 6 _ (by decide), outS_cg t58 ⟨x0, hc3⟩, soldS_cg t58 ⟨x0, hc3⟩, Int.mul_comm c 61]
      exact c6 c g x0 (by omega) y0 y1
    · unfold SeeI
      rw [lo 10 2 (by decide), c7, g4.1]
      exact ⟨rfl, by decide, fun i i0 i1 => by omega⟩
    · have hX := h.2.2.2.2.2.1
      have x6 := hX.2.2.2.2.2
      obtain ⟨y1, y2, y3, y4, y5, y6, y7, y8⟩ := g4
      unfold MornI
      rw [y4, y5, y6, y7, y8, lo 16 6 (by decide), lo 16 7 (by decide), lo 16 8 (by decide), lo 16 9 (by decide), lo 16 10 (by decide), c8.1, c8.2.1, c8.2.2.1, c8.2.2.2.1, c8.2.2.2.2]
      refine ⟨by decide, fun c k0 k1 => ?_, by decide, ⟨rfl, rfl, Or.inl ⟨rfl, rfl⟩⟩, by decide, fun i i0 i1 => ⟨?_, fun z => by omega⟩⟩
      · have u := c9 c k0 k1
        have v := g5 c k0 k1
        rw [lo 17 c (by decide), lo 18 c (by decide), lo 19 c (by decide), u.1, u.2.1, u.2.2, v.1, v.2.1, v.2.2]
        exact ⟨rfl, rfl, rfl, by decide, by decide, by decide, fun _ => rfl⟩
      · have u := (x6 i i0 i1).1
        have w : ∀ q, 20 ≤ q → q ≤ 22 → s2 q i = s q i := fun q h1 h2 => by
          rw [lo q i (by omega), fF q i (by omega) (by omega) (by omega) (by omega) (by omega) (by unfold Crk; omega) (by omega) (by omega) (by omega) (by omega)]
        rw [w 20 (by decide) (by decide), w 21 (by decide) (by decide), w 22 (by decide) (by decide), hi 69 i (by decide) (by decide) (by decide) (by decide) (by decide) (by omega) (by omega) (by omega), hi 70 i (by decide) (by decide) (by decide) (by decide) (by decide) (by omega) (by omega) (by omega), hi 71 i (by decide) (by decide) (by decide) (by decide) (by decide) (by omega) (by omega) (by omega)]
        exact u
    · rw [lo 31 0 (by decide), c10.1, g4.2.1]
    · exact Or.inl g4.2.1
    · rw [g4.2.1] at z; omega
    · rw [lo 31 1 (by decide), c10.2, g4.2.2.1]
    · exact Or.inl g4.2.2.1
    · rw [g4.2.2.1] at z; omega
    · have hX := h.2.2.2.2.2.2.2
      unfold CntI at hX ⊢
      have w : ∀ i, s2 (-1) i = s (-1) i := fun i => by
        rw [lo (-1) i (by decide), fF (-1) i (by omega) (by omega) (by omega) (by omega) (by omega) (by unfold Crk; omega) (by omega) (by omega) (by omega) (by omega)]
      rw [w, w]
      exact hX
  · refine ⟨-3, s1, t0, ?_, ?_, h.sc (fun k i hk => ?_)⟩
    · have r1 : s 0 1 = 3 := hR.2.1
      have r0 : s 0 0 = 1 := hR.1
      rw [e106_0, g_t (by decide), r1, g_t (by decide), g_t (by decide), r0, g_t (by decide), g_t (by decide), ← hdd, g_t (by omega), g_t (by decide), a1, bnI_some, if_neg q]
    · rw [g162_0 hR1, b1, bnI_some, if_neg q]
    · rw [← hdd] at hk
      unfold scr at hk
      rw [b2 k i (by omega) (by omega) (by omega), a2 k i (by omega) (by omega) (by omega) (by omega)]

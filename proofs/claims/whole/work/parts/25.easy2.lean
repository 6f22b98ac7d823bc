/-! calls that set one thing -/
theorem q_about {s : SG} (h : Inv s) (a : Int) : ∃ r, sem 108 0 [aA 0, aI a] [] s = some (aI r, s) ∧ sem 166 0 [aA 56, aI a] [] s = some (aI r, s) := by
  have hR := h.1
  unfold RefC at hR
  have ht := h.tr.1
  have h9 : 0 ≤ s 0 9 := by have := h.2.1.1; omega
  have hT := h.2.1.2.1
  have h3 := h.2.1.2.2.1
  have h4 : s (s 0 9) 4 = s 58 0 := hT 0 (by decide) (by decide)
  by_cases q1 : 0 ≤ a ∧ a ≤ 9
  · by_cases q2 : 7 ≤ a
    · by_cases q3 : 0 ≤ a - 7 ∧ a - 7 < s 58 0
      · have e1 := hT a (by omega) (by omega)
        have e2 : tv s (s 0 9) a = s (s 0 9 + 4) (a - 7) := by
          unfold tv
          repeat rw [if_neg (by omega)]
          rw [if_pos (by omega)]
        refine ⟨s 58 a, ?_, ?_⟩
        · rw [e108_0]
          repeat rw [if_neg (by omega)]
          repeat rw [if_pos (by omega)]
          have q4 : a - 7 < 3 := by omega
          simp (disch := omega) only [grd_if, bnI_some, bnL_some, bnV_some, up_app, kds, kls, and_true, true_and, and_self, and_false, false_and, or_true, true_or, or_false, false_or, not_true_eq_false, not_false_eq_true, ite_true, ite_false, if_true, if_false, ↓reduceIte, Int.reduceLT, Int.reduceLE, Int.reduceEq, Int.reduceNe, Int.reduceAdd, Int.reduceSub, Int.reduceMul, Int.reduceNeg, ne_eq, Int.le_refl, Int.lt_irrefl, cmpL_lt0, cmpL_gt0, cmpL_eq0, cmpL_le0, cmpL_ge0, hR, ht, h9, w32_id, c_hasC h, q3, b01, c_nextFrom h.tr, h4, q4]
          rw [← e1, e2]
        · rw [e166_0]
          simp (disch := omega) only [grd_if, bnI_some, bnL_some, bnV_some, up_app, kds, kls, and_true, true_and, and_self, and_false, false_and, or_true, true_or, or_false, false_or, not_true_eq_false, not_false_eq_true, ite_true, ite_false, if_true, if_false, ↓reduceIte, Int.reduceLT, Int.reduceLE, Int.reduceEq, Int.reduceNe, Int.reduceAdd, Int.reduceSub, Int.reduceMul, Int.reduceNeg, ne_eq, Int.le_refl, Int.lt_irrefl, cmpL_lt0, cmpL_gt0, cmpL_eq0, cmpL_le0, cmpL_ge0, c_in, q1, b01]
          rw [if_pos (by omega)]
          simp (disch := omega) only [grd_if, bnI_some, bnL_some, bnV_some, up_app, kds, kls, and_true, true_and, and_self, and_false, false_and, or_true, true_or, or_false, false_or, not_true_eq_false, not_false_eq_true, ite_true, ite_false, if_true, if_false, ↓reduceIte, Int.reduceLT, Int.reduceLE, Int.reduceEq, Int.reduceNe, Int.reduceAdd, Int.reduceSub, Int.reduceMul, Int.reduceNeg, ne_eq, Int.le_refl, Int.lt_irrefl, cmpL_lt0, cmpL_gt0, cmpL_eq0, cmpL_le0, cmpL_ge0, w32_id, c_isCorner h, q3, b01, hR]
          rw [if_pos (by omega)]
      · refine ⟨-1, ?_, ?_⟩
        · rw [e108_0]
          repeat rw [if_neg (by omega)]
          repeat rw [if_pos (by omega)]
          simp (disch := omega) only [grd_if, bnI_some, bnL_some, bnV_some, up_app, kds, kls, and_true, true_and, and_self, and_false, false_and, or_true, true_or, or_false, false_or, not_true_eq_false, not_false_eq_true, ite_true, ite_false, if_true, if_false, ↓reduceIte, Int.reduceLT, Int.reduceLE, Int.reduceEq, Int.reduceNe, Int.reduceAdd, Int.reduceSub, Int.reduceMul, Int.reduceNeg, ne_eq, Int.le_refl, Int.lt_irrefl, cmpL_lt0, cmpL_gt0, cmpL_eq0, cmpL_le0, cmpL_ge0, hR, ht, h9, w32_id, c_hasC h, q3, b01]
        · rw [e166_0]
          simp (disch := omega) only [grd_if, bnI_some, bnL_some, bnV_some, up_app, kds, kls, and_true, true_and, and_self, and_false, false_and, or_true, true_or, or_false, false_or, not_true_eq_false, not_false_eq_true, ite_true, ite_false, if_true, if_false, ↓reduceIte, Int.reduceLT, Int.reduceLE, Int.reduceEq, Int.reduceNe, Int.reduceAdd, Int.reduceSub, Int.reduceMul, Int.reduceNeg, ne_eq, Int.le_refl, Int.lt_irrefl, cmpL_lt0, cmpL_gt0, cmpL_eq0, cmpL_le0, cmpL_ge0, c_in, q1, b01]
          rw [if_pos (by omega)]
          simp (disch := omega) only [grd_if, bnI_some, bnL_some, bnV_some, up_app, kds, kls, and_true, true_and, and_self, and_false, false_and, or_true, true_or, or_false, false_or, not_true_eq_false, not_false_eq_true, ite_true, ite_false, if_true, if_false, ↓reduceIte, Int.reduceLT, Int.reduceLE, Int.reduceEq, Int.reduceNe, Int.reduceAdd, Int.reduceSub, Int.reduceMul, Int.reduceNeg, ne_eq, Int.le_refl, Int.lt_irrefl, cmpL_lt0, cmpL_gt0, cmpL_eq0, cmpL_le0, cmpL_ge0, w32_id, c_isCorner h, q3, b01, hR]
    · refine ⟨s 58 a, ?_, ?_⟩
      · have e1 := hT a (by omega) (by omega)
        have hc : a = 0 ∨ a = 1 ∨ a = 2 ∨ a = 3 ∨ a = 4 ∨ a = 5 ∨ a = 6 := by omega
        have w0 : w32 0 = 0 := rfl
        have w1 : w32 1 = 1 := rfl
        have w2 : w32 2 = 2 := rfl
        have k0 := c_shareOf h.tr (k := 0) (by decide) (by decide)
        have k1 := c_shareOf h.tr (k := 1) (by decide) (by decide)
        have k2 := c_shareOf h.tr (k := 2) (by decide) (by decide)
        rw [e108_0]
        rcases hc with rfl | rfl | rfl | rfl | rfl | rfl | rfl <;> (unfold tv at e1; simp only [↓reduceIte, Int.reduceEq, Int.reduceLE, Int.reduceSub] at e1; simp (disch := omega) only [grd_if, bnI_some, bnL_some, bnV_some, up_app, kds, kls, and_true, true_and, and_self, and_false, false_and, or_true, true_or, or_false, false_or, not_true_eq_false, not_false_eq_true, ite_true, ite_false, if_true, if_false, ↓reduceIte, Int.reduceLT, Int.reduceLE, Int.reduceEq, Int.reduceNe, Int.reduceAdd, Int.reduceSub, Int.reduceMul, Int.reduceNeg, ne_eq, Int.le_refl, Int.lt_irrefl, cmpL_lt0, cmpL_gt0, cmpL_eq0, cmpL_le0, cmpL_ge0, hR, ht, h9, w0, w1, w2, k0, k1, k2, e1])
      · rw [e166_0]
        simp (disch := omega) only [grd_if, bnI_some, bnL_some, bnV_some, up_app, kds, kls, and_true, true_and, and_self, and_false, false_and, or_true, true_or, or_false, false_or, not_true_eq_false, not_false_eq_true, ite_true, ite_false, if_true, if_false, ↓reduceIte, Int.reduceLT, Int.reduceLE, Int.reduceEq, Int.reduceNe, Int.reduceAdd, Int.reduceSub, Int.reduceMul, Int.reduceNeg, ne_eq, Int.le_refl, Int.lt_irrefl, cmpL_lt0, cmpL_gt0, cmpL_eq0, cmpL_le0, cmpL_ge0, c_in, q1, b01]
        rw [if_neg (by omega)]
        simp (disch := omega) only [grd_if, bnI_some, bnL_some, bnV_some, up_app, kds, kls, and_true, true_and, and_self, and_false, false_and, or_true, true_or, or_false, false_or, not_true_eq_false, not_false_eq_true, ite_true, ite_false, if_true, if_false, ↓reduceIte, Int.reduceLT, Int.reduceLE, Int.reduceEq, Int.reduceNe, Int.reduceAdd, Int.reduceSub, Int.reduceMul, Int.reduceNeg, ne_eq, Int.le_refl, Int.lt_irrefl, cmpL_lt0, cmpL_gt0, cmpL_eq0, cmpL_le0, cmpL_ge0, hR]
        rw [if_pos (by omega)]
  · refine ⟨-2, ?_, ?_⟩
    · rw [e108_0]
      by_cases q2 : a < 0
      · rw [if_pos q2]
      · rw [if_neg q2, if_pos (by omega)]
    · rw [e166_0]
      simp (disch := omega) only [grd_if, bnI_some, bnL_some, bnV_some, up_app, kds, kls, and_true, true_and, and_self, and_false, false_and, or_true, true_or, or_false, false_or, not_true_eq_false, not_false_eq_true, ite_true, ite_false, if_true, if_false, ↓reduceIte, Int.reduceLT, Int.reduceLE, Int.reduceEq, Int.reduceNe, Int.reduceAdd, Int.reduceSub, Int.reduceMul, Int.reduceNeg, ne_eq, Int.le_refl, Int.lt_irrefl, cmpL_lt0, cmpL_gt0, cmpL_eq0, cmpL_le0, cmpL_ge0, c_in, q1, b01]
theorem q_wipe {s : SG} (h : Inv s) : ∃ r s1 s2, sem 104 0 [aA 0] [] s = some (aI r, s1) ∧ sem 156 0 [aA 56, aU] [] s1 = some (aI r, s2) ∧ Inv s2 := by
  have hR := h.1
  unfold RefC at hR
  have hX := h.2.2.1
  refine ⟨s 56 4, up s 1 1 0, up (up s 1 1 0) 56 4 0, ?_, ?_, ?_⟩
  · rw [e104_0]
    simp (disch := omega) only [grd_if, bnI_some, bnL_some, bnV_some, up_app, kds, kls, and_true, true_and, and_self, and_false, false_and, or_true, true_or, or_false, false_or, not_true_eq_false, not_false_eq_true, ite_true, ite_false, if_true, if_false, ↓reduceIte, Int.reduceLT, Int.reduceLE, Int.reduceEq, Int.reduceNe, Int.reduceAdd, Int.reduceSub, Int.reduceMul, Int.reduceNeg, ne_eq, Int.le_refl, Int.lt_irrefl, cmpL_lt0, cmpL_gt0, cmpL_eq0, cmpL_le0, cmpL_ge0, hR, e78_0, hX.1]
  · rw [e156_0]
    simp (disch := omega) only [grd_if, bnI_some, bnL_some, bnV_some, up_app, kds, kls, and_true, true_and, and_self, and_false, false_and, or_true, true_or, or_false, false_or, not_true_eq_false, not_false_eq_true, ite_true, ite_false, if_true, if_false, ↓reduceIte, Int.reduceLT, Int.reduceLE, Int.reduceEq, Int.reduceNe, Int.reduceAdd, Int.reduceSub, Int.reduceMul, Int.reduceNeg, ne_eq, Int.le_refl, Int.lt_irrefl, cmpL_lt0, cmpL_gt0, cmpL_eq0, cmpL_le0, cmpL_ge0]
  · refine h.text (fun k i h1 h2 => ?_) ?_
    · unfold Ctext at h2
      simp (disch := omega) only [grd_if, bnI_some, bnL_some, bnV_some, up_app, kds, kls, and_true, true_and, and_self, and_false, false_and, or_true, true_or, or_false, false_or, not_true_eq_false, not_false_eq_true, ite_true, ite_false, if_true, if_false, ↓reduceIte, Int.reduceLT, Int.reduceLE, Int.reduceEq, Int.reduceNe, Int.reduceAdd, Int.reduceSub, Int.reduceMul, Int.reduceNeg, ne_eq, Int.le_refl, Int.lt_irrefl, cmpL_lt0, cmpL_gt0, cmpL_eq0, cmpL_le0, cmpL_ge0]
      repeat rw [if_neg (by omega)]
    · refine ⟨by simp (disch := omega) only [grd_if, bnI_some, bnL_some, bnV_some, up_app, kds, kls, and_true, true_and, and_self, and_false, false_and, or_true, true_or, or_false, false_or, not_true_eq_false, not_false_eq_true, ite_true, ite_false, if_true, if_false, ↓reduceIte, Int.reduceLT, Int.reduceLE, Int.reduceEq, Int.reduceNe, Int.reduceAdd, Int.reduceSub, Int.reduceMul, Int.reduceNeg, ne_eq, Int.le_refl, Int.lt_irrefl, cmpL_lt0, cmpL_gt0, cmpL_eq0, cmpL_le0, cmpL_ge0], by simp (disch := omega) only [grd_if, bnI_some, bnL_some, bnV_some, up_app, kds, kls, and_true, true_and, and_self, and_false, false_and, or_true, true_or, or_false, false_or, not_true_eq_false, not_false_eq_true, ite_true, ite_false, if_true, if_false, ↓reduceIte, Int.reduceLT, Int.reduceLE, Int.reduceEq, Int.reduceNe, Int.reduceAdd, Int.reduceSub, Int.reduceMul, Int.reduceNeg, ne_eq, Int.le_refl, Int.lt_irrefl, cmpL_lt0, cmpL_gt0, cmpL_eq0, cmpL_le0, cmpL_ge0], fun i i0 i1 => ?_⟩
      simp (disch := omega) only [grd_if, bnI_some, bnL_some, bnV_some, up_app, kds, kls, and_true, true_and, and_self, and_false, false_and, or_true, true_or, or_false, false_or, not_true_eq_false, not_false_eq_true, ite_true, ite_false, if_true, if_false, ↓reduceIte, Int.reduceLT, Int.reduceLE, Int.reduceEq, Int.reduceNe, Int.reduceAdd, Int.reduceSub, Int.reduceMul, Int.reduceNeg, ne_eq, Int.le_refl, Int.lt_irrefl, cmpL_lt0, cmpL_gt0, cmpL_eq0, cmpL_le0, cmpL_ge0] at i1
      omega
theorem q_unsee {s : SG} (h : Inv s) : ∃ r s1 s2, sem 116 0 [aA 0] [] s = some (aI r, s1) ∧ sem 180 0 [aA 56, aU] [] s1 = some (aI r, s2) ∧ Inv s2 := by
  have hR := h.1
  unfold RefC at hR
  have hX := h.2.2.2.2.1
  refine ⟨s 56 9, up s 10 2 0, up (up s 10 2 0) 56 9 0, ?_, ?_, ?_⟩
  · rw [e116_0]
    simp (disch := omega) only [grd_if, bnI_some, bnL_some, bnV_some, up_app, kds, kls, and_true, true_and, and_self, and_false, false_and, or_true, true_or, or_false, false_or, not_true_eq_false, not_false_eq_true, ite_true, ite_false, if_true, if_false, ↓reduceIte, Int.reduceLT, Int.reduceLE, Int.reduceEq, Int.reduceNe, Int.reduceAdd, Int.reduceSub, Int.reduceMul, Int.reduceNeg, ne_eq, Int.le_refl, Int.lt_irrefl, cmpL_lt0, cmpL_gt0, cmpL_eq0, cmpL_le0, cmpL_ge0, hR, e67_0, hX.1]
  · rw [e180_0]
    simp (disch := omega) only [grd_if, bnI_some, bnL_some, bnV_some, up_app, kds, kls, and_true, true_and, and_self, and_false, false_and, or_true, true_or, or_false, false_or, not_true_eq_false, not_false_eq_true, ite_true, ite_false, if_true, if_false, ↓reduceIte, Int.reduceLT, Int.reduceLE, Int.reduceEq, Int.reduceNe, Int.reduceAdd, Int.reduceSub, Int.reduceMul, Int.reduceNeg, ne_eq, Int.le_refl, Int.lt_irrefl, cmpL_lt0, cmpL_gt0, cmpL_eq0, cmpL_le0, cmpL_ge0]
  · refine h.see (fun k i h1 h2 => ?_) ?_
    · unfold Csee at h2
      simp (disch := omega) only [grd_if, bnI_some, bnL_some, bnV_some, up_app, kds, kls, and_true, true_and, and_self, and_false, false_and, or_true, true_or, or_false, false_or, not_true_eq_false, not_false_eq_true, ite_true, ite_false, if_true, if_false, ↓reduceIte, Int.reduceLT, Int.reduceLE, Int.reduceEq, Int.reduceNe, Int.reduceAdd, Int.reduceSub, Int.reduceMul, Int.reduceNeg, ne_eq, Int.le_refl, Int.lt_irrefl, cmpL_lt0, cmpL_gt0, cmpL_eq0, cmpL_le0, cmpL_ge0]
      repeat rw [if_neg (by omega)]
    · refine ⟨by simp (disch := omega) only [grd_if, bnI_some, bnL_some, bnV_some, up_app, kds, kls, and_true, true_and, and_self, and_false, false_and, or_true, true_or, or_false, false_or, not_true_eq_false, not_false_eq_true, ite_true, ite_false, if_true, if_false, ↓reduceIte, Int.reduceLT, Int.reduceLE, Int.reduceEq, Int.reduceNe, Int.reduceAdd, Int.reduceSub, Int.reduceMul, Int.reduceNeg, ne_eq, Int.le_refl, Int.lt_irrefl, cmpL_lt0, cmpL_gt0, cmpL_eq0, cmpL_le0, cmpL_ge0], by simp (disch := omega) only [grd_if, bnI_some, bnL_some, bnV_some, up_app, kds, kls, and_true, true_and, and_self, and_false, false_and, or_true, true_or, or_false, false_or, not_true_eq_false, not_false_eq_true, ite_true, ite_false, if_true, if_false, ↓reduceIte, Int.reduceLT, Int.reduceLE, Int.reduceEq, Int.reduceNe, Int.reduceAdd, Int.reduceSub, Int.reduceMul, Int.reduceNeg, ne_eq, Int.le_refl, Int.lt_irrefl, cmpL_lt0, cmpL_gt0, cmpL_eq0, cmpL_le0, cmpL_ge0], fun i i0 i1 => ?_⟩
      simp (disch := omega) only [grd_if, bnI_some, bnL_some, bnV_some, up_app, kds, kls, and_true, true_and, and_self, and_false, false_and, or_true, true_or, or_false, false_or, not_true_eq_false, not_false_eq_true, ite_true, ite_false, if_true, if_false, ↓reduceIte, Int.reduceLT, Int.reduceLE, Int.reduceEq, Int.reduceNe, Int.reduceAdd, Int.reduceSub, Int.reduceMul, Int.reduceNeg, ne_eq, Int.le_refl, Int.lt_irrefl, cmpL_lt0, cmpL_gt0, cmpL_eq0, cmpL_le0, cmpL_ge0] at i1
      omega
theorem q_day {s : SG} (h : Inv s) (a : Int) : ∃ r s1 s2, sem 122 0 [aA 0, aI a, aU] [] s = some (aI r, s1) ∧ sem 196 0 [aA 56, aI a, aU] [] s1 = some (aI r, s2) ∧ Inv s2 := by
  have hR := h.1
  unfold RefC at hR
  have hX := h.2.2.2.2.2.1
  by_cases q : 0 ≤ a ∧ a < 3
  · refine ⟨s 56 15, up s 16 6 a, up (up s 16 6 a) 56 15 a, ?_, ?_, ?_⟩
    · rw [e122_0]
      simp (disch := omega) only [grd_if, bnI_some, bnL_some, bnV_some, up_app, kds, kls, and_true, true_and, and_self, and_false, false_and, or_true, true_or, or_false, false_or, not_true_eq_false, not_false_eq_true, ite_true, ite_false, if_true, if_false, ↓reduceIte, Int.reduceLT, Int.reduceLE, Int.reduceEq, Int.reduceNe, Int.reduceAdd, Int.reduceSub, Int.reduceMul, Int.reduceNeg, ne_eq, Int.le_refl, Int.lt_irrefl, cmpL_lt0, cmpL_gt0, cmpL_eq0, cmpL_le0, cmpL_ge0, hR, c_isKind, q, b01, hX.1.1]
    · rw [e196_0]
      simp (disch := omega) only [grd_if, bnI_some, bnL_some, bnV_some, up_app, kds, kls, and_true, true_and, and_self, and_false, false_and, or_true, true_or, or_false, false_or, not_true_eq_false, not_false_eq_true, ite_true, ite_false, if_true, if_false, ↓reduceIte, Int.reduceLT, Int.reduceLE, Int.reduceEq, Int.reduceNe, Int.reduceAdd, Int.reduceSub, Int.reduceMul, Int.reduceNeg, ne_eq, Int.le_refl, Int.lt_irrefl, cmpL_lt0, cmpL_gt0, cmpL_eq0, cmpL_le0, cmpL_ge0, c_isKind9, q, b01]
    · refine h.morn (fun k i h1 h2 => ?_) ?_
      · unfold Cmorn at h2
        simp (disch := omega) only [grd_if, bnI_some, bnL_some, bnV_some, up_app, kds, kls, and_true, true_and, and_self, and_false, false_and, or_true, true_or, or_false, false_or, not_true_eq_false, not_false_eq_true, ite_true, ite_false, if_true, if_false, ↓reduceIte, Int.reduceLT, Int.reduceLE, Int.reduceEq, Int.reduceNe, Int.reduceAdd, Int.reduceSub, Int.reduceMul, Int.reduceNeg, ne_eq, Int.le_refl, Int.lt_irrefl, cmpL_lt0, cmpL_gt0, cmpL_eq0, cmpL_le0, cmpL_ge0]
        repeat rw [if_neg (by omega)]
      · unfold MornI at hX ⊢
        simp (disch := omega) only [grd_if, bnI_some, bnL_some, bnV_some, up_app, kds, kls, and_true, true_and, and_self, and_false, false_and, or_true, true_or, or_false, false_or, not_true_eq_false, not_false_eq_true, ite_true, ite_false, if_true, if_false, ↓reduceIte, Int.reduceLT, Int.reduceLE, Int.reduceEq, Int.reduceNe, Int.reduceAdd, Int.reduceSub, Int.reduceMul, Int.reduceNeg, ne_eq, Int.le_refl, Int.lt_irrefl, cmpL_lt0, cmpL_gt0, cmpL_eq0, cmpL_le0, cmpL_ge0]
        exact ⟨by omega, hX.2⟩
  · refine ⟨-1, s, s, ?_, ?_, h⟩
    · rw [e122_0]
      simp (disch := omega) only [grd_if, bnI_some, bnL_some, bnV_some, up_app, kds, kls, and_true, true_and, and_self, and_false, false_and, or_true, true_or, or_false, false_or, not_true_eq_false, not_false_eq_true, ite_true, ite_false, if_true, if_false, ↓reduceIte, Int.reduceLT, Int.reduceLE, Int.reduceEq, Int.reduceNe, Int.reduceAdd, Int.reduceSub, Int.reduceMul, Int.reduceNeg, ne_eq, Int.le_refl, Int.lt_irrefl, cmpL_lt0, cmpL_gt0, cmpL_eq0, cmpL_le0, cmpL_ge0, hR, c_isKind, q, b01]
    · rw [e196_0]
      simp (disch := omega) only [grd_if, bnI_some, bnL_some, bnV_some, up_app, kds, kls, and_true, true_and, and_self, and_false, false_and, or_true, true_or, or_false, false_or, not_true_eq_false, not_false_eq_true, ite_true, ite_false, if_true, if_false, ↓reduceIte, Int.reduceLT, Int.reduceLE, Int.reduceEq, Int.reduceNe, Int.reduceAdd, Int.reduceSub, Int.reduceMul, Int.reduceNeg, ne_eq, Int.le_refl, Int.lt_irrefl, cmpL_lt0, cmpL_gt0, cmpL_eq0, cmpL_le0, cmpL_ge0, c_isKind9, q, b01]
theorem q_unorder {s : SG} (h : Inv s) : ∃ r s1 s2, sem 127 0 [aA 0, aU] [] s = some (aI r, s1) ∧ sem 201 0 [aA 56, aU] [] s1 = some (aI r, s2) ∧ Inv s2 := by
  have hR := h.1
  unfold RefC at hR
  have hX := h.2.2.2.2.2.1
  refine ⟨s 56 22, up s 16 10 0, up (up s 16 10 0) 56 22 0, ?_, ?_, ?_⟩
  · rw [e127_0]
    simp (disch := omega) only [grd_if, bnI_some, bnL_some, bnV_some, up_app, kds, kls, and_true, true_and, and_self, and_false, false_and, or_true, true_or, or_false, false_or, not_true_eq_false, not_false_eq_true, ite_true, ite_false, if_true, if_false, ↓reduceIte, Int.reduceLT, Int.reduceLE, Int.reduceEq, Int.reduceNe, Int.reduceAdd, Int.reduceSub, Int.reduceMul, Int.reduceNeg, ne_eq, Int.le_refl, Int.lt_irrefl, cmpL_lt0, cmpL_gt0, cmpL_eq0, cmpL_le0, cmpL_ge0, hR, hX.2.2.2.2.1.1]
  · rw [e201_0]
    simp (disch := omega) only [grd_if, bnI_some, bnL_some, bnV_some, up_app, kds, kls, and_true, true_and, and_self, and_false, false_and, or_true, true_or, or_false, false_or, not_true_eq_false, not_false_eq_true, ite_true, ite_false, if_true, if_false, ↓reduceIte, Int.reduceLT, Int.reduceLE, Int.reduceEq, Int.reduceNe, Int.reduceAdd, Int.reduceSub, Int.reduceMul, Int.reduceNeg, ne_eq, Int.le_refl, Int.lt_irrefl, cmpL_lt0, cmpL_gt0, cmpL_eq0, cmpL_le0, cmpL_ge0]
  · refine h.morn (fun k i h1 h2 => ?_) ?_
    · unfold Cmorn at h2
      simp (disch := omega) only [grd_if, bnI_some, bnL_some, bnV_some, up_app, kds, kls, and_true, true_and, and_self, and_false, false_and, or_true, true_or, or_false, false_or, not_true_eq_false, not_false_eq_true, ite_true, ite_false, if_true, if_false, ↓reduceIte, Int.reduceLT, Int.reduceLE, Int.reduceEq, Int.reduceNe, Int.reduceAdd, Int.reduceSub, Int.reduceMul, Int.reduceNeg, ne_eq, Int.le_refl, Int.lt_irrefl, cmpL_lt0, cmpL_gt0, cmpL_eq0, cmpL_le0, cmpL_ge0]
      repeat rw [if_neg (by omega)]
    · unfold MornI at hX ⊢
      simp (disch := omega) only [grd_if, bnI_some, bnL_some, bnV_some, up_app, kds, kls, and_true, true_and, and_self, and_false, false_and, or_true, true_or, or_false, false_or, not_true_eq_false, not_false_eq_true, ite_true, ite_false, if_true, if_false, ↓reduceIte, Int.reduceLT, Int.reduceLE, Int.reduceEq, Int.reduceNe, Int.reduceAdd, Int.reduceSub, Int.reduceMul, Int.reduceNeg, ne_eq, Int.le_refl, Int.lt_irrefl, cmpL_lt0, cmpL_gt0, cmpL_eq0, cmpL_le0, cmpL_ge0]
      exact ⟨hX.1, hX.2.1, hX.2.2.1, hX.2.2.2.1, fun i i0 i1 => ⟨(hX.2.2.2.2.2 i i0 i1).1, fun q => by omega⟩⟩
theorem q_habit {s : SG} (h : Inv s) (a : Int) : ∃ r, sem 131 0 [aA 0, aI a] [] s = some (aI r, s) ∧ sem 213 0 [aA 56, aI a] [] s = some (aI r, s) := by
  have hR := h.1
  unfold RefC at hR
  have ht := h.tr.1
  have h9 : 0 ≤ s 0 9 := by have := h.2.1.1; omega
  have h3 := h.2.1.2.2.1
  have hX := h.2.2.2.2.2.1
  by_cases q : 0 ≤ a ∧ a < s 58 0
  · have q3 : a < 3 := by omega
    have e1 := (hX.2.1 a q.1 q3).2.1
    refine ⟨s 68 a, ?_, ?_⟩
    · rw [e131_0]
      simp (disch := omega) only [grd_if, bnI_some, bnL_some, bnV_some, up_app, kds, kls, and_true, true_and, and_self, and_false, false_and, or_true, true_or, or_false, false_or, not_true_eq_false, not_false_eq_true, ite_true, ite_false, if_true, if_false, ↓reduceIte, Int.reduceLT, Int.reduceLE, Int.reduceEq, Int.reduceNe, Int.reduceAdd, Int.reduceSub, Int.reduceMul, Int.reduceNeg, ne_eq, Int.le_refl, Int.lt_irrefl, cmpL_lt0, cmpL_gt0, cmpL_eq0, cmpL_le0, cmpL_ge0, hR, ht, h9, c_hasC h, q, b01, e22_0, c_isRow, q3, e1]
    · rw [e213_0]
      simp (disch := omega) only [grd_if, bnI_some, bnL_some, bnV_some, up_app, kds, kls, and_true, true_and, and_self, and_false, false_and, or_true, true_or, or_false, false_or, not_true_eq_false, not_false_eq_true, ite_true, ite_false, if_true, if_false, ↓reduceIte, Int.reduceLT, Int.reduceLE, Int.reduceEq, Int.reduceNe, Int.reduceAdd, Int.reduceSub, Int.reduceMul, Int.reduceNeg, ne_eq, Int.le_refl, Int.lt_irrefl, cmpL_lt0, cmpL_gt0, cmpL_eq0, cmpL_le0, cmpL_ge0, hR, c_isCorner h, q, b01, q3]
  · refine ⟨-1, ?_, ?_⟩
    · rw [e131_0]
      simp (disch := omega) only [grd_if, bnI_some, bnL_some, bnV_some, up_app, kds, kls, and_true, true_and, and_self, and_false, false_and, or_true, true_or, or_false, false_or, not_true_eq_false, not_false_eq_true, ite_true, ite_false, if_true, if_false, ↓reduceIte, Int.reduceLT, Int.reduceLE, Int.reduceEq, Int.reduceNe, Int.reduceAdd, Int.reduceSub, Int.reduceMul, Int.reduceNeg, ne_eq, Int.le_refl, Int.lt_irrefl, cmpL_lt0, cmpL_gt0, cmpL_eq0, cmpL_le0, cmpL_ge0, hR, ht, h9, c_hasC h, q, b01]
    · rw [e213_0]
      simp (disch := omega) only [grd_if, bnI_some, bnL_some, bnV_some, up_app, kds, kls, and_true, true_and, and_self, and_false, false_and, or_true, true_or, or_false, false_or, not_true_eq_false, not_false_eq_true, ite_true, ite_false, if_true, if_false, ↓reduceIte, Int.reduceLT, Int.reduceLE, Int.reduceEq, Int.reduceNe, Int.reduceAdd, Int.reduceSub, Int.reduceMul, Int.reduceNeg, ne_eq, Int.le_refl, Int.lt_irrefl, cmpL_lt0, cmpL_gt0, cmpL_eq0, cmpL_le0, cmpL_ge0, hR, c_isCorner h, q, b01]

/-! towns of the class -/
def TR (s : SG) (t : Int) : Prop := kd t = 6 ∧ s t 0 = t + 1 ∧ s t 1 = t + 2 ∧ s t 2 = t + 3 ∧ s t 3 = t + 4 ∧ kd (t + 1) = 101 ∧ kl (t + 1) = 3 ∧ kd (t + 2) = 101 ∧ kl (t + 2) = 9 ∧ kd (t + 3) = 101 ∧ kl (t + 3) = 9 ∧ kd (t + 4) = 101 ∧ kl (t + 4) = 3
theorem TR.of {s : SG} (h : RefC s) {t : Int} (ht : t = 32 ∨ t = 37) : TR s t := by
  unfold RefC at h
  unfold TR
  rcases ht with rfl | rfl <;> simp only [h, Int.reduceAdd, kds, kls, and_self]
theorem Inv.tr {s : SG} (h : Inv s) : TR s (s 0 9) := TR.of h.1 (by have := h.2.1.1; omega)
theorem Inv.th {s : SG} (h : Inv s) : s 0 9 = 32 ∨ s 0 9 = 37 := by have := h.2.1.1; omega
theorem Inv.tw {s : SG} (h : Inv s) : TwC s (s 0 9) := ⟨rfl, by have := h.2.1.1; omega⟩
theorem c_shareOf {s : SG} {t : Int} (h : TR s t) {k : Int} (h0 : 0 ≤ k) (h1 : k < 3) : sem 83 0 [aA t, aI k] [] s = some (aI (s (t + 1) k), s) := by
  rw [e83_0]
  have ht : 0 ≤ t + 1 := kd_pos (c := 101) (h.2.2.2.2.2.1) (by decide)
  unfold TR at h
  simp (disch := omega) only [grd_if, bnI_some, bnL_some, bnV_some, up_app, kds, kls, and_true, true_and, and_self, and_false, false_and, or_true, true_or, or_false, false_or, not_true_eq_false, not_false_eq_true, ite_true, ite_false, if_true, if_false, ↓reduceIte, Int.reduceLT, Int.reduceLE, Int.reduceEq, Int.reduceNe, Int.reduceAdd, Int.reduceSub, Int.reduceMul, Int.reduceNeg, ne_eq, Int.le_refl, Int.lt_irrefl, cmpL_lt0, cmpL_gt0, cmpL_eq0, cmpL_le0, cmpL_ge0, c_isKind, h, h0, h1, ht, b01]
theorem c_comesTo {s : SG} {t : Int} (h : TR s t) {c k : Int} (h0 : 0 ≤ c) (h1 : c < 3) (h2 : 0 ≤ k) (h3 : k < 3) : sem 84 0 [aA t, aI c, aI k, aU] [] s = some (aI (s (t + 2) (3 * c + k)), s) := by
  rw [e84_0]
  have ht : 0 ≤ t + 2 := kd_pos (c := 101) (h.2.2.2.2.2.2.2.1) (by decide)
  unfold TR at h
  have e : c * 3 + k = 3 * c + k := by omega
  have g1 : ¬ (3 * c + k < 0) := by omega
  have g2 : 0 ≤ 3 * c + k := by omega
  have g3 : 3 * c + k < 9 := by omega
  simp (disch := omega) only [grd_if, bnI_some, bnL_some, bnV_some, up_app, kds, kls, and_true, true_and, and_self, and_false, false_and, or_true, true_or, or_false, false_or, not_true_eq_false, not_false_eq_true, ite_true, ite_false, if_true, if_false, ↓reduceIte, Int.reduceLT, Int.reduceLE, Int.reduceEq, Int.reduceNe, Int.reduceAdd, Int.reduceSub, Int.reduceMul, Int.reduceNeg, ne_eq, Int.le_refl, Int.lt_irrefl, cmpL_lt0, cmpL_gt0, cmpL_eq0, cmpL_le0, cmpL_ge0, w32_id, e, h, ht, g1, g2, g3, Int.reduceLT]
theorem c_tenthsAt {s : SG} {t : Int} (h : TR s t) {c k : Int} (h0 : 0 ≤ c) (h1 : c < 3) (h2 : 0 ≤ k) (h3 : k < 3) : sem 85 0 [aA t, aI c, aI k, aU] [] s = some (aI (s (t + 3) (3 * c + k)), s) := by
  rw [e85_0]
  have ht : 0 ≤ t + 3 := kd_pos (c := 101) (h.2.2.2.2.2.2.2.2.2.1) (by decide)
  unfold TR at h
  have e : c * 3 + k = 3 * c + k := by omega
  have g1 : ¬ (3 * c + k < 0) := by omega
  have g2 : 0 ≤ 3 * c + k := by omega
  have g3 : 3 * c + k < 9 := by omega
  simp (disch := omega) only [grd_if, bnI_some, bnL_some, bnV_some, up_app, kds, kls, and_true, true_and, and_self, and_false, false_and, or_true, true_or, or_false, false_or, not_true_eq_false, not_false_eq_true, ite_true, ite_false, if_true, if_false, ↓reduceIte, Int.reduceLT, Int.reduceLE, Int.reduceEq, Int.reduceNe, Int.reduceAdd, Int.reduceSub, Int.reduceMul, Int.reduceNeg, ne_eq, Int.le_refl, Int.lt_irrefl, cmpL_lt0, cmpL_gt0, cmpL_eq0, cmpL_le0, cmpL_ge0, w32_id, e, h, ht, g1, g2, g3, Int.reduceLT]
theorem c_nextFrom {s : SG} {t : Int} (h : TR s t) (c : Int) : sem 86 0 [aA t, aI c] [] s = some (aI (if 0 ≤ c ∧ c < s t 4 ∧ c < 3 then s (t + 4) c else -9), s) := by
  rw [e86_0]
  have ht : 0 ≤ t + 4 := kd_pos (c := 101) (h.2.2.2.2.2.2.2.2.2.2.2.1) (by decide)
  unfold TR at h
  by_cases q : 0 ≤ c ∧ c < s t 4 ∧ c < 3
  · simp (disch := omega) only [grd_if, bnI_some, bnL_some, bnV_some, up_app, kds, kls, and_true, true_and, and_self, and_false, false_and, or_true, true_or, or_false, false_or, not_true_eq_false, not_false_eq_true, ite_true, ite_false, if_true, if_false, ↓reduceIte, Int.reduceLT, Int.reduceLE, Int.reduceEq, Int.reduceNe, Int.reduceAdd, Int.reduceSub, Int.reduceMul, Int.reduceNeg, ne_eq, Int.le_refl, Int.lt_irrefl, cmpL_lt0, cmpL_gt0, cmpL_eq0, cmpL_le0, cmpL_ge0, c_hasCorner _ _ _ h.1, h, ht, q, b01]
  · simp (disch := omega) only [grd_if, bnI_some, bnL_some, bnV_some, up_app, kds, kls, and_true, true_and, and_self, and_false, false_and, or_true, true_or, or_false, false_or, not_true_eq_false, not_false_eq_true, ite_true, ite_false, if_true, if_false, ↓reduceIte, Int.reduceLT, Int.reduceLE, Int.reduceEq, Int.reduceNe, Int.reduceAdd, Int.reduceSub, Int.reduceMul, Int.reduceNeg, ne_eq, Int.le_refl, Int.lt_irrefl, cmpL_lt0, cmpL_gt0, cmpL_eq0, cmpL_le0, cmpL_ge0, c_hasCorner _ _ _ h.1, h, ht, q, b01]
theorem c_hasC {s : SG} (h : Inv s) (c : Int) : sem 82 0 [aA (s 0 9), aI c] [] s = some (aI (if 0 ≤ c ∧ c < s 58 0 then 1 else 0), s) := by
  obtain ⟨t1, t3, t4⟩ := h.2.1
  have hk : kd (s 0 9) = 6 := by rcases t1 with t | t <;> (rw [t.1]; rfl)
  have h4 : s (s 0 9) 4 = s 58 0 := t3 0 (by decide) (by decide)
  rw [c_hasCorner _ _ _ hk, h4]
  have := t4.1
  congr 3
  by_cases q : 0 ≤ c ∧ c < s 58 0
  · rw [if_pos q, if_pos ⟨q.1, q.2, by omega⟩]
  · rw [if_neg q, if_neg (fun z => q ⟨z.1, z.2.1⟩)]
theorem c_isC {s : SG} (hR : RefC s) (h3 : 1 ≤ s 58 0 ∧ s 58 0 ≤ 3) (c : Int) : sem 163 0 [aA 56, aI c] [] s = some (aI (if 0 ≤ c ∧ c < s 58 0 then 1 else 0), s) := by
  have e : (0 ≤ c ∧ c ≤ s 58 0 - 1) ↔ (0 ≤ c ∧ c < s 58 0) := by omega
  rw [g163_0 hR]
  simp (disch := omega) only [grd_if, bnI_some, bnL_some, bnV_some, up_app, kds, kls, and_true, true_and, and_self, and_false, false_and, or_true, true_or, or_false, false_or, not_true_eq_false, not_false_eq_true, ite_true, ite_false, if_true, if_false, ↓reduceIte, Int.reduceLT, Int.reduceLE, Int.reduceEq, Int.reduceNe, Int.reduceAdd, Int.reduceSub, Int.reduceMul, Int.reduceNeg, ne_eq, Int.le_refl, Int.lt_irrefl, cmpL_lt0, cmpL_gt0, cmpL_eq0, cmpL_le0, cmpL_ge0, c_in, w32_id, e]
  split <;> rfl
theorem c_isCorner {s : SG} (h : Inv s) (c : Int) : sem 163 0 [aA 56, aI c] [] s = some (aI (if 0 ≤ c ∧ c < s 58 0 then 1 else 0), s) := c_isC h.1 h.2.1.2.2.1 c
theorem c_isKind9 (k : Int) (s : SG) : sem 164 0 [aI k] [] s = some (aI (if 0 ≤ k ∧ k < 3 then 1 else 0), s) := by
  have e : (0 ≤ k ∧ k ≤ 2) ↔ (0 ≤ k ∧ k < 3) := by omega
  rw [e164_0]
  simp (disch := omega) only [grd_if, bnI_some, bnL_some, bnV_some, up_app, kds, kls, and_true, true_and, and_self, and_false, false_and, or_true, true_or, or_false, false_or, not_true_eq_false, not_false_eq_true, ite_true, ite_false, if_true, if_false, ↓reduceIte, Int.reduceLT, Int.reduceLE, Int.reduceEq, Int.reduceNe, Int.reduceAdd, Int.reduceSub, Int.reduceMul, Int.reduceNeg, ne_eq, Int.le_refl, Int.lt_irrefl, cmpL_lt0, cmpL_gt0, cmpL_eq0, cmpL_le0, cmpL_ge0, c_in, e]
  split <;> rfl
theorem c_isHour (k : Int) (s : SG) : sem 195 0 [aI k] [] s = some (aI (if 0 ≤ k ∧ k < 6 then 1 else 0), s) := by
  have e : (0 ≤ k ∧ k ≤ 5) ↔ (0 ≤ k ∧ k < 6) := by omega
  rw [e195_0]
  simp (disch := omega) only [grd_if, bnI_some, bnL_some, bnV_some, up_app, kds, kls, and_true, true_and, and_self, and_false, false_and, or_true, true_or, or_false, false_or, not_true_eq_false, not_false_eq_true, ite_true, ite_false, if_true, if_false, ↓reduceIte, Int.reduceLT, Int.reduceLE, Int.reduceEq, Int.reduceNe, Int.reduceAdd, Int.reduceSub, Int.reduceMul, Int.reduceNeg, ne_eq, Int.le_refl, Int.lt_irrefl, cmpL_lt0, cmpL_gt0, cmpL_eq0, cmpL_le0, cmpL_ge0, c_in, e]
  split <;> rfl
theorem c_isHalfHour (k : Int) (s : SG) : sem 141 0 [aI k] [] s = some (aI (if 0 ≤ k ∧ k < 6 then 1 else 0), s) := by
  rw [e141_0]
  repeat' split
  all_goals first | rfl | omega
theorem c_isSlot (k : Int) (s : SG) : sem 142 0 [aI k] [] s = some (aI (if 0 ≤ k ∧ k < 2 then 1 else 0), s) := by
  rw [e142_0]
  repeat' split
  all_goals first | rfl | omega
theorem c_isPapers (k : Int) (s : SG) : sem 143 0 [aI k] [] s = some (aI (if 0 ≤ k ∧ k ≤ 60 then 1 else 0), s) := by
  rw [e143_0]
  repeat' split
  all_goals first | rfl | omega
theorem c_isCryingPay (k : Int) (s : SG) : sem 144 0 [aI k] [] s = some (aI (if 0 ≤ k ∧ k ≤ 21 then 1 else 0), s) := by
  rw [e144_0]
  repeat' split
  all_goals first | rfl | omega
theorem c_isRow (k : Int) (s : SG) : sem 139 0 [aI k] [] s = some (aI (if 0 ≤ k ∧ k < 3 then 1 else 0), s) := by
  rw [e139_0]
  repeat' split
  all_goals first | rfl | omega
theorem c_refPapers {s : SG} (h : Inv s) (c p : Int) : sem 145 0 [aA 0, aI c, aI p] [] s = some (aI (if 0 ≤ c ∧ c < s 58 0 then (if 0 ≤ p ∧ p ≤ 60 then 0 else -2) else -1), s) := by
  have hR := h.1
  unfold RefC at hR
  have ht := h.tr.1
  have h9 : 0 ≤ s 0 9 := by have := h.2.1.1; omega
  rw [e145_0]
  simp (disch := omega) only [grd_if, bnI_some, bnL_some, bnV_some, up_app, kds, kls, and_true, true_and, and_self, and_false, false_and, or_true, true_or, or_false, false_or, not_true_eq_false, not_false_eq_true, ite_true, ite_false, if_true, if_false, ↓reduceIte, Int.reduceLT, Int.reduceLE, Int.reduceEq, Int.reduceNe, Int.reduceAdd, Int.reduceSub, Int.reduceMul, Int.reduceNeg, ne_eq, Int.le_refl, Int.lt_irrefl, cmpL_lt0, cmpL_gt0, cmpL_eq0, cmpL_le0, cmpL_ge0, hR, ht, h9, c_hasC h, c_isPapers, b01]
  repeat' split
  all_goals first | rfl | omega
/-! about, wants -/
theorem q_wants {s : SG} (h : Inv s) (a b c : Int) : ∃ r, sem 107 0 [aA 0, aI a, aI b, aI c] [] s = some (aI r, s) ∧ sem 165 0 [aA 56, aI a, aI b, aI c] [] s = some (aI r, s) := by
  have hR := h.1
  unfold RefC at hR
  have ht := h.tr.1
  have h9 : 0 ≤ s 0 9 := by have := h.2.1.1; omega
  have hT := h.2.1.2.1
  have h3 := h.2.1.2.2.1
  rw [e107_0, e165_0]
  by_cases q1 : 0 ≤ a ∧ a < s 58 0
  · by_cases q2 : 0 ≤ b ∧ b < 3
    · by_cases q3 : c = 0
      · subst q3
        have e1 := hT (10 + 3 * a + b) (by omega) (by omega)
        have e2 : tv s (s 0 9) (10 + 3 * a + b) = s (s 0 9 + 2) (3 * a + b) := by
          unfold tv
          repeat rw [if_neg (by omega)]
          rw [if_pos (by omega)]
          congr 1
          omega
        refine ⟨s 58 (10 + 3 * a + b), ?_, ?_⟩
        · simp (disch := omega) only [grd_if, bnI_some, bnL_some, bnV_some, up_app, kds, kls, and_true, true_and, and_self, and_false, false_and, or_true, true_or, or_false, false_or, not_true_eq_false, not_false_eq_true, ite_true, ite_false, if_true, if_false, ↓reduceIte, Int.reduceLT, Int.reduceLE, Int.reduceEq, Int.reduceNe, Int.reduceAdd, Int.reduceSub, Int.reduceMul, Int.reduceNeg, ne_eq, Int.le_refl, Int.lt_irrefl, cmpL_lt0, cmpL_gt0, cmpL_eq0, cmpL_le0, cmpL_ge0, hR, ht, h9, c_hasC h, q1, q2, c_isKind, b01, c_comesTo h.tr q1.1 (by omega) q2.1 q2.2]
          rw [← e1, e2]
        · simp (disch := omega) only [grd_if, bnI_some, bnL_some, bnV_some, up_app, kds, kls, and_true, true_and, and_self, and_false, false_and, or_true, true_or, or_false, false_or, not_true_eq_false, not_false_eq_true, ite_true, ite_false, if_true, if_false, ↓reduceIte, Int.reduceLT, Int.reduceLE, Int.reduceEq, Int.reduceNe, Int.reduceAdd, Int.reduceSub, Int.reduceMul, Int.reduceNeg, ne_eq, Int.le_refl, Int.lt_irrefl, cmpL_lt0, cmpL_gt0, cmpL_eq0, cmpL_le0, cmpL_ge0, hR, c_isCorner h, q1, q2, c_isKind9, b01, w32_id]
          rw [if_pos (by omega)]
      · by_cases q4 : c = 1
        · subst q4
          have e1 := hT (19 + 3 * a + b) (by omega) (by omega)
          have e2 : tv s (s 0 9) (19 + 3 * a + b) = s (s 0 9 + 3) (3 * a + b) := by
            unfold tv
            repeat rw [if_neg (by omega)]
            congr 1
            omega
          refine ⟨s 58 (19 + 3 * a + b), ?_, ?_⟩
          · simp (disch := omega) only [grd_if, bnI_some, bnL_some, bnV_some, up_app, kds, kls, and_true, true_and, and_self, and_false, false_and, or_true, true_or, or_false, false_or, not_true_eq_false, not_false_eq_true, ite_true, ite_false, if_true, if_false, ↓reduceIte, Int.reduceLT, Int.reduceLE, Int.reduceEq, Int.reduceNe, Int.reduceAdd, Int.reduceSub, Int.reduceMul, Int.reduceNeg, ne_eq, Int.le_refl, Int.lt_irrefl, cmpL_lt0, cmpL_gt0, cmpL_eq0, cmpL_le0, cmpL_ge0, hR, ht, h9, c_hasC h, q1, q2, c_isKind, b01, c_tenthsAt h.tr q1.1 (by omega) q2.1 q2.2]
            rw [← e1, e2]
          · simp (disch := omega) only [grd_if, bnI_some, bnL_some, bnV_some, up_app, kds, kls, and_true, true_and, and_self, and_false, false_and, or_true, true_or, or_false, false_or, not_true_eq_false, not_false_eq_true, ite_true, ite_false, if_true, if_false, ↓reduceIte, Int.reduceLT, Int.reduceLE, Int.reduceEq, Int.reduceNe, Int.reduceAdd, Int.reduceSub, Int.reduceMul, Int.reduceNeg, ne_eq, Int.le_refl, Int.lt_irrefl, cmpL_lt0, cmpL_gt0, cmpL_eq0, cmpL_le0, cmpL_ge0, hR, c_isCorner h, q1, q2, c_isKind9, b01, w32_id]
            rw [if_pos (by omega)]
        · refine ⟨-2, ?_, ?_⟩
          · simp (disch := omega) only [grd_if, bnI_some, bnL_some, bnV_some, up_app, kds, kls, and_true, true_and, and_self, and_false, false_and, or_true, true_or, or_false, false_or, not_true_eq_false, not_false_eq_true, ite_true, ite_false, if_true, if_false, ↓reduceIte, Int.reduceLT, Int.reduceLE, Int.reduceEq, Int.reduceNe, Int.reduceAdd, Int.reduceSub, Int.reduceMul, Int.reduceNeg, ne_eq, Int.le_refl, Int.lt_irrefl, cmpL_lt0, cmpL_gt0, cmpL_eq0, cmpL_le0, cmpL_ge0, hR, ht, h9, c_hasC h, q1, q2, c_isKind, b01]
            repeat' split
            all_goals first | rfl | omega
          · simp (disch := omega) only [grd_if, bnI_some, bnL_some, bnV_some, up_app, kds, kls, and_true, true_and, and_self, and_false, false_and, or_true, true_or, or_false, false_or, not_true_eq_false, not_false_eq_true, ite_true, ite_false, if_true, if_false, ↓reduceIte, Int.reduceLT, Int.reduceLE, Int.reduceEq, Int.reduceNe, Int.reduceAdd, Int.reduceSub, Int.reduceMul, Int.reduceNeg, ne_eq, Int.le_refl, Int.lt_irrefl, cmpL_lt0, cmpL_gt0, cmpL_eq0, cmpL_le0, cmpL_ge0, hR, c_isCorner h, q1, q2, c_isKind9, b01, q3, q4]
    · refine ⟨-1, ?_, ?_⟩
      · simp (disch := omega) only [grd_if, bnI_some, bnL_some, bnV_some, up_app, kds, kls, and_true, true_and, and_self, and_false, false_and, or_true, true_or, or_false, false_or, not_true_eq_false, not_false_eq_true, ite_true, ite_false, if_true, if_false, ↓reduceIte, Int.reduceLT, Int.reduceLE, Int.reduceEq, Int.reduceNe, Int.reduceAdd, Int.reduceSub, Int.reduceMul, Int.reduceNeg, ne_eq, Int.le_refl, Int.lt_irrefl, cmpL_lt0, cmpL_gt0, cmpL_eq0, cmpL_le0, cmpL_ge0, hR, ht, h9, c_hasC h, q1, q2, c_isKind, b01]
      · simp (disch := omega) only [grd_if, bnI_some, bnL_some, bnV_some, up_app, kds, kls, and_true, true_and, and_self, and_false, false_and, or_true, true_or, or_false, false_or, not_true_eq_false, not_false_eq_true, ite_true, ite_false, if_true, if_false, ↓reduceIte, Int.reduceLT, Int.reduceLE, Int.reduceEq, Int.reduceNe, Int.reduceAdd, Int.reduceSub, Int.reduceMul, Int.reduceNeg, ne_eq, Int.le_refl, Int.lt_irrefl, cmpL_lt0, cmpL_gt0, cmpL_eq0, cmpL_le0, cmpL_ge0, hR, c_isCorner h, q1, q2, c_isKind9, b01]
  · refine ⟨-1, ?_, ?_⟩
    · simp (disch := omega) only [grd_if, bnI_some, bnL_some, bnV_some, up_app, kds, kls, and_true, true_and, and_self, and_false, false_and, or_true, true_or, or_false, false_or, not_true_eq_false, not_false_eq_true, ite_true, ite_false, if_true, if_false, ↓reduceIte, Int.reduceLT, Int.reduceLE, Int.reduceEq, Int.reduceNe, Int.reduceAdd, Int.reduceSub, Int.reduceMul, Int.reduceNeg, ne_eq, Int.le_refl, Int.lt_irrefl, cmpL_lt0, cmpL_gt0, cmpL_eq0, cmpL_le0, cmpL_ge0, hR, ht, h9, c_hasC h, q1, b01]
    · simp (disch := omega) only [grd_if, bnI_some, bnL_some, bnV_some, up_app, kds, kls, and_true, true_and, and_self, and_false, false_and, or_true, true_or, or_false, false_or, not_true_eq_false, not_false_eq_true, ite_true, ite_false, if_true, if_false, ↓reduceIte, Int.reduceLT, Int.reduceLE, Int.reduceEq, Int.reduceNe, Int.reduceAdd, Int.reduceSub, Int.reduceMul, Int.reduceNeg, ne_eq, Int.le_refl, Int.lt_irrefl, cmpL_lt0, cmpL_gt0, cmpL_eq0, cmpL_le0, cmpL_ge0, hR, c_isCorner h, q1, b01]

/-! leaves: methods that only read -/
theorem c_in (v a b : Int) (s : SG) : sem 152 0 [aL v, aU, aL a, aU, aL b, aU] [] s = some (aI (if a ≤ v ∧ v ≤ b then 1 else 0), s) := by
  rw [e152_0]
  (try simp (disch := omega) only [grd_if, bnI_some, bnL_some, bnV_some, up_app, kds, kls, and_true, true_and, and_self, and_false, false_and, or_true, true_or, or_false, false_or, not_true_eq_false, not_false_eq_true, ite_true, ite_false, if_true, if_false, ↓reduceIte, Int.reduceLT, Int.reduceLE, Int.reduceEq, Int.reduceNe, Int.reduceAdd, Int.reduceSub, Int.reduceMul, Int.reduceNeg, ne_eq, Int.le_refl, Int.lt_irrefl, cmpL_lt0, cmpL_gt0, cmpL_eq0, cmpL_le0, cmpL_ge0])
  repeat' split
  all_goals first | rfl | omega
theorem c_hasCorner (t c : Int) (s : SG) (hk : kd t = 6) : sem 82 0 [aA t, aI c] [] s = some (aI (if 0 ≤ c ∧ c < s t 4 ∧ c < 3 then 1 else 0), s) := by
  rw [e82_0]
  simp (disch := omega) only [grd_if, bnI_some, bnL_some, bnV_some, up_app, kds, kls, and_true, true_and, and_self, and_false, false_and, or_true, true_or, or_false, false_or, not_true_eq_false, not_false_eq_true, ite_true, ite_false, if_true, if_false, ↓reduceIte, Int.reduceLT, Int.reduceLE, Int.reduceEq, Int.reduceNe, Int.reduceAdd, Int.reduceSub, Int.reduceMul, Int.reduceNeg, ne_eq, Int.le_refl, Int.lt_irrefl, cmpL_lt0, cmpL_gt0, cmpL_eq0, cmpL_le0, cmpL_ge0, hk]
  repeat' split
  all_goals first | rfl | omega
theorem c_isKind (k : Int) (s : SG) : sem 140 0 [aI k] [] s = some (aI (if 0 ≤ k ∧ k < 3 then 1 else 0), s) := by
  rw [e140_0]
  (try simp (disch := omega) only [grd_if, bnI_some, bnL_some, bnV_some, up_app, kds, kls, and_true, true_and, and_self, and_false, false_and, or_true, true_or, or_false, false_or, not_true_eq_false, not_false_eq_true, ite_true, ite_false, if_true, if_false, ↓reduceIte, Int.reduceLT, Int.reduceLE, Int.reduceEq, Int.reduceNe, Int.reduceAdd, Int.reduceSub, Int.reduceMul, Int.reduceNeg, ne_eq, Int.le_refl, Int.lt_irrefl, cmpL_lt0, cmpL_gt0, cmpL_eq0, cmpL_le0, cmpL_ge0])
  repeat' split
  all_goals first | rfl | omega

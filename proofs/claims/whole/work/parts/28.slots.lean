/-! keep, again -/
theorem l_keep1 {a : Int} (ha : 0 ≤ a ∧ a < 2) : ∀ (n : Nat) (l : Int) (s : SG), l + n = 3 → 0 ≤ l → RefC s → ∃ s', sem 219 21 [aA 56, aI a, aI l] [] s = sem 219 21 [aA 56, aI a, aI 3] [] s' ∧ RefC s' ∧ (∀ c, l ≤ c → c < 3 → s' 80 (3 * a + c) = s 66 c ∧ s' 81 (3 * a + c) = s 67 c ∧ s' 82 (3 * a + c) = s 68 c) ∧ ∀ k i, ¬ (80 ≤ k ∧ k ≤ 82 ∧ 3 * a + l ≤ i ∧ i < 3 * a + 3) → s' k i = s k i := by
  intro n
  induction n with
  | zero =>
    intro l s hl h0 hR
    have : l = 3 := by omega
    subst this
    exact ⟨s, rfl, hR, fun c h1 h2 => by omega, fun _ _ _ => rfl⟩
  | succ n ih =>
    intro l s hl h0 hR
    rw [g219_21 hR]
    have w1 : w32 (w32 (3 * a) + l) = 3 * a + l := by rw [w32_id (a := 3 * a) (by omega) (by omega), w32_id (by omega) (by omega)]
    have w2 : w32 (l + 1) = l + 1 := w32_id (by omega) (by omega)
    rw [if_pos (by omega), grd_if, if_pos (by omega), grd_if, w1, if_pos (by omega), w2]
    obtain ⟨s', e1, e2, e3, e4⟩ := ih (l + 1) (up (up (up s 80 (3 * a + l) (s 66 l)) 81 (3 * a + l) (s 67 l)) 82 (3 * a + l) (s 68 l)) (by omega) (by omega) (RefC.upd (RefC.upd (RefC.upd hR (rcb_a (by decide))) (rcb_a (by decide))) (rcb_a (by decide)))
    refine ⟨s', e1, e2, fun c h1 h2 => ?_, fun k i hki => ?_⟩
    · by_cases e : c = l
      · subst e
        rw [e4 80 _ (by omega), e4 81 _ (by omega), e4 82 _ (by omega)]
        simp (disch := omega) only [grd_if, bnI_some, bnL_some, bnV_some, up_app, kds, kls, and_true, true_and, and_self, and_false, false_and, or_true, true_or, or_false, false_or, not_true_eq_false, not_false_eq_true, ite_true, ite_false, if_true, if_false, ↓reduceIte, Int.reduceLT, Int.reduceLE, Int.reduceEq, Int.reduceNe, Int.reduceAdd, Int.reduceSub, Int.reduceMul, Int.reduceNeg, ne_eq, Int.le_refl, Int.lt_irrefl, cmpL_lt0, cmpL_gt0, cmpL_eq0, cmpL_le0, cmpL_ge0]
      · have := e3 c (by omega) h2
        simp (disch := omega) only [grd_if, bnI_some, bnL_some, bnV_some, up_app, kds, kls, and_true, true_and, and_self, and_false, false_and, or_true, true_or, or_false, false_or, not_true_eq_false, not_false_eq_true, ite_true, ite_false, if_true, if_false, ↓reduceIte, Int.reduceLT, Int.reduceLE, Int.reduceEq, Int.reduceNe, Int.reduceAdd, Int.reduceSub, Int.reduceMul, Int.reduceNeg, ne_eq, Int.le_refl, Int.lt_irrefl, cmpL_lt0, cmpL_gt0, cmpL_eq0, cmpL_le0, cmpL_ge0] at this
        exact this
    · rw [e4 k i (by omega)]
      simp (disch := omega) only [grd_if, bnI_some, bnL_some, bnV_some, up_app, kds, kls, and_true, true_and, and_self, and_false, false_and, or_true, true_or, or_false, false_or, not_true_eq_false, not_false_eq_true, ite_true, ite_false, if_true, if_false, ↓reduceIte, Int.reduceLT, Int.reduceLE, Int.reduceEq, Int.reduceNe, Int.reduceAdd, Int.reduceSub, Int.reduceMul, Int.reduceNeg, ne_eq, Int.le_refl, Int.lt_irrefl, cmpL_lt0, cmpL_gt0, cmpL_eq0, cmpL_le0, cmpL_ge0]
      repeat rw [if_neg (by omega)]
theorem l_keep2 {a : Int} (ha : 0 ≤ a ∧ a < 2) : ∀ (n : Nat) (l : Int) (s : SG), l + n = 6 → 0 ≤ l → RefC s → ∃ s', sem 219 150 [aA 56, aI a, aI l] [] s = sem 219 150 [aA 56, aI a, aI 6] [] s' ∧ RefC s' ∧ (∀ c, l ≤ c → c < 6 → s' 84 (18 * a + 3 * c) = s 69 c ∧ s' 84 (18 * a + 3 * c + 1) = s 70 c ∧ s' 84 (18 * a + 3 * c + 2) = s 71 c) ∧ ∀ k i, ¬ (k = 84 ∧ 18 * a + 3 * l ≤ i ∧ i < 18 * a + 18) → s' k i = s k i := by
  intro n
  induction n with
  | zero =>
    intro l s hl h0 hR
    have : l = 6 := by omega
    subst this
    exact ⟨s, rfl, hR, fun c h1 h2 => by omega, fun _ _ _ => rfl⟩
  | succ n ih =>
    intro l s hl h0 hR
    rw [g219_150 hR]
    have w1 : w32 (w32 (18 * a) + w32 (3 * l)) = 18 * a + 3 * l := by rw [w32_id (a := 18 * a) (by omega) (by omega), w32_id (a := 3 * l) (by omega) (by omega), w32_id (by omega) (by omega)]
    have w2 : w32 (l + 1) = l + 1 := w32_id (by omega) (by omega)
    have w3 : w32 (18 * a + 3 * l + 1) = 18 * a + 3 * l + 1 := w32_id (by omega) (by omega)
    have w4 : w32 (18 * a + 3 * l + 2) = 18 * a + 3 * l + 2 := w32_id (by omega) (by omega)
    rw [if_pos (by omega), grd_if, if_pos (by omega), w1, grd_if, if_pos (by omega), w3, grd_if, if_pos (by omega), w4, grd_if, if_pos (by omega), w2]
    obtain ⟨s', e1, e2, e3, e4⟩ := ih (l + 1) (up (up (up s 84 (18 * a + 3 * l) (s 69 l)) 84 (18 * a + 3 * l + 1) (s 70 l)) 84 (18 * a + 3 * l + 2) (s 71 l)) (by omega) (by omega) (RefC.upd (RefC.upd (RefC.upd hR (rcb_a (by decide))) (rcb_a (by decide))) (rcb_a (by decide)))
    refine ⟨s', e1, e2, fun c h1 h2 => ?_, fun k i hki => ?_⟩
    · by_cases e : c = l
      · subst e
        rw [e4 84 _ (by omega), e4 84 _ (by omega), e4 84 _ (by omega)]
        simp (disch := omega) only [grd_if, bnI_some, bnL_some, bnV_some, up_app, kds, kls, and_true, true_and, and_self, and_false, false_and, or_true, true_or, or_false, false_or, not_true_eq_false, not_false_eq_true, ite_true, ite_false, if_true, if_false, ↓reduceIte, Int.reduceLT, Int.reduceLE, Int.reduceEq, Int.reduceNe, Int.reduceAdd, Int.reduceSub, Int.reduceMul, Int.reduceNeg, ne_eq, Int.le_refl, Int.lt_irrefl, cmpL_lt0, cmpL_gt0, cmpL_eq0, cmpL_le0, cmpL_ge0]
        repeat rw [if_neg (by omega)]
        exact ⟨rfl, rfl⟩
      · have := e3 c (by omega) h2
        simp (disch := omega) only [grd_if, bnI_some, bnL_some, bnV_some, up_app, kds, kls, and_true, true_and, and_self, and_false, false_and, or_true, true_or, or_false, false_or, not_true_eq_false, not_false_eq_true, ite_true, ite_false, if_true, if_false, ↓reduceIte, Int.reduceLT, Int.reduceLE, Int.reduceEq, Int.reduceNe, Int.reduceAdd, Int.reduceSub, Int.reduceMul, Int.reduceNeg, ne_eq, Int.le_refl, Int.lt_irrefl, cmpL_lt0, cmpL_gt0, cmpL_eq0, cmpL_le0, cmpL_ge0] at this
        exact this
    · rw [e4 k i (by omega)]
      simp (disch := omega) only [grd_if, bnI_some, bnL_some, bnV_some, up_app, kds, kls, and_true, true_and, and_self, and_false, false_and, or_true, true_or, or_false, false_or, not_true_eq_false, not_false_eq_true, ite_true, ite_false, if_true, if_false, ↓reduceIte, Int.reduceLT, Int.reduceLE, Int.reduceEq, Int.reduceNe, Int.reduceAdd, Int.reduceSub, Int.reduceMul, Int.reduceNeg, ne_eq, Int.le_refl, Int.lt_irrefl, cmpL_lt0, cmpL_gt0, cmpL_eq0, cmpL_le0, cmpL_ge0]
      repeat rw [if_neg (by omega)]
theorem l_again1 {a : Int} (ha : 0 ≤ a ∧ a < 2) : ∀ (n : Nat) (l : Int) (s : SG), l + n = 3 → 0 ≤ l → RefC s → ∃ s', sem 220 26 [aA 56, aI a, aI l] [] s = sem 220 26 [aA 56, aI a, aI 3] [] s' ∧ RefC s' ∧ (∀ c, l ≤ c → c < 3 → s' 66 c = s 80 (3 * a + c) ∧ s' 67 c = s 81 (3 * a + c) ∧ s' 68 c = s 82 (3 * a + c)) ∧ ∀ k i, ¬ (66 ≤ k ∧ k ≤ 68 ∧ l ≤ i ∧ i < 3) → s' k i = s k i := by
  intro n
  induction n with
  | zero =>
    intro l s hl h0 hR
    have : l = 3 := by omega
    subst this
    exact ⟨s, rfl, hR, fun c h1 h2 => by omega, fun _ _ _ => rfl⟩
  | succ n ih =>
    intro l s hl h0 hR
    rw [g220_26 hR]
    have w1 : w32 (w32 (3 * a) + l) = 3 * a + l := by rw [w32_id (a := 3 * a) (by omega) (by omega), w32_id (by omega) (by omega)]
    have w2 : w32 (l + 1) = l + 1 := w32_id (by omega) (by omega)
    rw [if_pos (by omega), w1, grd_if, if_pos (by omega), grd_if, if_pos (by omega), w2]
    obtain ⟨s', e1, e2, e3, e4⟩ := ih (l + 1) (up (up (up s 66 l (s 80 (3 * a + l))) 67 l (s 81 (3 * a + l))) 68 l (s 82 (3 * a + l))) (by omega) (by omega) (RefC.upd (RefC.upd (RefC.upd hR (rcb_a (by decide))) (rcb_a (by decide))) (rcb_a (by decide)))
    refine ⟨s', e1, e2, fun c h1 h2 => ?_, fun k i hki => ?_⟩
    · by_cases e : c = l
      · subst e
        rw [e4 66 _ (by omega), e4 67 _ (by omega), e4 68 _ (by omega)]
        simp (disch := omega) only [grd_if, bnI_some, bnL_some, bnV_some, up_app, kds, kls, and_true, true_and, and_self, and_false, false_and, or_true, true_or, or_false, false_or, not_true_eq_false, not_false_eq_true, ite_true, ite_false, if_true, if_false, ↓reduceIte, Int.reduceLT, Int.reduceLE, Int.reduceEq, Int.reduceNe, Int.reduceAdd, Int.reduceSub, Int.reduceMul, Int.reduceNeg, ne_eq, Int.le_refl, Int.lt_irrefl, cmpL_lt0, cmpL_gt0, cmpL_eq0, cmpL_le0, cmpL_ge0]
      · have := e3 c (by omega) h2
        simp (disch := omega) only [grd_if, bnI_some, bnL_some, bnV_some, up_app, kds, kls, and_true, true_and, and_self, and_false, false_and, or_true, true_or, or_false, false_or, not_true_eq_false, not_false_eq_true, ite_true, ite_false, if_true, if_false, ↓reduceIte, Int.reduceLT, Int.reduceLE, Int.reduceEq, Int.reduceNe, Int.reduceAdd, Int.reduceSub, Int.reduceMul, Int.reduceNeg, ne_eq, Int.le_refl, Int.lt_irrefl, cmpL_lt0, cmpL_gt0, cmpL_eq0, cmpL_le0, cmpL_ge0] at this
        exact this
    · rw [e4 k i (by omega)]
      simp (disch := omega) only [grd_if, bnI_some, bnL_some, bnV_some, up_app, kds, kls, and_true, true_and, and_self, and_false, false_and, or_true, true_or, or_false, false_or, not_true_eq_false, not_false_eq_true, ite_true, ite_false, if_true, if_false, ↓reduceIte, Int.reduceLT, Int.reduceLE, Int.reduceEq, Int.reduceNe, Int.reduceAdd, Int.reduceSub, Int.reduceMul, Int.reduceNeg, ne_eq, Int.le_refl, Int.lt_irrefl, cmpL_lt0, cmpL_gt0, cmpL_eq0, cmpL_le0, cmpL_ge0]
      repeat rw [if_neg (by omega)]
theorem l_again2 {a : Int} (ha : 0 ≤ a ∧ a < 2) : ∀ (n : Nat) (l : Int) (s : SG), l + n = 6 → 0 ≤ l → RefC s → ∃ s', sem 220 155 [aA 56, aI a, aI l] [] s = sem 220 155 [aA 56, aI a, aI 6] [] s' ∧ RefC s' ∧ (∀ c, l ≤ c → c < 6 → s' 69 c = s 84 (18 * a + 3 * c) ∧ s' 70 c = s 84 (18 * a + 3 * c + 1) ∧ s' 71 c = s 84 (18 * a + 3 * c + 2)) ∧ ∀ k i, ¬ (69 ≤ k ∧ k ≤ 71 ∧ l ≤ i ∧ i < 6) → s' k i = s k i := by
  intro n
  induction n with
  | zero =>
    intro l s hl h0 hR
    have : l = 6 := by omega
    subst this
    exact ⟨s, rfl, hR, fun c h1 h2 => by omega, fun _ _ _ => rfl⟩
  | succ n ih =>
    intro l s hl h0 hR
    rw [g220_155 hR]
    have w1 : w32 (w32 (18 * a) + w32 (3 * l)) = 18 * a + 3 * l := by rw [w32_id (a := 18 * a) (by omega) (by omega), w32_id (a := 3 * l) (by omega) (by omega), w32_id (by omega) (by omega)]
    have w2 : w32 (l + 1) = l + 1 := w32_id (by omega) (by omega)
    have w3 : w32 (18 * a + 3 * l + 1) = 18 * a + 3 * l + 1 := w32_id (by omega) (by omega)
    have w4 : w32 (18 * a + 3 * l + 2) = 18 * a + 3 * l + 2 := w32_id (by omega) (by omega)
    rw [if_pos (by omega), w1, grd_if, if_pos (by omega), grd_if, if_pos (by omega), w3, grd_if, if_pos (by omega), w4, grd_if, if_pos (by omega), w2]
    obtain ⟨s', e1, e2, e3, e4⟩ := ih (l + 1) (up (up (up s 69 l (s 84 (18 * a + 3 * l))) 70 l (s 84 (18 * a + 3 * l + 1))) 71 l (s 84 (18 * a + 3 * l + 2))) (by omega) (by omega) (RefC.upd (RefC.upd (RefC.upd hR (rcb_a (by decide))) (rcb_a (by decide))) (rcb_a (by decide)))
    refine ⟨s', e1, e2, fun c h1 h2 => ?_, fun k i hki => ?_⟩
    · by_cases e : c = l
      · subst e
        rw [e4 69 _ (by omega), e4 70 _ (by omega), e4 71 _ (by omega)]
        simp (disch := omega) only [grd_if, bnI_some, bnL_some, bnV_some, up_app, kds, kls, and_true, true_and, and_self, and_false, false_and, or_true, true_or, or_false, false_or, not_true_eq_false, not_false_eq_true, ite_true, ite_false, if_true, if_false, ↓reduceIte, Int.reduceLT, Int.reduceLE, Int.reduceEq, Int.reduceNe, Int.reduceAdd, Int.reduceSub, Int.reduceMul, Int.reduceNeg, ne_eq, Int.le_refl, Int.lt_irrefl, cmpL_lt0, cmpL_gt0, cmpL_eq0, cmpL_le0, cmpL_ge0]
      · have := e3 c (by omega) h2
        simp (disch := omega) only [grd_if, bnI_some, bnL_some, bnV_some, up_app, kds, kls, and_true, true_and, and_self, and_false, false_and, or_true, true_or, or_false, false_or, not_true_eq_false, not_false_eq_true, ite_true, ite_false, if_true, if_false, ↓reduceIte, Int.reduceLT, Int.reduceLE, Int.reduceEq, Int.reduceNe, Int.reduceAdd, Int.reduceSub, Int.reduceMul, Int.reduceNeg, ne_eq, Int.le_refl, Int.lt_irrefl, cmpL_lt0, cmpL_gt0, cmpL_eq0, cmpL_le0, cmpL_ge0] at this
        exact this
    · rw [e4 k i (by omega)]
      simp (disch := omega) only [grd_if, bnI_some, bnL_some, bnV_some, up_app, kds, kls, and_true, true_and, and_self, and_false, false_and, or_true, true_or, or_false, false_or, not_true_eq_false, not_false_eq_true, ite_true, ite_false, if_true, if_false, ↓reduceIte, Int.reduceLT, Int.reduceLE, Int.reduceEq, Int.reduceNe, Int.reduceAdd, Int.reduceSub, Int.reduceMul, Int.reduceNeg, ne_eq, Int.le_refl, Int.lt_irrefl, cmpL_lt0, cmpL_gt0, cmpL_eq0, cmpL_le0, cmpL_ge0]
      repeat rw [if_neg (by omega)]
/-- what copyFrom leaves, row by row -/
theorem c_copy {k : Int} (hk : k = 16 ∨ k = 42 ∨ k = 49) {k2 : Int} (hk2 : k2 = 16 ∨ k2 = 42 ∨ k2 = 49) (hne : k ≠ k2) {s : SG} (hR : RefC s) : ∃ s', sem 19 0 [aA k, aA k2] [] s = some (aU, s') ∧ RefC s' ∧ (s' k 6 = s k2 6 ∧ s' k 7 = s k2 7 ∧ s' k 8 = s k2 8 ∧ s' k 9 = s k2 9 ∧ s' k 10 = s k2 10) ∧ (∀ c, 0 ≤ c → c < 3 → s' (k + 1) c = s (k2 + 1) c ∧ s' (k + 2) c = s (k2 + 2) c ∧ s' (k + 3) c = s (k2 + 3) c) ∧ (∀ c, 0 ≤ c → c < 6 → s' (k + 4) c = s (k2 + 4) c ∧ s' (k + 5) c = s (k2 + 5) c ∧ s' (k + 6) c = s (k2 + 6) c) ∧ ∀ q i, ¬ (q = k ∧ 6 ≤ i) → ¬ (k < q ∧ q ≤ k + 6) → s' q i = s q i := by
  have e := g19_0 hk hk2 hR
  refine ⟨_, e, RefC.sem e rfl hR, ?_, fun c h1 h2 => ?_, fun c h1 h2 => ?_, fun q i h1 h2 => ?_⟩
  · clear e
    rcases hk with rfl | rfl | rfl <;> rcases hk2 with rfl | rfl | rfl <;> first
      | exact absurd rfl hne
      | simp (disch := omega) only [grd_if, bnI_some, bnL_some, bnV_some, up_app, kds, kls, and_true, true_and, and_self, and_false, false_and, or_true, true_or, or_false, false_or, not_true_eq_false, not_false_eq_true, ite_true, ite_false, if_true, if_false, ↓reduceIte, Int.reduceLT, Int.reduceLE, Int.reduceEq, Int.reduceNe, Int.reduceAdd, Int.reduceSub, Int.reduceMul, Int.reduceNeg, ne_eq, Int.le_refl, Int.lt_irrefl, cmpL_lt0, cmpL_gt0, cmpL_eq0, cmpL_le0, cmpL_ge0, cpy]
  · clear e
    rcases hk with rfl | rfl | rfl <;> rcases hk2 with rfl | rfl | rfl <;> first
      | exact absurd rfl hne
      | simp (disch := omega) only [grd_if, bnI_some, bnL_some, bnV_some, up_app, kds, kls, and_true, true_and, and_self, and_false, false_and, or_true, true_or, or_false, false_or, not_true_eq_false, not_false_eq_true, ite_true, ite_false, if_true, if_false, ↓reduceIte, Int.reduceLT, Int.reduceLE, Int.reduceEq, Int.reduceNe, Int.reduceAdd, Int.reduceSub, Int.reduceMul, Int.reduceNeg, ne_eq, Int.le_refl, Int.lt_irrefl, cmpL_lt0, cmpL_gt0, cmpL_eq0, cmpL_le0, cmpL_ge0, cpy, h1, h2, Int.sub_zero, Int.zero_add]
  · clear e
    rcases hk with rfl | rfl | rfl <;> rcases hk2 with rfl | rfl | rfl <;> first
      | exact absurd rfl hne
      | simp (disch := omega) only [grd_if, bnI_some, bnL_some, bnV_some, up_app, kds, kls, and_true, true_and, and_self, and_false, false_and, or_true, true_or, or_false, false_or, not_true_eq_false, not_false_eq_true, ite_true, ite_false, if_true, if_false, ↓reduceIte, Int.reduceLT, Int.reduceLE, Int.reduceEq, Int.reduceNe, Int.reduceAdd, Int.reduceSub, Int.reduceMul, Int.reduceNeg, ne_eq, Int.le_refl, Int.lt_irrefl, cmpL_lt0, cmpL_gt0, cmpL_eq0, cmpL_le0, cmpL_ge0, cpy, h1, h2, Int.sub_zero, Int.zero_add]
  · clear e
    simp only [up_app, cpy]
    repeat rw [if_neg (by omega)]
theorem c_allGiven {s : SG} (hR : RefC s) : sem 209 0 [aA 56] [] s = some (aI (w32 (w32 (s 66 0 + s 66 1) + s 66 2)), s) := g209_0 hR
def gsum (s : SG) (k : Int) : Int := w32 (w32 (s k 0 + s k 1) + s k 2)
theorem k_keep {s : SG} (hR : RefC s) {a k : Int} (hak : (a = 0 ∧ k = 42) ∨ (a = 1 ∧ k = 49)) : ∃ s1, sem 136 0 [aA 0, aI a] [] s = some (aI (gsum s 17), s1) ∧ RefC s1 ∧ s1 31 a = 1 ∧ (s1 k 6 = s 16 6 ∧ s1 k 7 = s 16 7 ∧ s1 k 8 = s 16 8 ∧ s1 k 9 = s 16 9 ∧ s1 k 10 = s 16 10) ∧ (∀ c, 0 ≤ c → c < 3 → s1 (k + 1) c = s 17 c ∧ s1 (k + 2) c = s 18 c ∧ s1 (k + 3) c = s 19 c) ∧ (∀ c, 0 ≤ c → c < 6 → s1 (k + 4) c = s 20 c ∧ s1 (k + 5) c = s 21 c ∧ s1 (k + 6) c = s 22 c) ∧ ∀ q i, ¬ (q = 31 ∧ i = a) → ¬ (q = k ∧ 6 ≤ i) → ¬ (k < q ∧ q ≤ k + 6) → s1 q i = s q i := by
  obtain ⟨s3, e0, hR3, e1, e2, e3, e4⟩ := c_copy (k := k) (by omega) (k2 := 16) (by omega) (by omega) hR
  have hR4 : RefC (up s3 31 a 1) := RefC.upd hR3 (rcb_a (by decide))
  have eg := c_givenOut (k := 16) (Or.inl rfl) hR4
  have eg2 : w32 (w32 (up s3 31 a 1 (16 + 1) 0 + up s3 31 a 1 (16 + 1) 1) + up s3 31 a 1 (16 + 1) 2) = gsum s 17 := by
    simp (disch := omega) only [grd_if, bnI_some, bnL_some, bnV_some, up_app, kds, kls, and_true, true_and, and_self, and_false, false_and, or_true, true_or, or_false, false_or, not_true_eq_false, not_false_eq_true, ite_true, ite_false, if_true, if_false, ↓reduceIte, Int.reduceLT, Int.reduceLE, Int.reduceEq, Int.reduceNe, Int.reduceAdd, Int.reduceSub, Int.reduceMul, Int.reduceNeg, ne_eq, Int.le_refl, Int.lt_irrefl, cmpL_lt0, cmpL_gt0, cmpL_eq0, cmpL_le0, cmpL_ge0]
    rw [e4 17 0 (by omega) (by omega), e4 17 1 (by omega) (by omega), e4 17 2 (by omega) (by omega)]
    rfl
  rw [eg2] at eg
  refine ⟨up s3 31 a 1, ?_, hR4, up_at _ _ _ _, ?_, ?_, ?_, ?_⟩
  · have r7 : s 0 7 = 30 := hR.2.2.2.2.2.2.2.1
    have r5 : s 0 5 = 16 := hR.2.2.2.2.2.1
    have r8 : s3 0 8 = 31 := hR3.2.2.2.2.2.2.2.2.1
    have r5' : up s3 31 a 1 0 5 = 16 := hR4.2.2.2.2.2.1
    have rk : s 30 a = k := by
      unfold RefC at hR
      rcases hak with ⟨rfl, rfl⟩ | ⟨rfl, rfl⟩ <;> simp only [hR]
    have kk : kd k = 1 := (kd_k (by omega)).1
    have d31 : kl 31 = 2 := rfl
    have d30 : kl 30 = 2 := rfl
    rw [e136_0, c_isSlot, bnI_some, if_pos (show 0 ≤ a ∧ a < 2 by omega), if_neg (by decide), g_t (by decide), r7, rk, r5]
    rw [g_t (by decide), g_t (by decide), g_t (by omega), g_t (by omega), g_t (by decide), g_t (by decide), g_t kk, e0, bnV_some]
    rw [r8, r5', g_t (by decide), g_t (by decide), g_t (by decide), g_t (by omega), g_t (by decide), g_t (by decide), g_t (by decide), g_t (by decide), eg]
    rfl
  · repeat rw [up_ne (by omega)]
    exact e1
  · intro c h1 h2
    repeat rw [up_ne (by omega)]
    exact e2 c h1 h2
  · intro c h1 h2
    repeat rw [up_ne (by omega)]
    exact e3 c h1 h2
  · intro q i h1 h2 h3
    unfold up
    rw [if_neg h1]
    exact e4 q i h2 h3
theorem k_keep9 {s : SG} (hR : RefC s) {a : Int} (ha : 0 ≤ a ∧ a < 2) : ∃ s2, sem 219 0 [aA 56, aI a, aU] [] s = some (aI (gsum s 66), s2) ∧ s2 79 a = 1 ∧ (s2 83 (5 * a) = s 56 15 ∧ s2 83 (5 * a + 1) = s 56 19 ∧ s2 83 (5 * a + 2) = s 56 20 ∧ s2 83 (5 * a + 3) = s 56 21 ∧ s2 83 (5 * a + 4) = s 56 22) ∧ (∀ c, 0 ≤ c → c < 3 → s2 80 (3 * a + c) = s 66 c ∧ s2 81 (3 * a + c) = s 67 c ∧ s2 82 (3 * a + c) = s 68 c) ∧ (∀ c, 0 ≤ c → c < 6 → s2 84 (18 * a + 3 * c) = s 69 c ∧ s2 84 (18 * a + 3 * c + 1) = s 70 c ∧ s2 84 (18 * a + 3 * c + 2) = s 71 c) ∧ ∀ q i, ¬ (q = 79 ∧ i = a) → ¬ (80 ≤ q ∧ q ≤ 82 ∧ 3 * a ≤ i ∧ i < 3 * a + 3) → ¬ (q = 83 ∧ 5 * a ≤ i ∧ i < 5 * a + 5) → ¬ (q = 84 ∧ 18 * a ≤ i ∧ i < 18 * a + 18) → s2 q i = s q i := by
  have hR1 : RefC (up s 79 a 1) := RefC.upd hR (rcb_a (by decide))
  obtain ⟨sA, a1, hRA, a2, a3⟩ := l_keep1 ha 3 0 _ (by decide) (by decide) hR1
  obtain ⟨sA', hA'⟩ : ∃ z, z = up (up (up (up (up sA 83 (5 * a) (sA 56 15)) 83 (5 * a + 1) (sA 56 19)) 83 (5 * a + 2) (sA 56 20)) 83 (5 * a + 3) (sA 56 21)) 83 (5 * a + 4) (sA 56 22) := ⟨_, rfl⟩
  have hRA' : RefC sA' := by
    rw [hA']
    exact RefC.upd (RefC.upd (RefC.upd (RefC.upd (RefC.upd hRA (rcb_a (by decide))) (rcb_a (by decide))) (rcb_a (by decide))) (rcb_a (by decide))) (rcb_a (by decide))
  obtain ⟨sB, b1, hRB, b2, b3⟩ := l_keep2 ha 6 0 _ (by decide) (by decide) hRA'
  have w0 : w32 (5 * a) = 5 * a := w32_id (by omega) (by omega)
  have w1 : w32 (5 * a + 1) = 5 * a + 1 := w32_id (by omega) (by omega)
  have w2 : w32 (5 * a + 2) = 5 * a + 2 := w32_id (by omega) (by omega)
  have w3 : w32 (5 * a + 3) = 5 * a + 3 := w32_id (by omega) (by omega)
  have w4 : w32 (5 * a + 4) = 5 * a + 4 := w32_id (by omega) (by omega)
  have f1 : ∀ q i : Int, q ≠ 79 → q ≠ 80 → q ≠ 81 → q ≠ 82 → sA q i = s q i := fun q i h1 h2 h3 h4 => by
    rw [a3 q i (by omega), up_ne h1]
  have f2 : ∀ q i : Int, q ≠ 83 → sA' q i = sA q i := fun q i h1 => by
    rw [hA']
    repeat rw [up_ne h1]
  have f3 : ∀ q i : Int, q ≠ 84 → sB q i = sA' q i := fun q i h1 => b3 q i (by omega)
  have fg : ∀ q i : Int, q ≠ 79 → q ≠ 80 → q ≠ 81 → q ≠ 82 → q ≠ 83 → q ≠ 84 → sB q i = s q i := fun q i h1 h2 h3 h4 h5 h6 => by
    rw [f3 q i h6, f2 q i h5, f1 q i h1 h2 h3 h4]
  refine ⟨sB, ?_, ?_, ?_, ?_, ?_, ?_⟩
  · rw [g219_0 hR]
    have ha2 : 0 ≤ a ∧ a ≤ 1 := by omega
    simp (disch := omega) only [grd_if, bnI_some, bnL_some, bnV_some, up_app, kds, kls, and_true, true_and, and_self, and_false, false_and, or_true, true_or, or_false, false_or, not_true_eq_false, not_false_eq_true, ite_true, ite_false, if_true, if_false, ↓reduceIte, Int.reduceLT, Int.reduceLE, Int.reduceEq, Int.reduceNe, Int.reduceAdd, Int.reduceSub, Int.reduceMul, Int.reduceNeg, ne_eq, Int.le_refl, Int.lt_irrefl, cmpL_lt0, cmpL_gt0, cmpL_eq0, cmpL_le0, cmpL_ge0, c_in, ha2, ha]
    rw [a1, g219_21 hRA]
    rw [if_neg (by decide), w0, w1, w2, w3, w4]
    repeat rw [grd_if, if_pos (by omega)]
    rw [← hA', b1, g219_150 hRB, if_neg (by decide), c_allGiven hRB]
    rw [bnI_some]
    unfold gsum
    rw [fg 66 0 (by decide) (by decide) (by decide) (by decide) (by decide) (by decide), fg 66 1 (by decide) (by decide) (by decide) (by decide) (by decide) (by decide), fg 66 2 (by decide) (by decide) (by decide) (by decide) (by decide) (by decide)]
  · rw [f3 79 a (by decide), f2 79 a (by decide), a3 79 a (by omega), up_at]
  · rw [f3 83 _ (by decide), f3 83 _ (by decide), f3 83 _ (by decide), f3 83 _ (by decide), f3 83 _ (by decide), hA']
    simp (disch := omega) only [grd_if, bnI_some, bnL_some, bnV_some, up_app, kds, kls, and_true, true_and, and_self, and_false, false_and, or_true, true_or, or_false, false_or, not_true_eq_false, not_false_eq_true, ite_true, ite_false, if_true, if_false, ↓reduceIte, Int.reduceLT, Int.reduceLE, Int.reduceEq, Int.reduceNe, Int.reduceAdd, Int.reduceSub, Int.reduceMul, Int.reduceNeg, ne_eq, Int.le_refl, Int.lt_irrefl, cmpL_lt0, cmpL_gt0, cmpL_eq0, cmpL_le0, cmpL_ge0]
    have n1 : ∀ x y : Int, x ≠ y → ¬ (5 * a + x = 5 * a + y) := fun x y h => by omega
    refine ⟨?_, ?_, ?_, ?_, ?_⟩
    · repeat rw [if_neg (by omega)]
      exact f1 56 15 (by decide) (by decide) (by decide) (by decide)
    · repeat rw [if_neg (by omega)]
      exact f1 56 19 (by decide) (by decide) (by decide) (by decide)
    · repeat rw [if_neg (by omega)]
      exact f1 56 20 (by decide) (by decide) (by decide) (by decide)
    · repeat rw [if_neg (by omega)]
      exact f1 56 21 (by decide) (by decide) (by decide) (by decide)
    · exact f1 56 22 (by decide) (by decide) (by decide) (by decide)
  · intro c h1 h2
    have := a2 c h1 h2
    rw [f3 80 _ (by decide), f3 81 _ (by decide), f3 82 _ (by decide), f2 80 _ (by decide), f2 81 _ (by decide), f2 82 _ (by decide)]
    rw [up_ne (by decide), up_ne (by decide), up_ne (by decide)] at this
    exact this
  · intro c h1 h2
    have := b2 c h1 h2
    rw [f2 69 _ (by decide), f2 70 _ (by decide), f2 71 _ (by decide), f1 69 _ (by decide) (by decide) (by decide) (by decide), f1 70 _ (by decide) (by decide) (by decide) (by decide), f1 71 _ (by decide) (by decide) (by decide) (by decide)] at this
    exact this
  · intro q i h1 h2 h3 h4
    rw [b3 q i (by omega)]
    have e5 : sA' q i = sA q i := by
      rw [hA']
      unfold up
      repeat rw [if_neg (by omega)]
    rw [e5, a3 q i (by omega)]
    unfold up
    rw [if_neg h1]
set_option maxHeartbeats 4000000 in
theorem q_keep {s : SG} (h : Inv s) (a : Int) : ∃ r s1 s2, sem 136 0 [aA 0, aI a] [] s = some (aI r, s1) ∧ sem 219 0 [aA 56, aI a, aU] [] s1 = some (aI r, s2) ∧ Inv s2 := by
  have hR := h.1
  have hX := h.2.2.2.2.2.1
  by_cases q : 0 ≤ a ∧ a < 2
  · obtain ⟨k, hak⟩ : ∃ k : Int, (a = 0 ∧ k = 42) ∨ (a = 1 ∧ k = 49) := by
      by_cases z : a = 0
      · exact ⟨42, Or.inl ⟨z, rfl⟩⟩
      · exact ⟨49, Or.inr ⟨by omega, rfl⟩⟩
    obtain ⟨s1, e0, hR1, e1, e2, e3, e4, e5⟩ := k_keep (a := a) (k := k) hR hak
    obtain ⟨s2, d0, d1, d2, d3, d4, d5⟩ := k_keep9 hR1 q
    have g0 := (hX.2.1 0 (by decide) (by decide)).1
    have g1 := (hX.2.1 1 (by decide) (by decide)).1
    have g2 := (hX.2.1 2 (by decide) (by decide)).1
    have eg : gsum s1 66 = gsum s 17 := by
      unfold gsum
      rw [e5 66 0 (by omega) (by omega) (by omega), e5 66 1 (by omega) (by omega) (by omega), e5 66 2 (by omega) (by omega) (by omega), g0, g1, g2]
    have fr : ∀ q i : Int, ¬ (q = 31 ∧ i = a) → ¬ (q = k ∧ 6 ≤ i) → ¬ (k < q ∧ q ≤ k + 6) → ¬ (q = 79 ∧ i = a) → ¬ (80 ≤ q ∧ q ≤ 82 ∧ 3 * a ≤ i ∧ i < 3 * a + 3) → ¬ (q = 83 ∧ 5 * a ≤ i ∧ i < 5 * a + 5) → ¬ (q = 84 ∧ 18 * a ≤ i ∧ i < 18 * a + 18) → s2 q i = s q i := fun q i h1 h2 h3 h4 h5 h6 h7 => by
      rw [d5 q i h4 h5 h6 h7, e5 q i h1 h2 h3]
    refine ⟨gsum s 17, s1, s2, e0, by rw [d0, eg], ?_⟩
    have f56 : ∀ i, s1 56 i = s 56 i := fun i => e5 56 i (by omega) (by omega) (by omega)
    have fx : ∀ q i : Int, 66 ≤ q → q ≤ 71 → s1 q i = s q i := fun q i h1 h2 => e5 q i (by omega) (by omega) (by omega)
    have own : SlotI s2 a k := by
      unfold MornI at hX
      obtain ⟨x1, x2, x3, x4, x5, x6⟩ := hX
      have c58 : s2 58 0 = s 58 0 := fr 58 0 (by omega) (by omega) (by omega) (by omega) (by omega) (by omega) (by omega)
      have ck : ∀ p i : Int, (p = k ∧ 6 ≤ i) ∨ (k < p ∧ p ≤ k + 6) → s2 p i = s1 p i := fun p i hp => d5 p i (by omega) (by omega) (by omega) (by omega)
      refine ⟨?_, Or.inr d1, fun _ => ⟨?_, ?_, ?_, ?_, ?_, ?_⟩⟩
      · rw [d1, d5 31 a (by omega) (by omega) (by omega) (by omega), e1]
      · rw [ck k 6 (by omega), d2.1, e2.1, f56]; exact x1
      · intro c c0 c1
        have y := x2 c c0 c1
        have z := d3 c c0 c1
        have w := e3 c c0 c1
        rw [ck (k + 1) c (by omega), ck (k + 2) c (by omega), ck (k + 3) c (by omega), z.1, z.2.1, z.2.2, w.1, w.2.1, w.2.2, fx 66 c (by decide) (by decide), fx 67 c (by decide) (by decide), fx 68 c (by decide) (by decide), c58]
        exact y
      · rw [ck k 7 (by omega), d2.2.1, e2.2.1, f56]; exact x3
      · rw [ck k 8 (by omega), ck k 9 (by omega), d2.2.2.1, d2.2.2.2.1, e2.2.2.1, e2.2.2.2.1, f56, f56]; exact x4
      · rw [ck k 10 (by omega), d2.2.2.2.2, e2.2.2.2.2, f56]; exact x5
      · intro i i0 i1
        have y := x6 i i0 i1
        have z := d4 i i0 i1
        have w := e4 i i0 i1
        rw [ck (k + 4) i (by omega), ck (k + 5) i (by omega), ck (k + 6) i (by omega), z.1, z.2.1, z.2.2, w.1, w.2.1, w.2.2, fx 69 i (by decide) (by decide), fx 70 i (by decide) (by decide), fx 71 i (by decide) (by decide), c58, d2.2.2.2.2, f56]
        exact y
    have oth : ∀ b kb : Int, ((b = 0 ∧ kb = 42) ∨ (b = 1 ∧ kb = 49)) → b ≠ a → SlotI s b kb → SlotI s2 b kb := by
      intro b kb hb hne hS
      unfold SlotI at hS ⊢
      rw [fr 31 b (by omega) (by omega) (by omega) (by omega) (by omega) (by omega) (by omega), fr 79 b (by omega) (by omega) (by omega) (by omega) (by omega) (by omega) (by omega)]
      refine ⟨hS.1, hS.2.1, fun hk => ?_⟩
      obtain ⟨x1, x2, x3, x4, x5, x6⟩ := hS.2.2 hk
      have fs : ∀ p i : Int, (p = kb ∧ 6 ≤ i) ∨ (kb < p ∧ p ≤ kb + 6) ∨ p = 58 → s2 p i = s p i := fun p i hp => fr p i (by omega) (by omega) (by omega) (by omega) (by omega) (by omega) (by omega)
      have f83 : ∀ x, 0 ≤ x → x < 5 → s2 83 (5 * b + x) = s 83 (5 * b + x) := fun x h1 h2 => fr 83 _ (by omega) (by omega) (by omega) (by omega) (by omega) (by omega) (by omega)
      have f830 : s2 83 (5 * b) = s 83 (5 * b) := fr 83 _ (by omega) (by omega) (by omega) (by omega) (by omega) (by omega) (by omega)
      have f3 : ∀ p x : Int, 80 ≤ p → p ≤ 82 → 0 ≤ x → x < 3 → s2 p (3 * b + x) = s p (3 * b + x) := fun p x h1 h2 h3 h4 => fr p _ (by omega) (by omega) (by omega) (by omega) (by omega) (by omega) (by omega)
      have f84 : ∀ x, 18 * b ≤ x → x < 18 * b + 18 → s2 84 x = s 84 x := fun x h1 h2 => fr 84 _ (by omega) (by omega) (by omega) (by omega) (by omega) (by omega) (by omega)
      rw [fs kb 6 (by omega), fs kb 7 (by omega), fs kb 8 (by omega), fs kb 9 (by omega), fs kb 10 (by omega), f830, f83 1 (by decide) (by decide), f83 2 (by decide) (by decide), f83 3 (by decide) (by decide), f83 4 (by decide) (by decide), fs 58 0 (by omega)]
      refine ⟨x1, fun c c0 c1 => ?_, x3, x4, x5, fun i i0 i1 => ?_⟩
      · rw [fs (kb + 1) c (by omega), fs (kb + 2) c (by omega), fs (kb + 3) c (by omega), f3 80 c (by decide) (by decide) c0 c1, f3 81 c (by decide) (by decide) c0 c1, f3 82 c (by decide) (by decide) c0 c1]
        exact x2 c c0 c1
      · rw [fs (kb + 4) i (by omega), fs (kb + 5) i (by omega), fs (kb + 6) i (by omega), f84 _ (by omega) (by omega), f84 _ (by omega) (by omega), f84 _ (by omega) (by omega)]
        exact x6 i i0 i1
    refine h.slot (fun p i h1 h2 => ?_) ?_
    · unfold Cslot at h2
      exact fr p i (by omega) (by omega) (by omega) (by omega) (by omega) (by omega) (by omega)
    · have hS := h.2.2.2.2.2.2.1
      rcases hak with ⟨rfl, rfl⟩ | ⟨rfl, rfl⟩
      · exact ⟨own, oth 1 49 (Or.inr ⟨rfl, rfl⟩) (by decide) hS.2⟩
      · exact ⟨oth 0 42 (Or.inl ⟨rfl, rfl⟩) (by decide) hS.1, own⟩
  · refine ⟨-1, s, s, ?_, ?_, h⟩
    · rw [e136_0, c_isSlot, bnI_some, if_neg q, if_pos rfl]
    · have q2 : ¬ (0 ≤ a ∧ a ≤ 1) := by omega
      rw [g219_0 hR]
      simp (disch := omega) only [grd_if, bnI_some, bnL_some, bnV_some, up_app, kds, kls, and_true, true_and, and_self, and_false, false_and, or_true, true_or, or_false, false_or, not_true_eq_false, not_false_eq_true, ite_true, ite_false, if_true, if_false, ↓reduceIte, Int.reduceLT, Int.reduceLE, Int.reduceEq, Int.reduceNe, Int.reduceAdd, Int.reduceSub, Int.reduceMul, Int.reduceNeg, ne_eq, Int.le_refl, Int.lt_irrefl, cmpL_lt0, cmpL_gt0, cmpL_eq0, cmpL_le0, cmpL_ge0, c_in, q2]
theorem k_again {s : SG} (hR : RefC s) {a k : Int} (hak : (a = 0 ∧ k = 42) ∨ (a = 1 ∧ k = 49)) (hu : s 31 a ≠ 0) : ∃ s1, sem 137 0 [aA 0, aI a] [] s = some (aI (gsum s (k + 1)), s1) ∧ RefC s1 ∧ (s1 16 6 = s k 6 ∧ s1 16 7 = s k 7 ∧ s1 16 8 = s k 8 ∧ s1 16 9 = s k 9 ∧ s1 16 10 = s k 10) ∧ (∀ c, 0 ≤ c → c < 3 → s1 17 c = s (k + 1) c ∧ s1 18 c = s (k + 2) c ∧ s1 19 c = s (k + 3) c) ∧ (∀ c, 0 ≤ c → c < 6 → s1 20 c = s (k + 4) c ∧ s1 21 c = s (k + 5) c ∧ s1 22 c = s (k + 6) c) ∧ ∀ q i, ¬ (q = 16 ∧ 6 ≤ i) → ¬ (16 < q ∧ q ≤ 22) → s1 q i = s q i := by
  obtain ⟨s3, e0, hR3, e1, e2, e3, e4⟩ := c_copy (k := 16) (by omega) (k2 := k) (by omega) (by omega) hR
  have eg := c_givenOut (k := 16) (Or.inl rfl) hR3
  have y0 := (e2 0 (by decide) (by decide)).1
  have y1 := (e2 1 (by decide) (by decide)).1
  have y2 := (e2 2 (by decide) (by decide)).1
  rw [y0, y1, y2] at eg
  have r7 : s 0 7 = 30 := hR.2.2.2.2.2.2.2.1
  have r5 : s 0 5 = 16 := hR.2.2.2.2.2.1
  have r8 : s 0 8 = 31 := hR.2.2.2.2.2.2.2.2.1
  have r5' : s3 0 5 = 16 := hR3.2.2.2.2.2.1
  have rk : s 30 a = k := by
    unfold RefC at hR
    rcases hak with ⟨rfl, rfl⟩ | ⟨rfl, rfl⟩ <;> simp only [hR]
  have kk : kd k = 1 := (kd_k (by omega)).1
  have d31 : kl 31 = 2 := rfl
  have d30 : kl 30 = 2 := rfl
  refine ⟨s3, ?_, hR3, e1, e2, e3, fun q i h1 h2 => e4 q i h1 (by omega)⟩
  rw [e137_0, c_isSlot, bnI_some, if_pos (show 0 ≤ a ∧ a < 2 by omega), if_neg (by decide), g_t (by decide), r8, r7, rk, r5]
  rw [g_t (by decide), g_t (by decide), g_t (by omega), if_neg hu, g_t (by decide), g_t (by decide), g_t (by decide), g_t (by decide), g_t (by decide), g_t (by omega), g_t (by omega), g_t (by decide), e0, bnV_some]
  rw [r5', g_t (by decide), g_t (by decide), g_t (by decide), eg]
  rfl
theorem k_again9 {s : SG} (hR : RefC s) {a : Int} (ha : 0 ≤ a ∧ a < 2) (hu : s 79 a ≠ 0) : ∃ s2, sem 220 0 [aA 56, aI a, aU] [] s = some (aI (w32 (w32 (s 80 (3 * a) + s 80 (3 * a + 1)) + s 80 (3 * a + 2))), s2) ∧ (s2 56 15 = s 83 (5 * a) ∧ s2 56 19 = s 83 (5 * a + 1) ∧ s2 56 20 = s 83 (5 * a + 2) ∧ s2 56 21 = s 83 (5 * a + 3) ∧ s2 56 22 = s 83 (5 * a + 4)) ∧ (∀ c, 0 ≤ c → c < 3 → s2 66 c = s 80 (3 * a + c) ∧ s2 67 c = s 81 (3 * a + c) ∧ s2 68 c = s 82 (3 * a + c)) ∧ (∀ c, 0 ≤ c → c < 6 → s2 69 c = s 84 (18 * a + 3 * c) ∧ s2 70 c = s 84 (18 * a + 3 * c + 1) ∧ s2 71 c = s 84 (18 * a + 3 * c + 2)) ∧ ∀ q i, ¬ (66 ≤ q ∧ q ≤ 71) → ¬ (q = 56 ∧ (i = 15 ∨ (19 ≤ i ∧ i ≤ 22))) → s2 q i = s q i := by
  obtain ⟨sA, a1, hRA, a2, a3⟩ := l_again1 ha 3 0 s (by decide) (by decide) hR
  obtain ⟨sA', hA'⟩ : ∃ z, z = up (up (up (up (up sA 56 15 (sA 83 (5 * a))) 56 19 (sA 83 (5 * a + 1))) 56 20 (sA 83 (5 * a + 2))) 56 21 (sA 83 (5 * a + 3))) 56 22 (sA 83 (5 * a + 4)) := ⟨_, rfl⟩
  have hRA' : RefC sA' := by
    rw [hA']
    exact RefC.upd (RefC.upd (RefC.upd (RefC.upd (RefC.upd hRA (rcb_f (c := 9) (j := 15) rfl (by decide) (by decide))) (rcb_f (c := 9) (j := 19) rfl (by decide) (by decide))) (rcb_f (c := 9) (j := 20) rfl (by decide) (by decide))) (rcb_f (c := 9) (j := 21) rfl (by decide) (by decide))) (rcb_f (c := 9) (j := 22) rfl (by decide) (by decide))
  obtain ⟨sB, b1, hRB, b2, b3⟩ := l_again2 ha 6 0 _ (by decide) (by decide) hRA'
  have w0 : w32 (5 * a) = 5 * a := w32_id (by omega) (by omega)
  have w1 : w32 (5 * a + 1) = 5 * a + 1 := w32_id (by omega) (by omega)
  have w2 : w32 (5 * a + 2) = 5 * a + 2 := w32_id (by omega) (by omega)
  have w3 : w32 (5 * a + 3) = 5 * a + 3 := w32_id (by omega) (by omega)
  have w4 : w32 (5 * a + 4) = 5 * a + 4 := w32_id (by omega) (by omega)
  have f1 : ∀ q i : Int, ¬ (66 ≤ q ∧ q ≤ 68) → sA q i = s q i := fun q i h1 => a3 q i (by omega)
  have f2 : ∀ q i : Int, q ≠ 56 → sA' q i = sA q i := fun q i h1 => by
    rw [hA']
    repeat rw [up_ne h1]
  have f3 : ∀ q i : Int, ¬ (69 ≤ q ∧ q ≤ 71) → sB q i = sA' q i := fun q i h1 => b3 q i (by omega)
  refine ⟨sB, ?_, ?_, ?_, ?_, ?_⟩
  · have ha2 : 0 ≤ a ∧ a ≤ 1 := by omega
    rw [g220_0 hR, c_in, bnI_some, if_pos ha2, if_neg (by decide), grd_if, if_pos ha, if_neg hu]
    rw [a1, g220_26 hRA]
    rw [if_neg (by decide), w0, w1, w2, w3, w4]
    repeat rw [grd_if, if_pos (by omega)]
    rw [← hA', b1, g220_155 hRB, if_neg (by decide), c_allGiven hRB]
    rw [bnI_some]
    have z : ∀ c, 0 ≤ c → c < 3 → sB 66 c = s 80 (3 * a + c) := fun c c0 c1 => by
      rw [f3 66 c (by decide), f2 66 c (by decide)]
      exact (a2 c c0 c1).1
    rw [z 0 (by decide) (by decide), z 1 (by decide) (by decide), z 2 (by decide) (by decide), Int.add_zero]
  · have e83 : ∀ i, sA 83 i = s 83 i := fun i => f1 83 i (by decide)
    rw [f3 56 _ (by decide), f3 56 _ (by decide), f3 56 _ (by decide), f3 56 _ (by decide), f3 56 _ (by decide), hA']
    simp (disch := omega) only [grd_if, bnI_some, bnL_some, bnV_some, up_app, kds, kls, and_true, true_and, and_self, and_false, false_and, or_true, true_or, or_false, false_or, not_true_eq_false, not_false_eq_true, ite_true, ite_false, if_true, if_false, ↓reduceIte, Int.reduceLT, Int.reduceLE, Int.reduceEq, Int.reduceNe, Int.reduceAdd, Int.reduceSub, Int.reduceMul, Int.reduceNeg, ne_eq, Int.le_refl, Int.lt_irrefl, cmpL_lt0, cmpL_gt0, cmpL_eq0, cmpL_le0, cmpL_ge0, e83]
  · intro c h1 h2
    have := a2 c h1 h2
    rw [f3 66 _ (by decide), f3 67 _ (by decide), f3 68 _ (by decide), f2 66 _ (by decide), f2 67 _ (by decide), f2 68 _ (by decide)]
    exact this
  · intro c h1 h2
    have := b2 c h1 h2
    rw [f2 84 _ (by decide), f2 84 _ (by decide), f2 84 _ (by decide), f1 84 _ (by decide), f1 84 _ (by decide), f1 84 _ (by decide)] at this
    exact this
  · intro q i h1 h2
    rw [b3 q i (by omega)]
    have e5 : sA' q i = sA q i := by
      rw [hA']
      unfold up
      repeat rw [if_neg (by omega)]
    rw [e5, a3 q i (by omega)]
set_option maxHeartbeats 4000000 in
theorem q_again {s : SG} (h : Inv s) (a : Int) : ∃ r s1 s2, sem 137 0 [aA 0, aI a] [] s = some (aI r, s1) ∧ sem 220 0 [aA 56, aI a, aU] [] s1 = some (aI r, s2) ∧ Inv s2 := by
  have hR := h.1
  by_cases q : 0 ≤ a ∧ a < 2
  · obtain ⟨k, hak⟩ : ∃ k : Int, (a = 0 ∧ k = 42) ∨ (a = 1 ∧ k = 49) := by
      by_cases z : a = 0
      · exact ⟨42, Or.inl ⟨z, rfl⟩⟩
      · exact ⟨49, Or.inr ⟨by omega, rfl⟩⟩
    have hS : SlotI s a k := by
      have := h.2.2.2.2.2.2.1
      rcases hak with ⟨rfl, rfl⟩ | ⟨rfl, rfl⟩
      · exact this.1
      · exact this.2
    have r8 : s 0 8 = 31 := hR.2.2.2.2.2.2.2.2.1
    have d31 : kl 31 = 2 := rfl
    by_cases u : s 79 a = 0
    · have u2 : s 31 a = 0 := by rw [hS.1, u]
      refine ⟨-3, s, s, ?_, ?_, h⟩
      · rw [e137_0, c_isSlot, bnI_some, if_pos q, if_neg (by decide), g_t (by decide), r8, g_t (by decide), g_t (by decide), g_t (by omega), if_pos u2]
      · rw [g220_0 hR, c_in, bnI_some, if_pos (show 0 ≤ a ∧ a ≤ 1 by omega), if_neg (by decide), g_t q, if_pos u]
    · have u1 : s 79 a = 1 := by
        have := hS.2.1
        omega
      have u2 : s 31 a ≠ 0 := by rw [hS.1]; exact u
      obtain ⟨x1, x2, x3, x4, x5, x6⟩ := hS.2.2 u1
      obtain ⟨s1, e0, hR1, e1, e2, e3, e5⟩ := k_again (a := a) (k := k) hR hak u2
      have u3 : s1 79 a ≠ 0 := by rw [e5 79 a (by omega) (by omega)]; exact u
      obtain ⟨s2, d0, d2, d3, d4, d5⟩ := k_again9 hR1 q u3
      have g0 := (x2 0 (by decide) (by decide)).1
      have g1 := (x2 1 (by decide) (by decide)).1
      have g2 := (x2 2 (by decide) (by decide)).1
      rw [Int.add_zero] at g0
      have eg : w32 (w32 (s1 80 (3 * a) + s1 80 (3 * a + 1)) + s1 80 (3 * a + 2)) = gsum s (k + 1) := by
        unfold gsum
        rw [e5 80 _ (by omega) (by omega), e5 80 _ (by omega) (by omega), e5 80 _ (by omega) (by omega), g0, g1, g2]
      have fr : ∀ q i : Int, ¬ (q = 16 ∧ 6 ≤ i) → ¬ (16 < q ∧ q ≤ 22) → ¬ (66 ≤ q ∧ q ≤ 71) → ¬ (q = 56 ∧ (i = 15 ∨ (19 ≤ i ∧ i ≤ 22))) → s2 q i = s q i := fun q i h1 h2 h3 h4 => by
        rw [d5 q i h3 h4, e5 q i h1 h2]
      have t1 : ∀ q i : Int, 79 ≤ q → s1 q i = s q i := fun q i h1 => e5 q i (by omega) (by omega)
      have t2 : ∀ q i : Int, (q = 16 ∧ 6 ≤ i) ∨ (16 < q ∧ q ≤ 22) → s2 q i = s1 q i := fun q i h1 => d5 q i (by omega) (by omega)
      refine ⟨gsum s (k + 1), s1, s2, e0, by rw [d0, eg], ?_⟩
      refine h.morn (fun p i h1 h2 => ?_) ?_
      · unfold Cmorn at h2
        exact fr p i (by omega) (by omega) (by omega) (by omega)
      · unfold MornI
        rw [t2 16 6 (by omega), t2 16 7 (by omega), t2 16 8 (by omega), t2 16 9 (by omega), t2 16 10 (by omega), e1.1, e1.2.1, e1.2.2.1, e1.2.2.2.1, e1.2.2.2.2, d2.1, d2.2.1, d2.2.2.1, d2.2.2.2.1, d2.2.2.2.2, fr 58 0 (by omega) (by omega) (by omega) (by omega)]
        rw [t1 83 _ (by decide), t1 83 _ (by decide), t1 83 _ (by decide), t1 83 _ (by decide), t1 83 _ (by decide)]
        refine ⟨x1, fun c c0 c1 => ?_, x3, x4, x5, fun i i0 i1 => ?_⟩
        · have y := x2 c c0 c1
          have z := d3 c c0 c1
          have w := e2 c c0 c1
          rw [t2 17 c (by omega), t2 18 c (by omega), t2 19 c (by omega), z.1, z.2.1, z.2.2, w.1, w.2.1, w.2.2, t1 80 _ (by decide), t1 81 _ (by decide), t1 82 _ (by decide)]
          exact y
        · have y := x6 i i0 i1
          have z := d4 i i0 i1
          have w := e3 i i0 i1
          rw [t2 20 i (by omega), t2 21 i (by omega), t2 22 i (by omega), z.1, z.2.1, z.2.2, w.1, w.2.1, w.2.2, t1 84 _ (by decide), t1 84 _ (by decide), t1 84 _ (by decide)]
          exact y
  · refine ⟨-1, s, s, ?_, ?_, h⟩
    · rw [e137_0, c_isSlot, bnI_some, if_neg q, if_pos rfl]
    · rw [g220_0 hR, c_in, bnI_some, if_neg (show ¬ (0 ≤ a ∧ a ≤ 1) by omega), if_pos rfl]

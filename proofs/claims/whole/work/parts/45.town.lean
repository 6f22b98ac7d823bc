/-! town -/
theorem RefC.tw {s : SG} (h : RefC s) (a b : Int) : RefC (up (up s 0 9 a) 0 10 b) := by
  unfold RefC at h ⊢
  simp only [up_app, Int.reduceEq, and_false, false_and, and_self, if_false]
  exact h
theorem c_told {s : SG} (hR : RefC s) : ∃ s', sem 18 0 [aA 16] [] s = some (aU, s') ∧ RefC s' ∧ (s' 16 6 = 0 ∧ s' 16 7 = 0 ∧ s' 16 8 = 0 ∧ s' 16 9 = 0 ∧ s' 16 10 = 0) ∧ (∀ c, 0 ≤ c → c < 3 → s' 17 c = 0 ∧ s' 18 c = 5 ∧ s' 19 c = 0) ∧ ∀ q i, ¬ (q = 16 ∧ 6 ≤ i) → ¬ (17 ≤ q ∧ q ≤ 19) → s' q i = s q i := by
  have e := g18_0 (k := 16) (Or.inl rfl) hR
  have k1 : kl 17 = 3 := rfl
  have k2 : kl 18 = 3 := rfl
  have k3 : kl 19 = 3 := rfl
  rw [show (16 : Int) + 1 = 17 from rfl, show (16 : Int) + 2 = 18 from rfl, show (16 : Int) + 3 = 19 from rfl, c_fill (k := 17) rfl (by decide), bnV_some, c_fill (k := 18) rfl (by decide), bnV_some, c_fill (k := 19) rfl (by decide), bnV_some] at e
  refine ⟨_, e, RefC.sem e rfl hR, ?_, fun c c0 c1 => ?_, fun q i h1 h2 => ?_⟩
  · clear e
    simp (disch := omega) only [grd_if, bnI_some, bnL_some, bnV_some, up_app, kds, kls, and_true, true_and, and_self, and_false, false_and, or_true, true_or, or_false, false_or, not_true_eq_false, not_false_eq_true, ite_true, ite_false, if_true, if_false, ↓reduceIte, Int.reduceLT, Int.reduceLE, Int.reduceEq, Int.reduceNe, Int.reduceAdd, Int.reduceSub, Int.reduceMul, Int.reduceNeg, ne_eq, Int.le_refl, Int.lt_irrefl, cmpL_lt0, cmpL_gt0, cmpL_eq0, cmpL_le0, cmpL_ge0]
  · clear e
    rw [up_ne (by decide), up_ne (by decide), up_ne (by decide), up_ne (by decide), up_ne (by decide), up_ne (by decide), up_ne (by decide), up_ne (by decide), up_ne (by decide), up_ne (by decide), up_ne (by decide), up_ne (by decide), up_ne (by decide), up_ne (by decide), up_ne (by decide)]
    simp (disch := omega) only [grd_if, bnI_some, bnL_some, bnV_some, up_app, kds, kls, and_true, true_and, and_self, and_false, false_and, or_true, true_or, or_false, false_or, not_true_eq_false, not_false_eq_true, ite_true, ite_false, if_true, if_false, ↓reduceIte, Int.reduceLT, Int.reduceLE, Int.reduceEq, Int.reduceNe, Int.reduceAdd, Int.reduceSub, Int.reduceMul, Int.reduceNeg, ne_eq, Int.le_refl, Int.lt_irrefl, cmpL_lt0, cmpL_gt0, cmpL_eq0, cmpL_le0, cmpL_ge0, fillS_app, k1, k2, k3, c0, c1]
  · clear e
    simp only [up_app, fillS_app]
    repeat rw [if_neg (by omega)]
theorem l_take1 : ∀ (n : Nat) (l : Int) (s : SG), l + n = 28 → 0 ≤ l → RefC s → ∃ s', sem 154 2 [aA 56, aI l] [] s = sem 154 2 [aA 56, aI 28] [] s' ∧ RefC s' ∧ (∀ i, l ≤ i → i < 28 → s' 58 i = s 57 i) ∧ ∀ q i, ¬ (q = 58 ∧ l ≤ i) → s' q i = s q i := by
  intro n
  induction n with
  | zero =>
    intro l s hl h0 hR
    have : l = 28 := by omega
    subst this
    exact ⟨s, rfl, hR, fun c h1 h2 => by omega, fun _ _ _ => rfl⟩
  | succ n ih =>
    intro l s hl h0 hR
    have w2 : w32 (l + 1) = l + 1 := w32_id (by omega) (by omega)
    rw [g154_2 hR, if_pos (by omega), g_t (by omega), w2]
    obtain ⟨s', e1, e2, e3, e4⟩ := ih (l + 1) (up s 58 l (s 57 l)) (by omega) (by omega) (RefC.upd hR (rcb_a (by decide)))
    refine ⟨s', e1, e2, fun c h1 h2 => ?_, fun q i h1 => ?_⟩
    · by_cases e : c = l
      · subst e
        rw [e4 58 _ (by omega), up_at]
      · rw [e3 c (by omega) h2, up_ne (by decide)]
    · rw [e4 q i (by omega), up_app, if_neg (by omega)]
theorem l_take2 : ∀ (n : Nat) (l : Int) (s : SG), l + n = 3 → 0 ≤ l → RefC s → ∃ s', sem 154 72 [aA 56, aI l] [] s = some (aU, s') ∧ RefC s' ∧ (∀ i, l ≤ i → i < 3 → s' 66 i = 0 ∧ s' 67 i = 0 ∧ s' 68 i = 5) ∧ ∀ q i, ¬ (66 ≤ q ∧ q ≤ 68 ∧ l ≤ i) → s' q i = s q i := by
  intro n
  induction n with
  | zero =>
    intro l s hl h0 hR
    rw [g154_72 hR, if_neg (by omega)]
    exact ⟨s, rfl, hR, fun c h1 h2 => by omega, fun _ _ _ => rfl⟩
  | succ n ih =>
    intro l s hl h0 hR
    have w2 : w32 (l + 1) = l + 1 := w32_id (by omega) (by omega)
    rw [g154_72 hR, if_pos (by omega), g_t (by omega), w2]
    obtain ⟨s', e1, e2, e3, e4⟩ := ih (l + 1) (up (up (up s 66 l 0) 67 l 0) 68 l 5) (by omega) (by omega) (RefC.upd (RefC.upd (RefC.upd hR (rcb_a (by decide))) (rcb_a (by decide))) (rcb_a (by decide)))
    refine ⟨s', e1, e2, fun c h1 h2 => ?_, fun q i h1 => ?_⟩
    · by_cases e : c = l
      · subst e
        rw [e4 66 _ (by omega), e4 67 _ (by omega), e4 68 _ (by omega)]
        simp (disch := omega) only [grd_if, bnI_some, bnL_some, bnV_some, up_app, kds, kls, and_true, true_and, and_self, and_false, false_and, or_true, true_or, or_false, false_or, not_true_eq_false, not_false_eq_true, ite_true, ite_false, if_true, if_false, ↓reduceIte, Int.reduceLT, Int.reduceLE, Int.reduceEq, Int.reduceNe, Int.reduceAdd, Int.reduceSub, Int.reduceMul, Int.reduceNeg, ne_eq, Int.le_refl, Int.lt_irrefl, cmpL_lt0, cmpL_gt0, cmpL_eq0, cmpL_le0, cmpL_ge0]
      · exact e3 c (by omega) h2
    · rw [e4 q i (by omega), up_app, if_neg (by omega), up_app, if_neg (by omega), up_app, if_neg (by omega)]
/-- the reference takes the town that it has read -/
theorem c_takeT {s : SG} (hR : RefC s) : ∃ s', sem 154 0 [aA 56, aU] [] s = some (aU, s') ∧ RefC s' ∧ (∀ i, 0 ≤ i → i < 28 → s' 58 i = s 57 i) ∧ (s' 56 9 = 0 ∧ s' 79 0 = 0 ∧ s' 79 1 = 0 ∧ s' 56 15 = 0 ∧ s' 56 19 = 0 ∧ s' 56 20 = 0 ∧ s' 56 21 = 0 ∧ s' 56 22 = 0) ∧ (∀ c, 0 ≤ c → c < 3 → s' 66 c = 0 ∧ s' 67 c = 0 ∧ s' 68 c = 5) ∧ ∀ q i, q ≠ 58 → ¬ (66 ≤ q ∧ q ≤ 68) → ¬ (q = 79 ∧ 0 ≤ i ∧ i ≤ 1) → ¬ (q = 56 ∧ (i = 9 ∨ i = 15 ∨ (19 ≤ i ∧ i ≤ 22))) → s' q i = s q i := by
  obtain ⟨s1, a1, a2, a3, a4⟩ := l_take1 28 0 s (by decide) (by decide) hR
  have h2 : RefC (up (up (up (up (up (up (up (up s1 56 9 0) 79 0 0) 79 1 0) 56 15 0) 56 19 0) 56 20 0) 56 21 0) 56 22 0) := RefC.upd (RefC.upd (RefC.upd (RefC.upd (RefC.upd (RefC.upd (RefC.upd (RefC.upd a2 (rcb_f (c := 9) (j := 9) rfl (by decide) (by decide))) (rcb_a (by decide))) (rcb_a (by decide))) (rcb_f (c := 9) (j := 15) rfl (by decide) (by decide))) (rcb_f (c := 9) (j := 19) rfl (by decide) (by decide))) (rcb_f (c := 9) (j := 20) rfl (by decide) (by decide))) (rcb_f (c := 9) (j := 21) rfl (by decide) (by decide))) (rcb_f (c := 9) (j := 22) rfl (by decide) (by decide))
  obtain ⟨s', b1, b2, b3, b4⟩ := l_take2 3 0 _ (by decide) (by decide) h2
  refine ⟨s', ?_, b2, fun i i0 i1 => ?_, ?_, fun c c0 c1 => b3 c c0 c1, fun q i h1 h2 h3 h4 => ?_⟩
  · rw [g154_0 hR, a1, g154_2 a2, if_neg (by decide), b1]
  · rw [b4 58 i (by omega)]
    repeat rw [up_ne (by decide)]
    exact a3 i i0 i1
  · rw [b4 56 _ (by omega), b4 79 _ (by omega), b4 79 _ (by omega), b4 56 _ (by omega), b4 56 _ (by omega), b4 56 _ (by omega), b4 56 _ (by omega), b4 56 _ (by omega)]
    simp (disch := omega) only [grd_if, bnI_some, bnL_some, bnV_some, up_app, kds, kls, and_true, true_and, and_self, and_false, false_and, or_true, true_or, or_false, false_or, not_true_eq_false, not_false_eq_true, ite_true, ite_false, if_true, if_false, ↓reduceIte, Int.reduceLT, Int.reduceLE, Int.reduceEq, Int.reduceNe, Int.reduceAdd, Int.reduceSub, Int.reduceMul, Int.reduceNeg, ne_eq, Int.le_refl, Int.lt_irrefl, cmpL_lt0, cmpL_gt0, cmpL_eq0, cmpL_le0, cmpL_ge0]
  · rw [b4 q i (by omega)]
    simp only [up_app]
    repeat rw [if_neg (by omega)]
    exact a4 q i (by omega)
theorem TRng.cg {T T' : Int → Int} (h : ∀ i, 0 ≤ i → i < 28 → T' i = T i) (hT : TRng T) : TRng T' := by
  unfold TRng at hT ⊢
  obtain ⟨t0, t1, t2, t3, t4, t5⟩ := hT
  rw [h 0 (by decide) (by decide)]
  exact ⟨t0, fun i a b => by rw [h i (by omega) (by omega)]; exact t1 i a b, fun i a b => by rw [h i (by omega) (by omega)]; exact t2 i a b, fun i a b => by rw [h i (by omega) (by omega)]; exact t3 i a b, fun i a b => by rw [h i (by omega) (by omega)]; exact t4 i a b, fun i a b => by rw [h i (by omega) (by omega)]; exact t5 i a b⟩
theorem outS_cg {T T' : Int → Int} (h : ∀ i, 0 ≤ i → i < 28 → T' i = T i) {c : Int} (hc : 0 ≤ c ∧ c < 3) (g : Int) : outS T' c g = outS T c g := by
  unfold outS
  rw [h 1 (by decide) (by decide), h 2 (by decide) (by decide), h 3 (by decide) (by decide), h (10 + 3 * c) (by omega) (by omega), h (11 + 3 * c) (by omega) (by omega), h (12 + 3 * c) (by omega) (by omega), h (19 + 3 * c) (by omega) (by omega), h (20 + 3 * c) (by omega) (by omega), h (21 + 3 * c) (by omega) (by omega)]
theorem soldS_cg {T T' : Int → Int} (h : ∀ i, 0 ≤ i → i < 28 → T' i = T i) {c : Int} (hc : 0 ≤ c ∧ c < 3) (g : Int) : soldS T' c g = soldS T c g := by
  unfold soldS
  rw [h 1 (by decide) (by decide), h 2 (by decide) (by decide), h 3 (by decide) (by decide), h (10 + 3 * c) (by omega) (by omega), h (11 + 3 * c) (by omega) (by omega), h (12 + 3 * c) (by omega) (by omega), h (19 + 3 * c) (by omega) (by omega), h (20 + 3 * c) (by omega) (by omega), h (21 + 3 * c) (by omega) (by omega)]
theorem tv_cg {s s' : SG} {t : Int} (h : ∀ q i, t ≤ q → q ≤ t + 4 → s' q i = s q i) (i : Int) : tv s' t i = tv s t i := by
  unfold tv
  rw [h t 4 (by omega) (by omega), h t 5 (by omega) (by omega), h t 6 (by omega) (by omega), h t 7 (by omega) (by omega), h (t + 1) _ (by omega) (by omega), h (t + 2) _ (by omega) (by omega), h (t + 3) _ (by omega) (by omega), h (t + 4) _ (by omega) (by omega)]

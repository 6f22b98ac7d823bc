/-! fault -/
theorem l_clear {d : Int} (hd : d = 32 ∨ d = 37) : ∀ (n : Nat) (l : Int) (s : SG), l + n = 18 → 0 ≤ l → RefC s → ∃ s', sem 32 12 [aA 3, aA 1, aA d, aI l] [] s = sem 32 12 [aA 3, aA 1, aA d, aI 18] [] s' ∧ RefC s' ∧ (∀ c, l ≤ c → c < 18 → s' 4 c = 0) ∧ ∀ q i, ¬ (q = 4 ∧ l ≤ i) → s' q i = s q i := by
  intro n
  induction n with
  | zero =>
    intro l s hl h0 hR
    have : l = 18 := by omega
    subst this
    exact ⟨s, rfl, hR, fun c h1 h2 => by omega, fun _ _ _ => rfl⟩
  | succ n ih =>
    intro l s hl h0 hR
    have w2 : w32 (l + 1) = l + 1 := w32_id (by omega) (by omega)
    rw [g32_12 hd hR, if_pos (by omega), g_t (by omega), w2]
    obtain ⟨s', e1, e2, e3, e4⟩ := ih (l + 1) (up s 4 l 0) (by omega) (by omega) (ru4 hR _ _)
    refine ⟨s', e1, e2, fun c h1 h2 => ?_, fun q i h1 => ?_⟩
    · by_cases e : c = l
      · subst e
        rw [e4 4 _ (by omega), up_at]
      · exact e3 c (by omega) h2
    · rw [e4 q i (by omega), up_app, if_neg (by omega)]
theorem l_blank : ∀ (n : Nat) (l : Int) (s : SG), l + n = 28 → 0 ≤ l → RefC s → ∃ s', sem 153 2 [aA 56, aI l] [] s = some (aU, s') ∧ RefC s' ∧ (∀ c, l ≤ c → c < 28 → s' 57 c = dflt c ∧ s' 59 c = 0) ∧ ∀ q i, ¬ (q = 57 ∧ l ≤ i) → ¬ (q = 59 ∧ l ≤ i) → s' q i = s q i := by
  intro n
  induction n with
  | zero =>
    intro l s hl h0 hR
    have : l = 28 := by omega
    subst this
    rw [g153_2 hR, if_neg (by decide)]
    exact ⟨s, rfl, hR, fun c h1 h2 => by omega, fun _ _ _ _ => rfl⟩
  | succ n ih =>
    intro l s hl h0 hR
    have w2 : w32 (l + 1) = l + 1 := w32_id (by omega) (by omega)
    have e0 : sem 153 2 [aA 56, aI l] [] s = sem 153 2 [aA 56, aI (l + 1)] [] (up (up s 57 l (dflt l)) 59 l 0) := by
      have gl : 0 ≤ l ∧ l < 28 := by omega
      rw [g153_2 hR, if_pos (by omega), w2, c_in, bnI_some, g_t gl, g_t gl]
      unfold dflt
      by_cases q1 : 18 < l
      · rw [if_pos q1, if_neg (by omega), if_neg (by omega), if_neg (by omega), if_neg (by omega), if_neg (by omega), if_neg (by omega), if_neg (by omega)]
      · rw [if_neg q1]
        by_cases q2 : l = 6
        · rw [if_pos q2, q2]; rfl
        · rw [if_neg q2]
          by_cases q3 : 9 < l
          · rw [if_pos q3, if_neg (by omega), if_neg (by omega), if_neg (by omega), if_neg (by omega), if_neg (by omega), if_neg (by omega), if_pos (by omega)]
          · rw [if_neg q3]
            have : l = 0 ∨ l = 1 ∨ l = 2 ∨ l = 3 ∨ l = 4 ∨ l = 5 ∨ l = 7 ∨ l = 8 ∨ l = 9 := by omega
            rcases this with rfl | rfl | rfl | rfl | rfl | rfl | rfl | rfl | rfl <;> rfl
    obtain ⟨s', e1, e2, e3, e4⟩ := ih (l + 1) (up (up s 57 l (dflt l)) 59 l 0) (by omega) (by omega) (ru59 (ru57 hR _ _) _ _)
    rw [e0]
    refine ⟨s', e1, e2, fun c h1 h2 => ?_, fun q i h1 h2 => ?_⟩
    · by_cases e : c = l
      · subst e
        rw [e4 57 _ (by omega) (by omega), e4 59 _ (by omega) (by omega), up_ne (by decide), up_at, up_at]
        exact ⟨rfl, rfl⟩
      · exact e3 c (by omega) h2
    · rw [e4 q i (by omega) (by omega), up_app, if_neg (by omega), up_app, if_neg (by omega)]
theorem TRng.d {s : SG} {n : Int} (hn : 1 ≤ n ∧ n ≤ 3) (h0 : s 57 0 = n) (h : ∀ i, 1 ≤ i → i < 28 → s 57 i = dflt i) : TRng (s 57) := by
  unfold TRng
  rw [h0]
  have d1 : ∀ i, 1 ≤ i → i ≤ 3 → dflt i = 1 := fun i a b => by unfold dflt; rw [if_neg (by omega), if_pos (by omega)]
  have d3 : ∀ i, 7 ≤ i → i ≤ 9 → dflt i = -9 := fun i a b => by
    have : i = 7 ∨ i = 8 ∨ i = 9 := by omega
    rcases this with rfl | rfl | rfl <;> rfl
  have d2 : ∀ i, 4 ≤ i → i ≤ 6 → 0 ≤ dflt i ∧ dflt i ≤ 99 := fun i a b => by
    have : i = 4 ∨ i = 5 ∨ i = 6 := by omega
    rcases this with rfl | rfl | rfl <;> decide
  have d4 : ∀ i, 10 ≤ i → i ≤ 18 → dflt i = 1 := fun i a b => by
    unfold dflt
    rw [if_neg (by omega), if_neg (by omega), if_neg (by omega), if_neg (by omega), if_neg (by omega), if_neg (by omega), if_pos (by omega)]
  have d5 : ∀ i, 19 ≤ i → i ≤ 27 → dflt i = 5 := fun i a b => by
    unfold dflt
    rw [if_neg (by omega), if_neg (by omega), if_neg (by omega), if_neg (by omega), if_neg (by omega), if_neg (by omega), if_neg (by omega)]
  refine ⟨hn, fun i a b => ?_, fun i a b => ?_, fun i a b => ?_, fun i a b => ?_, fun i a b => ?_⟩
  · rw [h i (by omega) (by omega), d1 i a b]; decide
  · rw [h i (by omega) (by omega)]; exact d2 i a b
  · rw [h i (by omega) (by omega), d3 i a b]; exact Or.inl rfl
  · rw [h i (by omega) (by omega), d4 i a b]; decide
  · rw [h i (by omega) (by omega), d5 i a b]; decide
/-- the text is the same on both sides -/
def Sam (s t : SG) : Prop := s 1 1 = t 56 4 ∧ (0 ≤ t 56 4 ∧ t 56 4 ≤ 64) ∧ ∀ i, 0 ≤ i → i < t 56 4 → s 2 i = t 60 i ∧ 0 ≤ t 60 i ∧ t 60 i ≤ 255
set_option maxHeartbeats 4000000 in
theorem j_read {d : Int} (hd : d = 32 ∨ d = 37) {s t : SG} (hR : RefC s) (hR2 : RefC t) (hT : Sam s t) : ∃ r s' t', sem 32 0 [aA 3, aA 1, aA d, aU] [] s = some (aI r, s') ∧ sem 159 0 [aA 56] [] t = some (aI r, t') ∧ FcC2 d s s' ∧ FcR2 t t' ∧ (r = -9 → Rd d s' t' ∧ s' 3 2 = t' 56 7) := by
  obtain ⟨s1, a1, a2, a3, a4⟩ := l_clear hd 18 0 (up (up s 3 1 0) 3 2 0) (by decide) (by decide) (ru32 (ru31 hR _) _)
  obtain ⟨s2, b1, b2, b3, b4, b5⟩ := c_reset hd a2
  obtain ⟨t1, c1, c2, c3, c4⟩ := l_blank 28 0 t (by decide) (by decide) hR2
  have hC : sem 32 0 [aA 3, aA 1, aA d, aU] [] s = _ := (g32_0 hd hR).trans (a1.trans (g32_12 hd a2 18))
  have h9 : sem 159 0 [aA 56] [] t = _ := g159_0 hR2
  rw [if_neg (by decide), b1, bnV_some, g33_0 hd b2] at hC
  rw [g153_0 hR2, c1, bnV_some] at h9
  have f2 : FcC2 d s s2 := fun q i z1 z2 z3 z4 => by
    rw [b5 q i z3 z4, a4 q i (by omega), up_app, if_neg (by omega), up_app, if_neg (by omega)]
  have ft : ∀ q i, q ≠ 57 → q ≠ 59 → t1 q i = t q i := fun q i z1 z2 => c4 q i (by omega) (by omega)
  have p2 : s2 3 1 = 0 := by rw [b5 3 1 (by omega) (by omega), a4 3 1 (by omega), up_ni (by decide), up_at]
  have s4 : s2 1 1 = t 56 4 := by rw [f2 1 1 (by omega) (by decide) (by omega) (by omega)]; exact hT.1
  have t4 : t1 56 4 = t 56 4 := ft 56 4 (by decide) (by decide)
  have by2 : ∀ i, 0 ≤ i → i < t 56 4 → s2 2 i = t 60 i := fun i i0 i1 => by
    rw [f2 2 i (by omega) (by decide) (by omega) (by omega)]
    exact (hT.2.2 i i0 i1).1
  have by9 : ∀ i, t1 60 i = t 60 i := fun i => ft 60 i (by decide) (by decide)
  have tx2 : TxI s2 := ⟨by rw [s4]; exact hT.2.1.2, fun i i0 i1 => by
    rw [s4] at i1
    rw [by2 i i0 i1]
    exact (hT.2.2 i i0 i1).2⟩
  rw [c_byteAt b2 tx2.1, bnI_some, p2] at hC
  have t0 := hT.2.1
  by_cases q0 : t 56 4 = 0
  · have : byt s2 0 = -1 := by
      unfold byt
      rw [s4, if_neg (by omega)]
    rw [this, if_neg (by decide), bnI_some, if_pos rfl, p2] at hC
    rw [t4, if_pos q0] at h9
    refine ⟨0, s2, _, hC, h9, f2, fun q i z1 z2 z3 => ?_, fun z => by omega⟩
    rw [up_app, if_neg (by omega), up_app, if_neg (by omega), up_app, if_neg (by omega), ft q i z2 z3]
  · have hb : byt s2 0 = t 60 0 := by
      unfold byt
      rw [s4, if_pos (by omega), by2 0 (by decide) (by omega)]
    rw [hb] at hC
    rw [t4, if_neg q0, by9 0] at h9
    by_cases q1 : t 60 0 = 78
    · have w1 : w32 (0 + 1) = 1 := rfl
      have hP : Pl (up s2 3 1 1) (up (up (up (up t1 56 5 0) 56 6 (-9)) 56 7 0) 56 5 1) := by
        refine ⟨⟨ru31 b2 _, ru565 (ru567 (ru566 (ru565 c2 _) _) _) _⟩, ⟨tx2.of (up_ne (by decide) _) (fun i => up_ne (by decide) _), ⟨?_, ?_, fun i i0 i1 => ?_⟩, ?_, fun i i0 i1 => ?_⟩, ?_, ?_, ?_⟩
        · simp (disch := omega) only [grd_if, bnI_some, bnL_some, bnV_some, up_app, kds, kls, and_true, true_and, and_self, and_false, false_and, or_true, true_or, or_false, false_or, not_true_eq_false, not_false_eq_true, ite_true, ite_false, if_true, if_false, ↓reduceIte, Int.reduceLT, Int.reduceLE, Int.reduceEq, Int.reduceNe, Int.reduceAdd, Int.reduceSub, Int.reduceMul, Int.reduceNeg, ne_eq, Int.le_refl, Int.lt_irrefl, cmpL_lt0, cmpL_gt0, cmpL_eq0, cmpL_le0, cmpL_ge0, t4]
          exact hT.2.1.2
        · rw [up_at]; decide
        · simp (disch := omega) only [grd_if, bnI_some, bnL_some, bnV_some, up_app, kds, kls, and_true, true_and, and_self, and_false, false_and, or_true, true_or, or_false, false_or, not_true_eq_false, not_false_eq_true, ite_true, ite_false, if_true, if_false, ↓reduceIte, Int.reduceLT, Int.reduceLE, Int.reduceEq, Int.reduceNe, Int.reduceAdd, Int.reduceSub, Int.reduceMul, Int.reduceNeg, ne_eq, Int.le_refl, Int.lt_irrefl, cmpL_lt0, cmpL_gt0, cmpL_eq0, cmpL_le0, cmpL_ge0, t4] at i1
          simp (disch := omega) only [grd_if, bnI_some, bnL_some, bnV_some, up_app, kds, kls, and_true, true_and, and_self, and_false, false_and, or_true, true_or, or_false, false_or, not_true_eq_false, not_false_eq_true, ite_true, ite_false, if_true, if_false, ↓reduceIte, Int.reduceLT, Int.reduceLE, Int.reduceEq, Int.reduceNe, Int.reduceAdd, Int.reduceSub, Int.reduceMul, Int.reduceNeg, ne_eq, Int.le_refl, Int.lt_irrefl, cmpL_lt0, cmpL_gt0, cmpL_eq0, cmpL_le0, cmpL_ge0, by9]
          exact (hT.2.2 i i0 i1).2
        · simp (disch := omega) only [grd_if, bnI_some, bnL_some, bnV_some, up_app, kds, kls, and_true, true_and, and_self, and_false, false_and, or_true, true_or, or_false, false_or, not_true_eq_false, not_false_eq_true, ite_true, ite_false, if_true, if_false, ↓reduceIte, Int.reduceLT, Int.reduceLE, Int.reduceEq, Int.reduceNe, Int.reduceAdd, Int.reduceSub, Int.reduceMul, Int.reduceNeg, ne_eq, Int.le_refl, Int.lt_irrefl, cmpL_lt0, cmpL_gt0, cmpL_eq0, cmpL_le0, cmpL_ge0, t4]
          exact s4
        · simp (disch := omega) only [grd_if, bnI_some, bnL_some, bnV_some, up_app, kds, kls, and_true, true_and, and_self, and_false, false_and, or_true, true_or, or_false, false_or, not_true_eq_false, not_false_eq_true, ite_true, ite_false, if_true, if_false, ↓reduceIte, Int.reduceLT, Int.reduceLE, Int.reduceEq, Int.reduceNe, Int.reduceAdd, Int.reduceSub, Int.reduceMul, Int.reduceNeg, ne_eq, Int.le_refl, Int.lt_irrefl, cmpL_lt0, cmpL_gt0, cmpL_eq0, cmpL_le0, cmpL_ge0, t4] at i1
          simp (disch := omega) only [grd_if, bnI_some, bnL_some, bnV_some, up_app, kds, kls, and_true, true_and, and_self, and_false, false_and, or_true, true_or, or_false, false_or, not_true_eq_false, not_false_eq_true, ite_true, ite_false, if_true, if_false, ↓reduceIte, Int.reduceLT, Int.reduceLE, Int.reduceEq, Int.reduceNe, Int.reduceAdd, Int.reduceSub, Int.reduceMul, Int.reduceNeg, ne_eq, Int.le_refl, Int.lt_irrefl, cmpL_lt0, cmpL_gt0, cmpL_eq0, cmpL_le0, cmpL_ge0, by9]
          exact by2 i i0 i1
        · rw [up_at, up_at]
        · simp (disch := omega) only [grd_if, bnI_some, bnL_some, bnV_some, up_app, kds, kls, and_true, true_and, and_self, and_false, false_and, or_true, true_or, or_false, false_or, not_true_eq_false, not_false_eq_true, ite_true, ite_false, if_true, if_false, ↓reduceIte, Int.reduceLT, Int.reduceLE, Int.reduceEq, Int.reduceNe, Int.reduceAdd, Int.reduceSub, Int.reduceMul, Int.reduceNeg, ne_eq, Int.le_refl, Int.lt_irrefl, cmpL_lt0, cmpL_gt0, cmpL_eq0, cmpL_le0, cmpL_ge0, t4]
          omega
        · simp (disch := omega) only [grd_if, bnI_some, bnL_some, bnV_some, up_app, kds, kls, and_true, true_and, and_self, and_false, false_and, or_true, true_or, or_false, false_or, not_true_eq_false, not_false_eq_true, ite_true, ite_false, if_true, if_false, ↓reduceIte, Int.reduceLT, Int.reduceLE, Int.reduceEq, Int.reduceNe, Int.reduceAdd, Int.reduceSub, Int.reduceMul, Int.reduceNeg, ne_eq, Int.le_refl, Int.lt_irrefl, cmpL_lt0, cmpL_gt0, cmpL_eq0, cmpL_le0, cmpL_ge0]
      have hp : up (up (up (up t1 56 5 0) 56 6 (-9)) 56 7 0) 56 5 1 56 5 = 1 := up_at _ _ _ _
      rw [if_pos q1, w1, c_takeC hP.1.1 hP.2.1.1 1 3 (by decide), hP.fgr (by decide)] at hC
      rw [if_pos q1] at h9
      obtain ⟨D, hD⟩ : ∃ D, D = dgt (up (up (up (up t1 56 5 0) 56 6 (-9)) 56 7 0) 56 5 1) := ⟨_, rfl⟩
      rw [← hD] at hC
      by_cases q2 : 1 ≤ D ∧ D ≤ 3
      · obtain ⟨w3, w4, hP1⟩ := hP.on1 hp (dgt_lt (by omega))
        rw [hP.yes1 hp hD (by omega) (by omega) (by rw [bt_14 (by omega)]; exact q2), bnI_some] at h9
        rw [if_pos q2, if_neg (by omega), bnI_some, if_neg (by omega), bnI_some, if_neg (by decide), w3] at hC
        have hP2 := (hP1.c (ru32 (rudf4 hd hP1.1.1 D) 1) (fun q i hq => by rw [up_app, if_neg (by omega), up_app, if_neg (by omega)])).r (ru567 (ru57 hP1.1.2 0 D) 1) (fun q i hq => by rw [up_app, if_neg (by omega), up_app, if_neg (by omega)])
        have z4 : ∀ c, 0 ≤ c → c < 18 → s2 4 c = 0 := fun c x0 x1 => by
          rw [b5 4 c (by omega) (by omega), a3 c x0 x1]
        have hRd : Rd d (up (up (up (up s2 3 1 1) 3 1 (1 + 1)) d 4 D) 3 2 1) (up (up (up (up (up (up (up t1 56 5 0) 56 6 (-9)) 56 7 0) 56 5 1) 56 5 (1 + 1)) 57 0 D) 56 7 1) := by
          refine ⟨hP2, fun c x0 x1 => ?_, fun i x0 x1 => ?_, ?_⟩
          · have zm : 0 ≤ mp c ∧ mp c < 28 := by
              unfold mp
              repeat' split
              all_goals omega
            rw [up_ne (by decide), up_ne (by omega), up_ne (by decide), up_ne (by decide), z4 c x0 x1, up_ne (by decide), up_ne (by decide), up_ne (by decide), up_ne (by decide), up_ne (by decide), up_ne (by decide), up_ne (by decide), (c3 (mp c) zm.1 zm.2).2]
            exact ⟨rfl, Or.inl rfl⟩
          · rw [tv_ne (by omega) ⟨x0, x1⟩, up_ne (by decide)]
            by_cases e : i = 0
            · rw [e, up_at]
              show up _ d 4 D d 4 = D
              exact up_at _ _ _ _
            · have tz : ∀ u : SG, tv (up u d 4 D) d i = tv u d i := fun u => by
                unfold tv
                simp only [up_app]
                repeat' split
                all_goals first | rfl | omega
              rw [tz, tv_ne (by omega) ⟨x0, x1⟩, tv_ne (by omega) ⟨x0, x1⟩, b4 i (by omega) x1, up_ni e, up_ne (by decide), up_ne (by decide), up_ne (by decide), up_ne (by decide), up_ne (by decide), (c3 i x0 x1).1]
          · rw [up_k (by decide)]
            refine TRng.d q2 (up_at _ _ _ _) (fun i x0 x1 => ?_)
            rw [up_ni (by omega), up_ne (by decide), up_ne (by decide), up_ne (by decide), up_ne (by decide), up_ne (by decide), (c3 i (by omega) x1).1]
        have hCn : Cnt (up (up (up (up s2 3 1 1) 3 1 (1 + 1)) d 4 D) 3 2 1) := by
          have zz : ∀ c, 0 ≤ c → c < 18 → (up (up (up (up s2 3 1 1) 3 1 (1 + 1)) d 4 D) 3 2 1) 4 c = 0 := fun c x0 x1 => by
            rw [up_ne (by decide), up_ne (by omega), up_ne (by decide), up_ne (by decide), z4 c x0 x1]
          unfold Cnt S18 SW
          rw [zz 0 (by decide) (by decide), zz 1 (by decide) (by decide), zz 2 (by decide) (by decide), zz 3 (by decide) (by decide), zz 4 (by decide) (by decide), zz 5 (by decide) (by decide), zz 6 (by decide) (by decide), zz 7 (by decide) (by decide), zz 8 (by decide) (by decide), zz 9 (by decide) (by decide), zz 10 (by decide) (by decide), zz 11 (by decide) (by decide), zz 12 (by decide) (by decide), zz 13 (by decide) (by decide), zz 14 (by decide) (by decide), zz 15 (by decide) (by decide), zz 16 (by decide) (by decide), zz 17 (by decide) (by decide)]
          refine ⟨up_at _ _ _ _, ?_⟩
          rw [up_ni (by decide), up_ne (by omega), up_at]
          rfl
        obtain ⟨r, s', t', d1, d2, d3, d4, d5⟩ := l_parts hd 64 _ _ (by have := hP2.2.1.2.1.1; have := hP2.2.1.2.1.2.1; omega) hRd hCn (by rw [up_at, up_at])
        refine ⟨r, s', t', hC.trans d1, h9.trans d2, FcC2.tr ?_ d3, FcR2.tr ?_ d4, d5⟩
        · intro q i y1 y2 y3 y4
          rw [up_app, if_neg (by omega), up_app, if_neg (by omega), up_app, if_neg (by omega), up_app, if_neg (by omega), f2 q i y1 y2 y3 y4]
        · intro q i y1 y2 y3
          rw [up_app, if_neg (by omega), up_app, if_neg (by omega), up_app, if_neg (by omega), up_app, if_neg (by omega), up_app, if_neg (by omega), up_app, if_neg (by omega), up_app, if_neg (by omega), ft q i y2 y3]
      · have hF := (hP.fl1 hp).u57 0 0
        have hRt := ru567 hF.1 1
        rw [hP.no1 hp hD (by intro z; have z3 := z.2.2; rw [bt_14 (by omega)] at z3; omega), bnI_some, g159_62 hRt] at h9
        have e6 : up (up (up (up (up (up (up t1 56 5 0) 56 6 (-9)) 56 7 0) 56 5 1) 56 6 1) 57 0 0) 56 7 1 56 6 = 1 := by
          rw [up_ni (by decide), up_ne (by decide), up_at]
        rw [e6, if_neg (by decide)] at h9
        rw [if_neg q2, if_pos rfl, bnI_some, if_pos rfl, bnI_some, if_pos rfl, up_at] at hC
        refine ⟨1, _, _, hC, h9, ?_, ?_, fun z => by omega⟩
        · intro q i y1 y2 y3 y4
          rw [up_app, if_neg (by omega), f2 q i y1 y2 y3 y4]
        · intro q i y1 y2 y3
          rw [up_app, if_neg (by omega), up_app, if_neg (by omega), up_app, if_neg (by omega), up_app, if_neg (by omega), up_app, if_neg (by omega), up_app, if_neg (by omega), up_app, if_neg (by omega), ft q i y2 y3]
    · rw [if_neg q1, bnI_some, if_pos rfl, p2] at hC
      rw [if_neg q1] at h9
      refine ⟨0, s2, _, hC, h9, f2, fun q i z1 z2 z3 => ?_, fun z => by omega⟩
      rw [up_app, if_neg (by omega), up_app, if_neg (by omega), up_app, if_neg (by omega), ft q i z2 z3]

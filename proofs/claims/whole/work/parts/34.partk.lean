/-! reading a text: a share -/
theorem Rd.done {d : Int} {sC sR sC' sR' : SG} (h : Rd d sC sR) (hP : Pl sC' sR') {c : Int} (h1 : 0 ≤ c ∧ c < 18) (h0 : sC 4 c = 0) (hc : ∀ x, sC' 4 x = if x = c then 1 else sC 4 x) (hr : ∀ x, sR' 59 x = if x = mp c then 1 else sR 59 x) (htv : ∀ i, 0 ≤ i → i < 28 → tv sC' d i = sR' 57 i) (hT : TRng (sR' 57)) (hpl : sC' 3 1 = sC 3 1 + (if 3 ≤ c ∧ c < 12 then 5 else 3)) : Rd d sC' sR' ∧ Gw sC sC' := by
  refine ⟨⟨hP, fun x x0 x1 => ?_, htv, hT⟩, c, h1, h0, hc, hpl⟩
  rw [hc x, hr (mp x)]
  by_cases e : x = c
  · rw [if_pos e, e, if_pos rfl]
    exact ⟨rfl, Or.inr rfl⟩
  · have e2 : mp x ≠ mp c := by
      unfold mp
      repeat' split
      all_goals omega
    rw [if_neg e, if_neg e2]
    exact h.2.1 x x0 x1
theorem opn_of {s s' : SG} {f n : Int} (h : ∀ i, s' 59 i = s 59 i) : opn s' f n = opn s f n := by
  unfold opn
  simp only [h]
theorem c_setShare {d : Int} (hd : d = 32 ∨ d = 37) {s : SG} (hR : RefC s) {k v : Int} (hk : 0 ≤ k ∧ k < 3) : sem 87 0 [aA d, aI k, aI v] [] s = some (aU, up s (d + 1) k v) := by
  rw [g87_0 hd hR, c_isKind, bnI_some, if_pos hk, if_neg (by decide), g_t hk]
set_option maxHeartbeats 4000000 in
theorem p_K {d : Int} (hd : d = 32 ∨ d = 37) {sC sR : SG} (h : Rd d sC sR) (hl : sR 56 5 < sR 56 4) : ∃ b sC' sR', sem 35 0 [aA 3, aA 1, aA d, aU, aU] [] sC = some (aI b, sC') ∧ sem 160 0 [aA 56, aI 75, aU, aU, aU, aU, aU] [] sR = some (aU, sR') ∧ Res d sC sR b sC' sR' := by
  have hP := h.1
  have hT := h.2.1
  have hV := h.2.2.1
  have hG := h.2.2.2
  have hRC := hP.1.1
  have hRR := hP.1.2
  have hp5 := hP.2.1.2.1.2.1
  obtain ⟨r, e1, e2⟩ := c_allTold (f := 0) (m := 3) (by decide) hRC
  have h9 := c_head hRR hG.1 rfl 75
  rw [if_pos rfl, c_open hRR (by decide) (by decide), bnI_some] at h9
  have hm : ∀ D : Int, 0 ≤ D → D < 3 → sC 4 D = sR 59 (1 + D) := fun D d0 d1 => by
    have := (hT D d0 (by omega)).1
    unfold mp at this
    rw [if_pos d1] at this
    exact this
  have m0 : sC 4 0 = sR 59 1 := hm 0 (by decide) (by decide)
  have m1 : sC 4 1 = sR 59 (1 + 1) := hm 1 (by decide) (by decide)
  have m2 : sC 4 2 = sR 59 (1 + 2) := hm 2 (by decide) (by decide)
  have eo : opn sR 1 3 = msk (sC 4 0 = 0) (sC 4 1 = 0) (sC 4 2 = 0) := by
    unfold opn
    rw [m0, m1, m2]
    simp only [Int.reduceLT, true_and]
  by_cases q : opn sR 1 3 = 0
  · have r1 : r = 1 := by
      rw [eo, msk_0] at q
      rcases e2 with e2 | ⟨-, c, c0, c1, c2⟩
      · exact e2.1
      · have : c = 0 ∨ c = 1 ∨ c = 2 := by omega
        rcases this with rfl | rfl | rfl
        · exact absurd c2 q.1
        · exact absurd c2 q.2.1
        · exact absurd c2 q.2.2
    refine ⟨0, sC, _, ?_, ?_, Rd.stop hP⟩
    · rw [g35_0 hd hRC, e1, bnI_some, r1, if_neg (by decide)]
    · rw [h9, if_pos q, g160_151 hRR, if_neg (by decide), g160_248 hRR, if_neg (by decide), if_neg (by decide), if_neg (by decide), if_neg (by decide), c_none hRR]
  · have r0 : r = 0 := by
      rcases e2 with ⟨-, e2⟩ | e2
      · exfalso
        apply q
        rw [eo, msk_0]
        exact ⟨e2 0 (by decide) (by decide), e2 1 (by decide) (by decide), e2 2 (by decide) (by decide)⟩
      · exact e2.1
    clear e2
    obtain ⟨w1, w2, hP1⟩ := hP.on hl
    rw [if_neg q, w2, c_open (ru565 hRR _) (by decide) (by decide), bnI_some, opn_of (fun i => up_ne (by decide) _), eo] at h9
    have hC : sem 35 0 [aA 3, aA 1, aA d, aU, aU] [] sC = _ := g35_0 hd hRC
    rw [e1, bnI_some, r0, if_pos rfl, w1, c_untold hP1.1.1 hP1.2.1.1 2 0 (by decide) (by decide), hP1.fgr (by decide)] at hC
    obtain ⟨D, hD⟩ : ∃ D, D = dgt (up sR 56 5 (sR 56 5 + 1)) := ⟨_, rfl⟩
    rw [← hD] at hC
    by_cases q1 : 0 ≤ D ∧ D ≤ 2 ∧ sC 4 D = 0
    · have bt : Bt (msk (sC 4 0 = 0) (sC 4 1 = 0) (sC 4 2 = 0)) (dgt (up sR 56 5 (sR 56 5 + 1))) := by
        rw [← hD, bt_msk (by omega)]
        have : D = 0 ∨ D = 1 ∨ D = 2 := by omega
        rcases this with rfl | rfl | rfl
        · exact Or.inl ⟨rfl, q1.2.2⟩
        · exact Or.inr (Or.inl ⟨rfl, q1.2.2⟩)
        · exact Or.inr (Or.inr ⟨rfl, q1.2.2⟩)
      have hl1 := dgt_lt (s := up sR 56 5 (sR 56 5 + 1)) (by omega)
      have hP1' := hP1.c (ru4 hP1.1.1 D 1) (fun q i hq => up_ne (by omega) _)
      obtain ⟨w3, w4, hP2⟩ := hP1'.on hl1
      rw [up_ne (by decide)] at w3
      rw [if_pos (show 0 ≤ D ∧ D ≤ 2 from ⟨q1.1, q1.2.1⟩), if_neg (by omega), Int.zero_add, up_ne (by decide), if_pos q1.2.2, bnI_some, if_neg (by omega), w3] at hC
      have wD : w32 (1 + D) = 1 + D := w32_id (by omega) (by omega)
      rw [hP1.yes (by omega) (by omega) bt, bnI_some, ← hD, wD, g_t (by omega)] at h9
      have hP3 := hP2.r (ru59 hP2.1.2 (1 + D) 1) (fun q i hq => up_ne (by omega) _)
      rw [c_takeC hP2.1.1 hP2.2.1.1 1 9 (by decide), hP3.fgr (by decide)] at hC
      obtain ⟨E, hE⟩ : ∃ E, E = dgt (up (up (up sR 56 5 (sR 56 5 + 1)) 56 5 (up sR 56 5 (sR 56 5 + 1) 56 5 + 1)) 59 (1 + D) 1) := ⟨_, rfl⟩
      rw [← hE] at hC
      by_cases q3 : 1 ≤ E ∧ E ≤ 9
      · have hl2 := dgt_lt (s := (up (up (up sR 56 5 (sR 56 5 + 1)) 56 5 (up sR 56 5 (sR 56 5 + 1) 56 5 + 1)) 59 (1 + D) 1)) (by omega)
        obtain ⟨w5, w6, hP4⟩ := hP3.on hl2
        rw [if_pos q3, if_neg (by omega), bnI_some, if_neg (by omega), w5, c_setShare hd hP4.1.1 (by omega), bnV_some] at hC
        rw [hP3.yes (m := 1022) (by omega) (by omega) (by rw [← hE, bt_1022 (by omega)]; omega), bnI_some, ← hE] at h9
        have hP5 := (hP4.c (rud1 hd hP4.1.1 D E) (fun q i hq => up_ne (by omega) _)).r (ru57 hP4.1.2 (1 + D) E) (fun q i hq => up_ne (by omega) _)
        refine ⟨1, _, _, hC, h9, ?_, ?_, Or.inl ⟨rfl, ?_⟩⟩
        · intro q i z1 z2 z3 z4
          simp only [up_app]
          repeat rw [if_neg (by omega)]
        · intro q i z1 z2 z3
          simp only [up_app]
          repeat rw [if_neg (by omega)]
        · refine h.done hP5 (c := D) (by omega) q1.2.2 (fun x => ?_) (fun x => ?_) (fun i i0 i1 => ?_) ?_ ?_
          · rw [up_ne (by omega), up_ne (by decide), up_ne (by decide), up_app, up_ne (by decide)]
            simp only [true_and]
          · have : mp D = 1 + D := by unfold mp; rw [if_pos (by omega)]
            rw [this, up_ne (by decide), up_ne (by decide), up_app, up_ne (by decide), up_ne (by decide)]
            simp only [true_and]
          · rw [tv_u1 (by omega) ⟨i0, i1⟩, tv_ne (by omega) ⟨i0, i1⟩, tv_ne (by omega) ⟨i0, i1⟩, tv_ne (by omega) ⟨i0, i1⟩, tv_ne (by omega) ⟨i0, i1⟩, up_app]
            simp only [true_and]
            rw [up_ne (by decide), up_ne (by decide), up_ne (by decide), up_ne (by decide), hV i i0 i1]
          · refine TRng.u ?_ (by omega) (fun _ _ => q3) (by omega) (by omega) (by omega) (by omega)
            have z : ∀ i, (up (up (up (up sR 56 5 (sR 56 5 + 1)) 56 5 (up sR 56 5 (sR 56 5 + 1) 56 5 + 1)) 59 (1 + D) 1) 56 5 ((up (up (up sR 56 5 (sR 56 5 + 1)) 56 5 (up sR 56 5 (sR 56 5 + 1) 56 5 + 1)) 59 (1 + D) 1) 56 5 + 1)) 57 i = sR 57 i := fun i => by
              rw [up_ne (by decide), up_ne (by decide), up_ne (by decide), up_ne (by decide)]
            rw [show (up (up (up (up sR 56 5 (sR 56 5 + 1)) 56 5 (up sR 56 5 (sR 56 5 + 1) 56 5 + 1)) 59 (1 + D) 1) 56 5 ((up (up (up sR 56 5 (sR 56 5 + 1)) 56 5 (up sR 56 5 (sR 56 5 + 1) 56 5 + 1)) 59 (1 + D) 1) 56 5 + 1)) 57 = sR 57 from funext z]
            exact hG
          · have := hP.2.2.1
            rw [if_neg (by omega), this]
            simp (disch := omega) only [grd_if, bnI_some, bnL_some, bnV_some, up_app, kds, kls, and_true, true_and, and_self, and_false, false_and, or_true, true_or, or_false, false_or, not_true_eq_false, not_false_eq_true, ite_true, ite_false, if_true, if_false, ↓reduceIte, Int.reduceLT, Int.reduceLE, Int.reduceEq, Int.reduceNe, Int.reduceAdd, Int.reduceSub, Int.reduceMul, Int.reduceNeg, ne_eq, Int.le_refl, Int.lt_irrefl, cmpL_lt0, cmpL_gt0, cmpL_eq0, cmpL_le0, cmpL_ge0]
            omega
      · have hF := hP3.fl.u57 (1 + D) 0
        rw [if_neg q3, if_pos rfl, bnI_some, if_pos rfl] at hC
        rw [hP3.no (m := 1022) (by rw [← hE]; intro z; have z3 := z.2.2; rw [bt_1022 (by omega)] at z3; omega), bnI_some] at h9
        refine ⟨0, _, _, hC, h9, ?_, ?_, Or.inr ⟨rfl, ?_, ?_⟩⟩
        · intro q i z1 z2 z3 z4
          simp only [up_app]
          repeat rw [if_neg (by omega)]
        · intro q i z1 z2 z3
          simp only [up_app]
          repeat rw [if_neg (by omega)]
        · simp (disch := omega) only [grd_if, bnI_some, bnL_some, bnV_some, up_app, kds, kls, and_true, true_and, and_self, and_false, false_and, or_true, true_or, or_false, false_or, not_true_eq_false, not_false_eq_true, ite_true, ite_false, if_true, if_false, ↓reduceIte, Int.reduceLT, Int.reduceLE, Int.reduceEq, Int.reduceNe, Int.reduceAdd, Int.reduceSub, Int.reduceMul, Int.reduceNeg, ne_eq, Int.le_refl, Int.lt_irrefl, cmpL_lt0, cmpL_gt0, cmpL_eq0, cmpL_le0, cmpL_ge0]
        · simp (disch := omega) only [grd_if, bnI_some, bnL_some, bnV_some, up_app, kds, kls, and_true, true_and, and_self, and_false, false_and, or_true, true_or, or_false, false_or, not_true_eq_false, not_false_eq_true, ite_true, ite_false, if_true, if_false, ↓reduceIte, Int.reduceLT, Int.reduceLE, Int.reduceEq, Int.reduceNe, Int.reduceAdd, Int.reduceSub, Int.reduceMul, Int.reduceNeg, ne_eq, Int.le_refl, Int.lt_irrefl, cmpL_lt0, cmpL_gt0, cmpL_eq0, cmpL_le0, cmpL_ge0]
          omega
    · have nb : ¬ (0 ≤ dgt (up sR 56 5 (sR 56 5 + 1)) ∧ dgt (up sR 56 5 (sR 56 5 + 1)) ≤ 9 ∧ Bt (msk (sC 4 0 = 0) (sC 4 1 = 0) (sC 4 2 = 0)) (dgt (up sR 56 5 (sR 56 5 + 1)))) := by
        rw [← hD]
        intro z
        have z3 := z.2.2
        rw [bt_msk (by omega)] at z3
        rcases z3 with ⟨rfl, z3⟩ | ⟨rfl, z3⟩ | ⟨rfl, z3⟩ <;> exact q1 ⟨by decide, by decide, z3⟩
      have hF := hP1.fl.u59 1 1
      have k10 : w32 (1 + 0) = 1 := rfl
      rw [hP1.no nb, bnI_some, k10, g_t (by decide), hF.f, bnI_some] at h9
      have hC' : sem 35 0 [aA 3, aA 1, aA d, aU, aU] [] sC = some (aI 0, up sC 3 1 (sR 56 5 + 1)) := by
        rw [hC]
        by_cases q2 : 0 ≤ D ∧ D ≤ 2
        · rw [if_pos q2, if_neg (by omega), Int.zero_add, up_ne (by decide), if_neg (fun z => q1 ⟨q2.1, q2.2, z⟩), bnI_some, if_pos rfl, if_pos rfl]
        · rw [if_neg q2, if_pos rfl, bnI_some, if_pos rfl, if_pos rfl]
      refine ⟨0, _, _, hC', h9, ?_, ?_, Or.inr ⟨rfl, ?_, ?_⟩⟩
      · intro q i z1 z2 z3 z4
        simp only [up_app]
        repeat rw [if_neg (by omega)]
      · intro q i z1 z2 z3
        simp only [up_app]
        repeat rw [if_neg (by omega)]
      · simp (disch := omega) only [grd_if, bnI_some, bnL_some, bnV_some, up_app, kds, kls, and_true, true_and, and_self, and_false, false_and, or_true, true_or, or_false, false_or, not_true_eq_false, not_false_eq_true, ite_true, ite_false, if_true, if_false, ↓reduceIte, Int.reduceLT, Int.reduceLE, Int.reduceEq, Int.reduceNe, Int.reduceAdd, Int.reduceSub, Int.reduceMul, Int.reduceNeg, ne_eq, Int.le_refl, Int.lt_irrefl, cmpL_lt0, cmpL_gt0, cmpL_eq0, cmpL_le0, cmpL_ge0]
      · simp (disch := omega) only [grd_if, bnI_some, bnL_some, bnV_some, up_app, kds, kls, and_true, true_and, and_self, and_false, false_and, or_true, true_or, or_false, false_or, not_true_eq_false, not_false_eq_true, ite_true, ite_false, if_true, if_false, ↓reduceIte, Int.reduceLT, Int.reduceLE, Int.reduceEq, Int.reduceNe, Int.reduceAdd, Int.reduceSub, Int.reduceMul, Int.reduceNeg, ne_eq, Int.le_refl, Int.lt_irrefl, cmpL_lt0, cmpL_gt0, cmpL_eq0, cmpL_le0, cmpL_ge0]
        omega

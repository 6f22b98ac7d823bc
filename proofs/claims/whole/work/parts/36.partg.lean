/-! reading a text: where one goes on to -/
theorem c_setNext {d : Int} (hd : d = 32 ∨ d = 37) {s : SG} (hR : RefC s) {k v : Int} (hk : 0 ≤ k ∧ k < s d 4 ∧ k < 3) : sem 89 0 [aA d, aI k, aI v] [] s = some (aU, up s (d + 4) k v) := by
  have hk6 : kd d = 6 := (kd_t hd).1
  rw [g89_0 hd hR, c_hasCorner _ _ _ hk6, bnI_some, if_pos hk, if_neg (by decide), g_t (by omega)]
set_option maxHeartbeats 4000000 in
theorem p_G {d : Int} (hd : d = 32 ∨ d = 37) {sC sR : SG} (h : Rd d sC sR) (hl : sR 56 5 < sR 56 4) : ∃ b sC' sR', sem 37 0 [aA 3, aA 1, aA d, aU, aU] [] sC = some (aI b, sC') ∧ sem 160 0 [aA 56, aI 71, aU, aU, aU, aU, aU] [] sR = some (aU, sR') ∧ Res d sC sR b sC' sR' := by
  have hP := h.1
  have hT := h.2.1
  have hV := h.2.2.1
  have hG := h.2.2.2
  have hRC := hP.1.1
  have hRR := hP.1.2
  have hp5 := hP.2.1.2.1.2.1
  obtain ⟨p, hp⟩ : ∃ p, sR 56 5 = p := ⟨_, rfl⟩
  obtain ⟨n, hn⟩ : ∃ n, sR 57 0 = n := ⟨_, rfl⟩
  have hn4 : sC d 4 = n := (hV 0 (by decide) (by decide)).trans hn
  have n3 : 1 ≤ n ∧ n ≤ 3 := by rw [← hn]; exact hG.1
  have h9 : sem 160 0 [aA 56, aI 71, aU, aU, aU, aU, aU] [] sR = sem 160 248 [aA 56, aI 71, aI n, aU, aI (-9), aU, aU] [] sR := by
    rw [c_head hRR n3 hn 71, if_neg (by decide), g160_151 hRR, if_neg (by decide), if_neg (by decide), if_neg (by decide), if_neg (by decide)]
  rw [g160_248 hRR, if_pos rfl, c_none hRR, hp] at h9
  have hC : sem 37 0 [aA 3, aA 1, aA d, aU, aU] [] sC = _ := g37_0 hd hRC
  rw [hn4] at hC
  have hSt : Res d sC sR 0 sC (up sR 56 6 p) := by
    rw [← hp]; exact Rd.stop hP
  by_cases q0 : n = 1
  · rw [if_pos q0] at hC
    rw [if_neg (by omega)] at h9
    exact ⟨0, sC, _, hC, h9, hSt⟩
  · rw [if_neg q0] at hC
    rw [if_pos (by omega), c_open hRR (by omega) (by omega), bnI_some] at h9
    obtain ⟨r, e1, e2⟩ := c_allTold (f := 12) (m := n) (by omega) hRC
    have hm : ∀ D : Int, 0 ≤ D → D < 3 → sC 4 (12 + D) = sR 59 (7 + D) := fun D d0 d1 => by
      have := (hT (12 + D) (by omega) (by omega)).1
      unfold mp at this
      rw [if_neg (by omega), if_neg (by omega), if_pos (by omega)] at this
      rw [this]
      congr 1
      omega
    have m0 : sC 4 (12 + 0) = sR 59 7 := hm 0 (by decide) (by decide)
    have m1 : sC 4 (12 + 1) = sR 59 (7 + 1) := hm 1 (by decide) (by decide)
    have m2 : sC 4 (12 + 2) = sR 59 (7 + 2) := hm 2 (by decide) (by decide)
    have eo : opn sR 7 n = msk (0 < n ∧ sC 4 (12 + 0) = 0) (1 < n ∧ sC 4 (12 + 1) = 0) (2 < n ∧ sC 4 (12 + 2) = 0) := by
      unfold opn
      rw [m0, m1, m2]
    by_cases q : opn sR 7 n = 0
    · have r1 : r = 1 := by
        rw [eo, msk_0] at q
        rcases e2 with e2 | ⟨-, c, c0, c1, c2⟩
        · exact e2.1
        · have : c = 12 + 0 ∨ c = 12 + 1 ∨ c = 12 + 2 := by omega
          rcases this with rfl | rfl | rfl
          · exact absurd ⟨by omega, c2⟩ q.1
          · exact absurd ⟨by omega, c2⟩ q.2.1
          · exact absurd ⟨by omega, c2⟩ q.2.2
      rw [if_pos q, c_none hRR, hp] at h9
      rw [e1, bnI_some, r1, if_neg (by decide)] at hC
      exact ⟨0, sC, _, hC, h9, hSt⟩
    · have r0 : r = 0 := by
        rcases e2 with ⟨-, e2⟩ | e2
        · exfalso
          apply q
          rw [eo, msk_0]
          refine ⟨fun z => e2 (12 + 0) (by omega) (by omega) z.2, fun z => e2 (12 + 1) (by omega) (by omega) z.2, fun z => e2 (12 + 2) (by omega) (by omega) z.2⟩
        · exact e2.1
      clear e2
      obtain ⟨w1, w2, hP1⟩ := hP.on1 hp hl
      have hp1 : up sR 56 5 (p + 1) 56 5 = p + 1 := up_at _ _ _ _
      have wn : w32 (n - 1) = n - 1 := w32_id (by omega) (by omega)
      rw [if_neg q, w2, c_open (ru565 hRR _) (by omega) (by omega), bnI_some, opn_of (fun i => up_ne (by decide) _), eo] at h9
      rw [e1, bnI_some, r0, if_pos rfl, w1, hn4, wn, c_untold hP1.1.1 hP1.2.1.1 (n - 1) 12 (by omega) (by decide), hP1.fgr (by decide)] at hC
      obtain ⟨D, hD⟩ : ∃ D, D = dgt (up sR 56 5 (p + 1)) := ⟨_, rfl⟩
      rw [← hD] at hC
      by_cases q1 : 0 ≤ D ∧ D < n ∧ sC 4 (12 + D) = 0
      · have bt : Bt (msk (0 < n ∧ sC 4 (12 + 0) = 0) (1 < n ∧ sC 4 (12 + 1) = 0) (2 < n ∧ sC 4 (12 + 2) = 0)) D := by
          rw [bt_msk (by omega)]
          have : D = 0 ∨ D = 1 ∨ D = 2 := by omega
          rcases this with rfl | rfl | rfl
          · exact Or.inl ⟨rfl, q1.2⟩
          · exact Or.inr (Or.inl ⟨rfl, q1.2⟩)
          · exact Or.inr (Or.inr ⟨rfl, q1.2⟩)
        have hP1' := hP1.c (ru4 hP1.1.1 (12 + D) 1) (fun q i hq => up_ne (by omega) _)
        obtain ⟨w3, w4, hP2⟩ := hP1'.on1 hp1 (dgt_lt (by omega))
        rw [up_ne (by decide)] at w3
        have hp2 : up (up (up sR 56 5 (p + 1)) 56 5 (p + 1 + 1)) 59 (7 + D) 1 56 5 = p + 1 + 1 := by rw [up_ne (by decide), up_at]
        have wD : w32 (7 + D) = 7 + D := w32_id (by omega) (by omega)
        have hd4 : up (up (up sC 3 1 (p + 1)) 4 (12 + D) 1) 3 1 (p + 1 + 1) d 4 = n := by
          rw [up_ne (by omega), up_ne (by omega), up_ne (by omega), hn4]
        rw [if_pos (show 0 ≤ D ∧ D ≤ n - 1 by omega), if_neg (by omega), up_ne (by decide), if_pos q1.2.2, bnI_some, if_neg (by omega), w3, hd4, wn] at hC
        rw [hP1.yes1 hp1 hD (by omega) (by omega) bt, bnI_some, wD, g_t (by omega)] at h9
        have hP3 := hP2.r (ru59 hP2.1.2 (7 + D) 1) (fun q i hq => up_ne (by omega) _)
        rw [c_fig hP2.1.1 hP2.2.1.1 0 (n - 1), hP3.fgr (by decide), bnI_some] at hC
        obtain ⟨E, hE⟩ : ∃ E, E = dgt (up (up (up sR 56 5 (p + 1)) 56 5 (p + 1 + 1)) 59 (7 + D) 1) := ⟨_, rfl⟩
        rw [← hE] at hC
        by_cases q3 : 0 ≤ E ∧ E < n ∧ E ≠ D
        · obtain ⟨w5, w6, hP4⟩ := hP3.on1 hp2 (dgt_lt (by omega))
          rw [hP3.yes1 hp2 hE (by omega) (by omega) (by rw [bt_nx (by omega) (by omega) (by omega)]; exact q3.2), bnI_some] at h9
          rw [if_pos (show 0 ≤ E ∧ E ≤ n - 1 by omega), g37_70 hd hP2.1.1, if_neg (by omega), if_neg q3.2.2, w5, c_setNext hd hP4.1.1 (by rw [up_ne (by omega), hd4]; omega), bnV_some] at hC
          have hP5 := (hP4.c (rud4 hd hP4.1.1 D E) (fun q i hq => up_ne (by omega) _)).r (ru57 hP4.1.2 (7 + D) E) (fun q i hq => up_ne (by omega) _)
          refine ⟨1, _, _, hC, h9, ?_, ?_, Or.inl ⟨rfl, ?_⟩⟩
          · intro q i z1 z2 z3 z4
            simp only [up_app]
            repeat rw [if_neg (by omega)]
          · intro q i z1 z2 z3
            simp only [up_app]
            repeat rw [if_neg (by omega)]
          · refine h.done hP5 (c := 12 + D) (by omega) q1.2.2 (fun x => ?_) (fun x => ?_) (fun i i0 i1 => ?_) ?_ ?_
            · rw [up_ne (by omega), up_ne (by decide), up_ne (by decide), up_app, up_ne (by decide)]
              simp only [true_and]
            · have : mp (12 + D) = 7 + D := by
                unfold mp
                rw [if_neg (by omega), if_neg (by omega), if_pos (by omega)]
                omega
              rw [this, up_ne (by decide), up_ne (by decide), up_app, up_ne (by decide), up_ne (by decide)]
              simp only [true_and]
            · rw [tv_u4 (by omega) ⟨i0, i1⟩, tv_ne (by omega) ⟨i0, i1⟩, tv_ne (by omega) ⟨i0, i1⟩, tv_ne (by omega) ⟨i0, i1⟩, tv_ne (by omega) ⟨i0, i1⟩, up_app]
              simp only [true_and]
              rw [up_ne (by decide), up_ne (by decide), up_ne (by decide), up_ne (by decide), hV i i0 i1]
            · refine TRng.u ?_ (by omega) (by omega) (by omega) (fun _ _ => ?_) (by omega) (by omega)
              · rw [up_k (by decide), up_k (by decide), up_k (by decide), up_k (by decide)]
                exact hG
              · rw [up_ne (by decide), up_ne (by decide), up_ne (by decide), up_ne (by decide), hn]
                omega
            · have := hP.2.2.1
              rw [if_neg (by omega), this, hp]
              simp (disch := omega) only [grd_if, bnI_some, bnL_some, bnV_some, up_app, kds, kls, and_true, true_and, and_self, and_false, false_and, or_true, true_or, or_false, false_or, not_true_eq_false, not_false_eq_true, ite_true, ite_false, if_true, if_false, ↓reduceIte, Int.reduceLT, Int.reduceLE, Int.reduceEq, Int.reduceNe, Int.reduceAdd, Int.reduceSub, Int.reduceMul, Int.reduceNeg, ne_eq, Int.le_refl, Int.lt_irrefl, cmpL_lt0, cmpL_gt0, cmpL_eq0, cmpL_le0, cmpL_ge0]
              omega
        · have hC' : sem 37 0 [aA 3, aA 1, aA d, aU, aU] [] sC = some (aI 0, up (up (up sC 3 1 (p + 1)) 4 (12 + D) 1) 3 1 (p + 1 + 1)) := by
            rw [hC, g37_70 hd hP2.1.1]
            by_cases q4 : 0 ≤ E ∧ E ≤ n - 1
            · rw [if_pos q4, if_neg (by omega), if_pos (by omega)]
            · rw [if_neg q4, if_pos rfl]
          rw [hP3.no1 hp2 hE (by intro z; have z3 := z.2.2; rw [bt_nx (by omega) (by omega) (by omega)] at z3; omega), bnI_some] at h9
          refine ⟨0, _, _, hC', h9, ?_, ?_, Or.inr ⟨rfl, ?_, ?_⟩⟩
          · intro q i z1 z2 z3 z4
            simp only [up_app]
            repeat rw [if_neg (by omega)]
          · intro q i z1 z2 z3
            simp only [up_app]
            repeat rw [if_neg (by omega)]
          · simp (disch := omega) only [grd_if, bnI_some, bnL_some, bnV_some, up_app, kds, kls, and_true, true_and, and_self, and_false, false_and, or_true, true_or, or_false, false_or, not_true_eq_false, not_false_eq_true, ite_true, ite_false, if_true, if_false, ↓reduceIte, Int.reduceLT, Int.reduceLE, Int.reduceEq, Int.reduceNe, Int.reduceAdd, Int.reduceSub, Int.reduceMul, Int.reduceNeg, ne_eq, Int.le_refl, Int.lt_irrefl, cmpL_lt0, cmpL_gt0, cmpL_eq0, cmpL_le0, cmpL_ge0]
          · simp (disch := omega) only [grd_if, bnI_some, bnL_some, bnV_some, up_app, kds, kls, and_true, true_and, and_self, and_false, false_and, or_true, true_or, or_false, false_or, not_true_eq_false, not_false_eq_true, ite_true, ite_false, if_true, if_false, ↓reduceIte, Int.reduceLT, Int.reduceLE, Int.reduceEq, Int.reduceNe, Int.reduceAdd, Int.reduceSub, Int.reduceMul, Int.reduceNeg, ne_eq, Int.le_refl, Int.lt_irrefl, cmpL_lt0, cmpL_gt0, cmpL_eq0, cmpL_le0, cmpL_ge0]
            omega
      · have nb : ¬ (0 ≤ D ∧ D ≤ 9 ∧ Bt (msk (0 < n ∧ sC 4 (12 + 0) = 0) (1 < n ∧ sC 4 (12 + 1) = 0) (2 < n ∧ sC 4 (12 + 2) = 0)) D) := by
          intro z
          have z3 := z.2.2
          rw [bt_msk (by omega)] at z3
          rcases z3 with ⟨rfl, z3⟩ | ⟨rfl, z3⟩ | ⟨rfl, z3⟩ <;> exact q1 ⟨by decide, z3⟩
        have hF := (hP1.fl1 hp1).u59 7 1
        have k10 : w32 (7 + 0) = 7 := rfl
        rw [hP1.no1 hp1 hD nb, bnI_some, k10, g_t (by decide), hF.f, bnI_some] at h9
        have hC' : sem 37 0 [aA 3, aA 1, aA d, aU, aU] [] sC = some (aI 0, up sC 3 1 (p + 1)) := by
          rw [hC]
          by_cases q2 : 0 ≤ D ∧ D ≤ n - 1
          · rw [if_pos q2, if_neg (by omega), up_ne (by decide), if_neg (fun z => q1 ⟨q2.1, by omega, z⟩), bnI_some, if_pos rfl, g37_70 hd hP1.1.1, if_pos rfl]
          · rw [if_neg q2, if_pos rfl, bnI_some, if_pos rfl, g37_70 hd hP1.1.1, if_pos rfl]
        refine ⟨0, _, _, hC', h9, ?_, ?_, Or.inr ⟨rfl, ?_, ?_⟩⟩
        · intro q i z1 z2 z3 z4
          simp only [up_app]
          repeat rw [if_neg (by omega)]
        · intro q i z1 z2 z3
          simp only [up_app]
          repeat rw [if_neg (by omega)]
        · simp (disch := omega) only [grd_if, bnI_some, bnL_some, bnV_some, up_app, kds, kls, and_true, true_and, and_self, and_false, false_and, or_true, true_or, or_false, false_or, not_true_eq_false, not_false_eq_true, ite_true, ite_false, if_true, if_false, ↓reduceIte, Int.reduceLT, Int.reduceLE, Int.reduceEq, Int.reduceNe, Int.reduceAdd, Int.reduceSub, Int.reduceMul, Int.reduceNeg, ne_eq, Int.le_refl, Int.lt_irrefl, cmpL_lt0, cmpL_gt0, cmpL_eq0, cmpL_le0, cmpL_ge0]
        · simp (disch := omega) only [grd_if, bnI_some, bnL_some, bnV_some, up_app, kds, kls, and_true, true_and, and_self, and_false, false_and, or_true, true_or, or_false, false_or, not_true_eq_false, not_false_eq_true, ite_true, ite_false, if_true, if_false, ↓reduceIte, Int.reduceLT, Int.reduceLE, Int.reduceEq, Int.reduceNe, Int.reduceAdd, Int.reduceSub, Int.reduceMul, Int.reduceNeg, ne_eq, Int.le_refl, Int.lt_irrefl, cmpL_lt0, cmpL_gt0, cmpL_eq0, cmpL_le0, cmpL_ge0]
          omega

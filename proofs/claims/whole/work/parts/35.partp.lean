/-! reading a text: a price -/
theorem Pl.on1 {sC sR : SG} (h : Pl sC sR) {p : Int} (hp : sR 56 5 = p) (hl : sR 56 5 < sR 56 4) : w32 (sC 3 1 + 1) = p + 1 ∧ w32 (sR 56 5 + 1) = p + 1 ∧ Pl (up sC 3 1 (p + 1)) (up sR 56 5 (p + 1)) := by
  subst hp
  exact h.on hl
theorem Pl.yes1 {sC sR : SG} (h : Pl sC sR) {p m D : Int} (hp : sR 56 5 = p) (hD : D = dgt sR) (h1 : 0 ≤ D) (h2 : D ≤ 9) (h3 : Bt m D) : sem 157 0 [aA 56, aI m, aU] [] sR = some (aI D, up sR 56 5 (p + 1)) := by
  subst hp
  subst hD
  exact h.yes h1 h2 h3
theorem Pl.no1 {sC sR : SG} (h : Pl sC sR) {p m D : Int} (hp : sR 56 5 = p) (hD : D = dgt sR) (h1 : ¬ (0 ≤ D ∧ D ≤ 9 ∧ Bt m D)) : sem 157 0 [aA 56, aI m, aU] [] sR = some (aI 0, up sR 56 6 p) := by
  subst hp
  subst hD
  exact h.no h1
theorem Pl.fl1 {sC sR : SG} (h : Pl sC sR) {p : Int} (hp : sR 56 5 = p) : Fl (up sR 56 6 p) := by
  subst hp
  exact h.fl
theorem up_k {s : SG} {q i v k : Int} (h : k ≠ q) : up s q i v k = s k := funext fun j => up_ne h j
set_option maxHeartbeats 4000000 in
theorem p_P {d : Int} (hd : d = 32 ∨ d = 37) {sC sR : SG} (h : Rd d sC sR) (hl : sR 56 5 < sR 56 4) {t f b0 : Int} (ht : (t = 15 ∧ f = 4 ∧ b0 = 67) ∨ (t = 16 ∧ f = 5 ∧ b0 = 80) ∨ (t = 17 ∧ f = 6 ∧ b0 = 82)) : ∃ b sC' sR', sem 38 0 [aA 3, aA 1, aA d, aI t, aU, aU, aU] [] sC = some (aI b, sC') ∧ sem 160 0 [aA 56, aI b0, aU, aU, aU, aU, aU] [] sR = some (aU, sR') ∧ Res d sC sR b sC' sR' := by
  have hP := h.1
  have hT := h.2.1
  have hV := h.2.2.1
  have hG := h.2.2.2
  have hRC := hP.1.1
  have hRR := hP.1.2
  have hp5 := hP.2.1.2.1.2.1
  have mt : mp t = f := by
    unfold mp
    rcases ht with ⟨rfl, rfl, rfl⟩ | ⟨rfl, rfl, rfl⟩ | ⟨rfl, rfl, rfl⟩ <;> rfl
  have tt := hT t (by omega) (by omega)
  rw [mt] at tt
  obtain ⟨p, hp⟩ : ∃ p, sR 56 5 = p := ⟨_, rfl⟩
  have h9 : sem 160 0 [aA 56, aI b0, aU, aU, aU, aU, aU] [] sR = sem 160 332 [aA 56, aU, aU, aU, aI f, aU, aU] [] sR := by
    rw [c_head hRR hG.1 rfl b0, if_neg (by omega), g160_151 hRR, if_neg (by omega), g160_248 hRR, if_neg (by omega)]
    rcases ht with ⟨rfl, rfl, rfl⟩ | ⟨rfl, rfl, rfl⟩ | ⟨rfl, rfl, rfl⟩ <;> simp
  rw [g160_332 hRR, if_neg (by omega), g_t (by omega)] at h9
  have hC : sem 38 0 [aA 3, aA 1, aA d, aI t, aU, aU, aU] [] sC = _ := g38_0 hd hRC t
  rw [c_tell hRC t (by omega)] at hC
  by_cases q : sR 59 f = 0
  · obtain ⟨-, w2, -⟩ := hP.on1 hp hl
    have hP0 := hP.c (ru4 hRC t 1) (fun q i hq => up_ne (by omega) _)
    obtain ⟨w1, -, hP1⟩ := hP0.on1 hp hl
    have hP2 := hP1.r (ru59 hP1.1.2 f 1) (fun q i hq => up_ne (by omega) _)
    rw [if_pos q, w2] at h9
    rw [if_pos (by rw [tt.1]; exact q), bnI_some, if_neg (by decide), w1, c_takeC hP2.1.1 hP2.2.1.1 0 9 (by decide), hP2.fgr (by decide)] at hC
    have hp2 : up (up sR 56 5 (p + 1)) 59 f 1 56 5 = p + 1 := by rw [up_ne (by decide), up_at]
    obtain ⟨D, hD⟩ : ∃ D, D = dgt (up (up sR 56 5 (p + 1)) 59 f 1) := ⟨_, rfl⟩
    rw [← hD] at hC
    by_cases q1 : 0 ≤ D ∧ D ≤ 9
    · obtain ⟨w3, w4, hP3⟩ := hP2.on1 hp2 (dgt_lt (by omega))
      have hp3 : up (up (up sR 56 5 (p + 1)) 59 f 1) 56 5 (p + 1 + 1) 56 5 = p + 1 + 1 := up_at _ _ _ _
      rw [hP2.yes1 hp2 hD q1.1 q1.2 (bt_1023 q1), bnI_some] at h9
      rw [if_pos q1, if_neg (by omega), bnI_some, if_neg (by omega), w3, c_takeC hP3.1.1 hP3.2.1.1 0 9 (by decide), hP3.fgr (by decide)] at hC
      obtain ⟨E, hE⟩ : ∃ E, E = dgt (up (up (up sR 56 5 (p + 1)) 59 f 1) 56 5 (p + 1 + 1)) := ⟨_, rfl⟩
      rw [← hE] at hC
      by_cases q2 : 0 ≤ E ∧ E ≤ 9
      · obtain ⟨w5, w6, hP4⟩ := hP3.on1 hp3 (dgt_lt (by omega))
        have hp4 : up (up (up (up sR 56 5 (p + 1)) 59 f 1) 56 5 (p + 1 + 1)) 56 5 (p + 1 + 1 + 1) 56 5 = p + 1 + 1 + 1 := up_at _ _ _ _
        have w7 : w32 (w32 (10 * D) + E) = 10 * D + E := by rw [w32_id (a := 10 * D) (by omega) (by omega), w32_id (by omega) (by omega)]
        have w8 : w32 (w32 (D * 10) + E) = 10 * D + E := by rw [w32_id (a := D * 10) (by omega) (by omega), w32_id (by omega) (by omega)]; omega
        rw [hP3.yes1 hp3 hE q2.1 q2.2 (bt_1023 q2), bnI_some, w7] at h9
        have hC' : sem 38 0 [aA 3, aA 1, aA d, aI t, aU, aU, aU] [] sC = some (aI 1, up (up (up (up (up sC 4 t 1) 3 1 (p + 1)) 3 1 (p + 1 + 1)) 3 1 (p + 1 + 1 + 1)) d (f + 1) (10 * D + E)) := by
          rw [hC, if_pos q2, if_neg (by omega), bnI_some, w5, g38_50 hd hP4.1.1, w8, if_neg (by omega)]
          rcases ht with ⟨rfl, rfl, rfl⟩ | ⟨rfl, rfl, rfl⟩ | ⟨rfl, rfl, rfl⟩
          · rw [if_pos rfl]; rfl
          · rw [if_neg (by decide), if_pos rfl]; rfl
          · rw [if_neg (by decide), if_neg (by decide)]; rfl
        have hRd : RefC (up (up (up (up (up sC 4 t 1) 3 1 (p + 1)) 3 1 (p + 1 + 1)) 3 1 (p + 1 + 1 + 1)) d (f + 1) (10 * D + E)) := by
          rcases ht with ⟨rfl, rfl, rfl⟩ | ⟨rfl, rfl, rfl⟩ | ⟨rfl, rfl, rfl⟩
          · exact rudf5 hd hP4.1.1 _
          · exact rudf6 hd hP4.1.1 _
          · exact rudf7 hd hP4.1.1 _
        have hP5 := (hP4.c hRd (fun q i hq => up_ne (by omega) _)).r (ru57 hP4.1.2 f (10 * D + E)) (fun q i hq => up_ne (by omega) _)
        refine ⟨1, _, _, hC', h9, ?_, ?_, Or.inl ⟨rfl, ?_⟩⟩
        · intro q i z1 z2 z3 z4
          simp only [up_app]
          repeat rw [if_neg (by omega)]
        · intro q i z1 z2 z3
          simp only [up_app]
          repeat rw [if_neg (by omega)]
        · refine h.done hP5 (c := t) (by omega) (by rw [tt.1]; exact q) (fun x => ?_) (fun x => ?_) (fun i i0 i1 => ?_) ?_ ?_
          · rw [up_ne (by omega), up_ne (by decide), up_ne (by decide), up_ne (by decide), up_app]
            simp only [true_and]
          · rw [mt, up_ne (by decide), up_ne (by decide), up_ne (by decide), up_app, up_ne (by decide)]
            simp only [true_and]
          · rw [tv_uf (by omega) ⟨i0, i1⟩, tv_ne (by omega) ⟨i0, i1⟩, tv_ne (by omega) ⟨i0, i1⟩, tv_ne (by omega) ⟨i0, i1⟩, tv_ne (by omega) ⟨i0, i1⟩, up_app]
            simp only [true_and, Int.add_sub_cancel]
            rw [up_ne (by decide), up_ne (by decide), up_ne (by decide), up_ne (by decide), hV i i0 i1]
          · refine TRng.u ?_ (by omega) (by omega) (fun _ _ => by omega) (by omega) (by omega) (by omega)
            rw [up_k (by decide), up_k (by decide), up_k (by decide), up_k (by decide)]
            exact hG
          · have := hP.2.2.1
            rw [if_neg (by omega), this, hp]
            simp (disch := omega) only [grd_if, bnI_some, bnL_some, bnV_some, up_app, kds, kls, and_true, true_and, and_self, and_false, false_and, or_true, true_or, or_false, false_or, not_true_eq_false, not_false_eq_true, ite_true, ite_false, if_true, if_false, ↓reduceIte, Int.reduceLT, Int.reduceLE, Int.reduceEq, Int.reduceNe, Int.reduceAdd, Int.reduceSub, Int.reduceMul, Int.reduceNeg, ne_eq, Int.le_refl, Int.lt_irrefl, cmpL_lt0, cmpL_gt0, cmpL_eq0, cmpL_le0, cmpL_ge0]
            omega
      · rw [if_neg q2, if_pos rfl, bnI_some, g38_50 hd hP3.1.1, if_pos rfl] at hC
        rw [hP3.no1 hp3 hE (fun z => q2 ⟨z.1, z.2.1⟩), bnI_some] at h9
        refine ⟨0, _, _, hC, h9, ?_, ?_, Or.inr ⟨rfl, ?_, ?_⟩⟩
        · intro q i z1 z2 z3 z4
          simp only [up_app]
          repeat rw [if_neg (by omega)]
        · intro q i z1 z2 z3
          simp only [up_app]
          repeat rw [if_neg (by omega)]
        · simp (disch := omega) only [grd_if, bnI_some, bnL_some, bnV_some, up_app, kds, kls, and_true, true_and, and_self, and_false, false_and, or_true, true_or, or_false, false_or, not_true_eq_false, not_false_eq_true, ite_true, ite_false, if_true, if_false, ↓reduceIte, Int.reduceLT, Int.reduceLE, Int.reduceEq, Int.reduceNe, Int.reduceAdd, Int.reduceSub, Int.reduceMul, Int.reduceNeg, ne_eq, Int.le_refl, Int.lt_irrefl, cmpL_lt0, cmpL_gt0, cmpL_eq0, cmpL_le0, cmpL_ge0]
        · simp (disch := omega) only [grd_if, bnI_some, bnL_some, bnV_some, up_app, kds, kls, and_true, true_and, and_self, and_false, false_and, or_true, true_or, or_false, false_or, not_true_eq_false, not_false_eq_true, ite_true, ite_false, if_true, if_false, ↓reduceIte, Int.reduceLT, Int.reduceLE, Int.reduceEq, Int.reduceNe, Int.reduceAdd, Int.reduceSub, Int.reduceMul, Int.reduceNeg, ne_eq, Int.le_refl, Int.lt_irrefl, cmpL_lt0, cmpL_gt0, cmpL_eq0, cmpL_le0, cmpL_ge0]
          omega
    · have hF := hP2.fl1 hp2
      rw [if_neg q1, if_pos rfl, bnI_some, if_pos rfl, g38_50 hd hP1.1.1, if_pos rfl] at hC
      rw [hP2.no1 hp2 hD (fun z => q1 ⟨z.1, z.2.1⟩), bnI_some, hF.f, bnI_some] at h9
      refine ⟨0, _, _, hC, h9, ?_, ?_, Or.inr ⟨rfl, ?_, ?_⟩⟩
      · intro q i z1 z2 z3 z4
        simp only [up_app]
        repeat rw [if_neg (by omega)]
      · intro q i z1 z2 z3
        simp only [up_app]
        repeat rw [if_neg (by omega)]
      · simp (disch := omega) only [grd_if, bnI_some, bnL_some, bnV_some, up_app, kds, kls, and_true, true_and, and_self, and_false, false_and, or_true, true_or, or_false, false_or, not_true_eq_false, not_false_eq_true, ite_true, ite_false, if_true, if_false, ↓reduceIte, Int.reduceLT, Int.reduceLE, Int.reduceEq, Int.reduceNe, Int.reduceAdd, Int.reduceSub, Int.reduceMul, Int.reduceNeg, ne_eq, Int.le_refl, Int.lt_irrefl, cmpL_lt0, cmpL_gt0, cmpL_eq0, cmpL_le0, cmpL_ge0]
      · simp (disch := omega) only [grd_if, bnI_some, bnL_some, bnV_some, up_app, kds, kls, and_true, true_and, and_self, and_false, false_and, or_true, true_or, or_false, false_or, not_true_eq_false, not_false_eq_true, ite_true, ite_false, if_true, if_false, ↓reduceIte, Int.reduceLT, Int.reduceLE, Int.reduceEq, Int.reduceNe, Int.reduceAdd, Int.reduceSub, Int.reduceMul, Int.reduceNeg, ne_eq, Int.le_refl, Int.lt_irrefl, cmpL_lt0, cmpL_gt0, cmpL_eq0, cmpL_le0, cmpL_ge0]
        omega
  · rw [if_neg q] at h9
    rw [if_neg (by rw [tt.1]; exact q), bnI_some, if_pos rfl] at hC
    exact ⟨0, sC, _, hC, h9, Rd.stop hP⟩

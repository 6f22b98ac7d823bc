/-! reading a text: what a corner's kind wants -/
theorem c_setWants {d : Int} (hd : d = 32 ∨ d = 37) {s : SG} (hR : RefC s) {c k b x : Int} (hc : 0 ≤ c ∧ c < 3) (hk : 0 ≤ k ∧ k < 3) : sem 88 0 [aA d, aI c, aI k, aI b, aI x, aU] [] s = some (aU, up (up s (d + 2) (3 * c + k) b) (d + 3) (3 * c + k) x) := by
  have w : w32 (w32 (c * 3) + k) = 3 * c + k := by rw [w32_id (a := c * 3) (by omega) (by omega), w32_id (by omega) (by omega)]; omega
  rw [g88_0 hd hR, w, if_neg (by omega), if_pos (by omega), if_pos (by omega), g_t (by omega)]
theorem bt_cmk {s : SG} {n D : Int} (hn : 1 ≤ n ∧ n ≤ 3) (hD : 0 ≤ D ∧ D ≤ 9) : Bt (cmk s n) D ↔ D < n ∧ opn s (10 + 3 * D) 3 ≠ 0 := by
  unfold cmk
  rw [bt_msk hD]
  constructor
  · rintro (⟨rfl, z⟩ | ⟨rfl, z⟩ | ⟨rfl, z⟩)
    · exact ⟨by omega, z⟩
    · exact z
    · exact z
  · intro z
    have : D = 0 ∨ D = 1 ∨ D = 2 := by omega
    rcases this with rfl | rfl | rfl
    · exact Or.inl ⟨rfl, z.2⟩
    · exact Or.inr (Or.inl ⟨rfl, z⟩)
    · exact Or.inr (Or.inr ⟨rfl, z⟩)
theorem cmk_0 {s : SG} {n : Int} (hn : 1 ≤ n ∧ n ≤ 3) : cmk s n = 0 ↔ ∀ c, 0 ≤ c → c < n → opn s (10 + 3 * c) 3 = 0 := by
  unfold cmk
  rw [msk_0]
  constructor
  · intro z c c0 c1
    have : c = 0 ∨ c = 1 ∨ c = 2 := by omega
    rcases this with rfl | rfl | rfl
    · exact Decidable.byContradiction fun y => z.1 y
    · exact Decidable.byContradiction fun y => z.2.1 ⟨c1, y⟩
    · exact Decidable.byContradiction fun y => z.2.2 ⟨c1, y⟩
  · intro z
    exact ⟨fun y => y (z 0 (by decide) (by omega)), fun y => y.2 (z 1 (by decide) y.1), fun y => y.2 (z 2 (by decide) y.1)⟩
theorem FcC.u31 {d : Int} (hd : d = 32 ∨ d = 37) {s s1 : SG} (h : FcC d s s1) (v : Int) : FcC d s (up s1 3 1 v) := fun q i h1 h2 h3 h4 => by
  rw [up_app, if_neg h1]; exact h q i h1 h2 h3 h4
theorem FcC.u4 {d : Int} {s s1 : SG} (h : FcC d s s1) (j v : Int) : FcC d s (up s1 4 j v) := fun q i h1 h2 h3 h4 => by
  rw [up_ne h2]; exact h q i h1 h2 h3 h4
theorem FcC.ud {d : Int} {s s1 : SG} (h : FcC d s s1) {k : Int} (hk : d < k ∧ k ≤ d + 4) (j v : Int) : FcC d s (up s1 k j v) := fun q i h1 h2 h3 h4 => by
  rw [up_ne (fun e => h4 (by rw [e]; exact hk))]; exact h q i h1 h2 h3 h4
theorem FcR.u5 {s s1 : SG} (h : FcR s s1) (v : Int) : FcR s (up s1 56 5 v) := fun q i h1 h2 h3 => by
  rw [up_app, if_neg (fun e => h1 ⟨e.1, Or.inl e.2⟩)]; exact h q i h1 h2 h3
theorem FcR.us {s s1 : SG} (h : FcR s s1) (v : Int) : FcR s (up s1 56 6 v) := fun q i h1 h2 h3 => by
  rw [up_app, if_neg (fun e => h1 ⟨e.1, Or.inr e.2⟩)]; exact h q i h1 h2 h3
theorem FcR.u57 {s s1 : SG} (h : FcR s s1) (j v : Int) : FcR s (up s1 57 j v) := fun q i h1 h2 h3 => by
  rw [up_ne h2]; exact h q i h1 h2 h3
theorem FcR.u59 {s s1 : SG} (h : FcR s s1) (j v : Int) : FcR s (up s1 59 j v) := fun q i h1 h2 h3 => by
  rw [up_ne h3]; exact h q i h1 h2 h3
theorem FcR.rf {s : SG} : FcR s s := fun _ _ _ _ _ => rfl
theorem FcC.tr {d : Int} {a b c : SG} (h1 : FcC d a b) (h2 : FcC d b c) : FcC d a c := fun q i z1 z2 z3 z4 => (h2 q i z1 z2 z3 z4).trans (h1 q i z1 z2 z3 z4)
theorem FcR.tr {a b c : SG} (h1 : FcR a b) (h2 : FcR b c) : FcR a c := fun q i z1 z2 z3 => (h2 q i z1 z2 z3).trans (h1 q i z1 z2 z3)
/-- the last two figures of what is wanted -/
theorem w_tail {d : Int} (hd : d = 32 ∨ d = 37) {s t : SG} (hP : Pl s t) {p : Int} (hp : t 56 5 = p) (hp0 : 0 ≤ p) {D K j : Int} (hD : 0 ≤ D ∧ D < 3) (hK : 0 ≤ K ∧ K < 3) (hj : j = 3 * D + K) : ∃ b s' t', (bnI (sem 40 0 [aA 3, aA 1, aI 0, aI 3, aU] [] s) fun a10 s9 => sem 36 102 [aA 3, aA 1, aA d, aI D, aI K, aU, aU] [aI a10] s9) = some (aI b, s') ∧ (bnI (sem 157 0 [aA 56, aI 15, aU] [] t) fun a9 s8 => bnI (sem 157 0 [aA 56, aI 1023, aU] [] (up s8 57 (10 + j) a9)) fun a11 s10 => grd ((0 : Int) ≤ 19 + j ∧ 19 + j < 28) (some (aU, up s10 57 (19 + j) a11))) = some (aU, t') ∧ FcC d s s' ∧ FcR t t' ∧ ((b = 1 ∧ ∃ B X, (0 ≤ B ∧ B ≤ 3) ∧ (0 ≤ X ∧ X ≤ 9) ∧ Pl s' t' ∧ s' = up (up (up (up s 3 1 (p + 1)) 3 1 (p + 1 + 1)) (d + 2) j B) (d + 3) j X ∧ t' = up (up (up (up t 56 5 (p + 1)) 57 (10 + j) B) 56 5 (p + 1 + 1)) 57 (19 + j) X) ∨ (b = 0 ∧ s' 3 1 = t' 56 6 ∧ 0 ≤ t' 56 6)) := by
  have hj9 : 0 ≤ j ∧ j < 9 := by omega
  have p1 : 0 ≤ p + 1 := by omega
  have gj : (0 : Int) ≤ 19 + j ∧ 19 + j < 28 := by omega
  rw [c_takeC hP.1.1 hP.2.1.1 0 3 (by decide), hP.fgr (by decide)]
  obtain ⟨B, hB⟩ : ∃ B, B = dgt t := ⟨_, rfl⟩
  rw [← hB]
  by_cases q3 : 0 ≤ B ∧ B ≤ 3
  · have B9 : 0 ≤ B ∧ B ≤ 9 := by omega
    have Bn : ¬ (B = -9) := by omega
    obtain ⟨w7, w8, hP5⟩ := hP.on1 hp (dgt_lt (by omega))
    have hP6 := hP5.r (ru57 hP5.1.2 (10 + j) B) (fun q i hq => up_ne (by omega) _)
    have hp4 : up (up t 56 5 (p + 1)) 57 (10 + j) B 56 5 = p + 1 := by rw [up_ne (by decide), up_at]
    rw [hP.yes1 hp hB B9.1 B9.2 (by rw [bt_15 B9]; exact q3.2), bnI_some]
    rw [if_pos q3, if_neg Bn, bnI_some, w7, g36_102 hd hP5.1.1, if_neg Bn, c_takeC hP5.1.1 hP5.2.1.1 0 9 (by decide), hP6.fgr (by decide)]
    obtain ⟨X, hX⟩ : ∃ X, X = dgt (up (up t 56 5 (p + 1)) 57 (10 + j) B) := ⟨_, rfl⟩
    rw [← hX]
    by_cases q4 : 0 ≤ X ∧ X ≤ 9
    · have Xn : ¬ (X = -9) := by omega
      obtain ⟨w9, w10, hP7⟩ := hP6.on1 hp4 (dgt_lt (by omega))
      have hP8 := (hP7.c (rud3 hd (rud2 hd hP7.1.1 j B) j X) (fun q i hq => by rw [up_ne (by omega), up_ne (by omega)])).r (ru57 hP7.1.2 (19 + j) X) (fun q i hq => up_ne (by omega) _)
      refine ⟨1, _, _, ?_, ?_, ?_, ?_, Or.inl ⟨rfl, B, X, q3, q4, hP8, rfl, rfl⟩⟩
      · rw [if_pos q4, if_neg Xn, bnI_some, if_neg Xn, w9, c_setWants hd hP7.1.1 hD hK, bnV_some, ← hj]
      · rw [hP6.yes1 hp4 hX q4.1 q4.2 (bt_1023 q4), bnI_some, g_t gj]
      · exact (((FcC.rf.u31 hd _).u31 hd _).ud (by omega) _ _).ud (by omega) _ _
      · exact (((FcR.rf.u5 _).u57 _ _).u5 _).u57 _ _
    · refine ⟨0, up s 3 1 (p + 1), up (up (up (up t 56 5 (p + 1)) 57 (10 + j) B) 56 6 (p + 1)) 57 (19 + j) 0, ?_, ?_, ?_, ?_, Or.inr ⟨rfl, ?_, ?_⟩⟩
      · rw [if_neg q4, if_pos rfl, bnI_some, if_pos rfl]
      · rw [hP6.no1 hp4 hX (fun z => q4 ⟨z.1, z.2.1⟩), bnI_some, g_t gj]
      · exact FcC.rf.u31 hd _
      · exact (((FcR.rf.u5 _).u57 _ _).us _).u57 _ _
      · simp (disch := omega) only [grd_if, bnI_some, bnL_some, bnV_some, up_app, kds, kls, and_true, true_and, and_self, and_false, false_and, or_true, true_or, or_false, false_or, not_true_eq_false, not_false_eq_true, ite_true, ite_false, if_true, if_false, ↓reduceIte, Int.reduceLT, Int.reduceLE, Int.reduceEq, Int.reduceNe, Int.reduceAdd, Int.reduceSub, Int.reduceMul, Int.reduceNeg, ne_eq, Int.le_refl, Int.lt_irrefl, cmpL_lt0, cmpL_gt0, cmpL_eq0, cmpL_le0, cmpL_ge0]
      · simp (disch := omega) only [grd_if, bnI_some, bnL_some, bnV_some, up_app, kds, kls, and_true, true_and, and_self, and_false, false_and, or_true, true_or, or_false, false_or, not_true_eq_false, not_false_eq_true, ite_true, ite_false, if_true, if_false, ↓reduceIte, Int.reduceLT, Int.reduceLE, Int.reduceEq, Int.reduceNe, Int.reduceAdd, Int.reduceSub, Int.reduceMul, Int.reduceNeg, ne_eq, Int.le_refl, Int.lt_irrefl, cmpL_lt0, cmpL_gt0, cmpL_eq0, cmpL_le0, cmpL_ge0]
        exact p1
  · have hF := (hP.fl1 hp).u57 (10 + j) 0
    refine ⟨0, s, up (up (up t 56 6 p) 57 (10 + j) 0) 57 (19 + j) 0, ?_, ?_, FcC.rf, ?_, Or.inr ⟨rfl, ?_, ?_⟩⟩
    · rw [if_neg q3, if_pos rfl, bnI_some, g36_102 hd hP.1.1, if_pos rfl, if_pos rfl]
    · rw [hP.no1 hp hB (by intro z; have z3 := z.2.2; rw [bt_15 (by omega)] at z3; omega), bnI_some, hF.f, bnI_some, g_t gj]
    · exact ((FcR.rf.us _).u57 _ _).u57 _ _
    · rw [up_ne (by decide), up_ne (by decide), up_at, hP.2.2.1, hp]
    · rw [up_ne (by decide), up_ne (by decide), up_at]
      exact hp0
set_option maxHeartbeats 8000000 in
theorem p_W {d : Int} (hd : d = 32 ∨ d = 37) {sC sR : SG} (h : Rd d sC sR) (hl : sR 56 5 < sR 56 4) : ∃ b sC' sR', sem 36 0 [aA 3, aA 1, aA d, aU, aU, aU, aU] [] sC = some (aI b, sC') ∧ sem 160 0 [aA 56, aI 87, aU, aU, aU, aU, aU] [] sR = some (aU, sR') ∧ Res d sC sR b sC' sR' := by
  have hP := h.1
  have hT := h.2.1
  have hV := h.2.2.1
  have hG := h.2.2.2
  have hRC := hP.1.1
  have hRR := hP.1.2
  have hp5 := hP.2.1.2.1.2.1
  obtain ⟨p, hp⟩ : ∃ p, sR 56 5 = p := ⟨_, rfl⟩
  obtain ⟨n, hn⟩ : ∃ n, sR 57 0 = n := ⟨_, rfl⟩
  have hn4 : sC d 4 = n := (hV 0 (by decide) (by decide)).trans hn
  have n3 : 1 ≤ n ∧ n ≤ 3 := by rw [← hn]; exact hG.1
  have h9 : sem 160 0 [aA 56, aI 87, aU, aU, aU, aU, aU] [] sR = sem 160 151 [aA 56, aI 87, aI n, aI (cmk sR n), aI (-9), aU, aU] [] sR := by
    rw [c_head hRR n3 hn 87, if_neg (by decide), if_neg (by decide), if_neg (by decide), if_neg (by decide)]
  rw [g160_151 hRR, if_pos rfl] at h9
  have hC : sem 36 0 [aA 3, aA 1, aA d, aU, aU, aU, aU] [] sC = _ := g36_0 hd hRC
  have wn3 : w32 (n * 3) = n * 3 := w32_id (by omega) (by omega)
  have wn1 : w32 (n - 1) = n - 1 := w32_id (by omega) (by omega)
  rw [hn4, wn3] at hC
  have hSt : Res d sC sR 0 sC (up sR 56 6 p) := by
    rw [← hp]; exact Rd.stop hP
  have hm : ∀ x : Int, 3 ≤ x → x < 12 → sC 4 x = sR 59 (x + 7) := fun x d0 d1 => by
    have := (hT x (by omega) (by omega)).1
    unfold mp at this
    rw [if_neg (by omega), if_pos (by omega)] at this
    rw [this]
    congr 1
    omega
  have eo : ∀ c : Int, 0 ≤ c → c < 3 → opn sR (10 + 3 * c) 3 = msk (sC 4 (3 + 3 * c + 0) = 0) (sC 4 (3 + 3 * c + 1) = 0) (sC 4 (3 + 3 * c + 2) = 0) := fun c c0 c1 => by
    have a0 := hm (3 + 3 * c + 0) (by omega) (by omega)
    have a1 := hm (3 + 3 * c + 1) (by omega) (by omega)
    have a2 := hm (3 + 3 * c + 2) (by omega) (by omega)
    rw [show 3 + 3 * c + 0 + 7 = 10 + 3 * c by omega] at a0
    rw [show 3 + 3 * c + 1 + 7 = 10 + 3 * c + 1 by omega] at a1
    rw [show 3 + 3 * c + 2 + 7 = 10 + 3 * c + 2 by omega] at a2
    unfold opn
    rw [a0, a1, a2]
    simp only [Int.reduceLT, true_and]
  obtain ⟨r, e1, e2⟩ := c_allTold (f := 3) (m := n * 3) (by omega) hRC
  by_cases q : cmk sR n = 0
  · have r1 : r = 1 := by
      rw [cmk_0 n3] at q
      rcases e2 with e2 | ⟨-, c, c0, c1, c2⟩
      · exact e2.1
      · exfalso
        obtain ⟨b, j, hb, hj, rfl⟩ : ∃ b j : Int, (0 ≤ b ∧ b < n) ∧ (0 ≤ j ∧ j < 3) ∧ c = 3 + 3 * b + j := ⟨(c - 3) / 3, (c - 3) % 3, by omega, by omega, by omega⟩
        have z := q b hb.1 hb.2
        rw [eo b (by omega) (by omega), msk_0] at z
        have : j = 0 ∨ j = 1 ∨ j = 2 := by omega
        rcases this with rfl | rfl | rfl
        · exact z.1 c2
        · exact z.2.1 c2
        · exact z.2.2 c2
    clear e2
    rw [if_pos q, g160_248 hRR, if_neg (by decide), c_none hRR, hp] at h9
    rw [e1, bnI_some, r1, if_neg (by decide)] at hC
    exact ⟨0, sC, _, hC, h9, hSt⟩
  · have r0 : r = 0 := by
      rcases e2 with ⟨-, e2⟩ | e2
      · exfalso
        apply q
        rw [cmk_0 n3]
        intro c c0 c1
        rw [eo c c0 (by omega), msk_0]
        exact ⟨e2 _ (by omega) (by omega), e2 _ (by omega) (by omega), e2 _ (by omega) (by omega)⟩
      · exact e2.1
    clear e2
    obtain ⟨w1, w2, hP1⟩ := hP.on1 hp hl
    have hp1 : up sR 56 5 (p + 1) 56 5 = p + 1 := up_at _ _ _ _
    rw [if_neg q, w2] at h9
    rw [e1, bnI_some, r0, if_pos rfl, w1, hn4, wn1, c_fig hP1.1.1 hP1.2.1.1 0 (n - 1), hP1.fgr (by decide), bnI_some] at hC
    obtain ⟨D, hD⟩ : ∃ D, D = dgt (up sR 56 5 (p + 1)) := ⟨_, rfl⟩
    rw [← hD] at hC
    by_cases q1 : (0 ≤ D ∧ D < n) ∧ opn sR (10 + 3 * D) 3 ≠ 0
    · obtain ⟨w3, w4, hP2⟩ := hP1.on1 hp1 (dgt_lt (by omega))
      have hp2 : up (up sR 56 5 (p + 1)) 56 5 (p + 1 + 1) 56 5 = p + 1 + 1 := up_at _ _ _ _
      have wD : w32 (10 + w32 (3 * D)) = 10 + 3 * D := by rw [w32_id (a := 3 * D) (by omega) (by omega), w32_id (by omega) (by omega)]
      have wD2 : w32 (3 + w32 (D * 3)) = 3 + 3 * D := by rw [w32_id (a := D * 3) (by omega) (by omega), w32_id (by omega) (by omega)]; omega
      obtain ⟨r2, e3, e4⟩ := c_allTold (f := 3 + 3 * D) (m := 3) (by omega) hP1.1.1
      have r20 : r2 = 0 := by
        rcases e4 with ⟨-, e4⟩ | e4
        · exfalso
          apply q1.2
          rw [eo D q1.1.1 (by omega), msk_0]
          have f4 : ∀ x, up sC 3 1 (p + 1) 4 x = sC 4 x := fun x => up_ne (by decide) _
          exact ⟨fun z => e4 _ (by omega) (by omega) ((f4 _).trans z), fun z => e4 _ (by omega) (by omega) ((f4 _).trans z), fun z => e4 _ (by omega) (by omega) ((f4 _).trans z)⟩
        · exact e4.1
      clear e4
      rw [hP1.yes1 hp1 hD (by omega) (by omega) (by rw [bt_cmk n3 (by omega)]; exact ⟨q1.1.2, q1.2⟩), bnI_some, wD, c_open hP2.1.2 (by omega) (by decide), bnI_some, opn_of (s := sR) (fun i => by rw [up_ne (by decide), up_ne (by decide)]), eo D (by omega) (by omega)] at h9
      rw [if_pos (show 0 ≤ D ∧ D ≤ n - 1 by omega), if_neg (by omega), wD2, e3, bnI_some, r20, if_pos rfl, w3, c_untold hP2.1.1 hP2.2.1.1 2 (3 + 3 * D) (by decide) (by omega), hP2.fgr (by decide)] at hC
      obtain ⟨K, hK⟩ : ∃ K, K = dgt (up (up sR 56 5 (p + 1)) 56 5 (p + 1 + 1)) := ⟨_, rfl⟩
      rw [← hK] at hC
      have f4 : ∀ x, up (up sC 3 1 (p + 1)) 3 1 (p + 1 + 1) 4 x = sC 4 x := fun x => by rw [up_ne (by decide), up_ne (by decide)]
      rw [f4] at hC
      by_cases q2 : (0 ≤ K ∧ K < 3) ∧ sC 4 (3 + 3 * D + K) = 0
      · have bt : Bt (msk (sC 4 (3 + 3 * D + 0) = 0) (sC 4 (3 + 3 * D + 1) = 0) (sC 4 (3 + 3 * D + 2) = 0)) K := by
          rw [bt_msk (by omega)]
          have : K = 0 ∨ K = 1 ∨ K = 2 := by omega
          rcases this with z | z | z <;> rw [z] at q2
          · exact Or.inl ⟨z, q2.2⟩
          · exact Or.inr (Or.inl ⟨z, q2.2⟩)
          · exact Or.inr (Or.inr ⟨z, q2.2⟩)
        have hP2' := hP2.c (ru4 hP2.1.1 (3 + 3 * D + K) 1) (fun q i hq => up_ne (by omega) _)
        obtain ⟨w5, w6, hP3⟩ := hP2'.on1 hp2 (dgt_lt (by omega))
        rw [up_ne (by decide)] at w5
        have wK : w32 (10 + w32 (w32 (3 * D) + K)) = 10 + (3 * D + K) := by rw [w32_id (a := 3 * D) (by omega) (by omega), w32_id (a := 3 * D + K) (by omega) (by omega), w32_id (by omega) (by omega)]
        have wK2 : w32 (19 + w32 (w32 (3 * D) + K)) = 19 + (3 * D + K) := by rw [w32_id (a := 3 * D) (by omega) (by omega), w32_id (a := 3 * D + K) (by omega) (by omega), w32_id (by omega) (by omega)]
        have hp3 : up (up (up (up sR 56 5 (p + 1)) 56 5 (p + 1 + 1)) 56 5 (p + 1 + 1 + 1)) 59 (10 + (3 * D + K)) 1 56 5 = p + 1 + 1 + 1 := by rw [up_ne (by decide), up_at]
        rw [if_pos (show 0 ≤ K ∧ K ≤ 2 by omega), if_neg (show ¬ (K = -9) by omega), if_pos q2.2, bnI_some, if_neg (show ¬ (K = -9) by omega), w5] at hC
        rw [hP2.yes1 hp2 hK q2.1.1 (by omega) bt, bnI_some, wK, wK2, g_t (by omega)] at h9
        have hP4 := hP3.r (ru59 hP3.1.2 (10 + (3 * D + K)) 1) (fun q i hq => up_ne (by omega) _)
        have p3 : 0 ≤ p + 1 + 1 + 1 := by omega
        obtain ⟨b, s', t', c1, c2, c3, c4, c5⟩ := w_tail hd hP4 hp3 p3 (D := D) (K := K) (j := 3 * D + K) (by omega) q2.1 rfl
        rw [c1] at hC
        rw [c2] at h9
        have fC : FcC d sC (up (up (up (up sC 3 1 (p + 1)) 3 1 (p + 1 + 1)) 4 (3 + 3 * D + K) 1) 3 1 (p + 1 + 1 + 1)) := (((FcC.rf.u31 hd _).u31 hd _).u4 _ _).u31 hd _
        have fR : FcR sR (up (up (up (up sR 56 5 (p + 1)) 56 5 (p + 1 + 1)) 56 5 (p + 1 + 1 + 1)) 59 (10 + (3 * D + K)) 1) := (((FcR.rf.u5 _).u5 _).u5 _).u59 _ _
        refine ⟨b, s', t', hC, h9, fC.tr c3, fR.tr c4, ?_⟩
        rcases c5 with ⟨rfl, B, X, q3, q4, hP8, d1, d2⟩ | c5
        · refine Or.inl ⟨rfl, ?_⟩
          have j9 : 0 ≤ 3 * D + K ∧ 3 * D + K < 9 := by omega
          have j18 : 0 ≤ 3 + 3 * D + K ∧ 3 + 3 * D + K < 18 := by omega
          have j12 : 3 ≤ 3 + 3 * D + K ∧ 3 + 3 * D + K < 12 := by omega
          have jm : mp (3 + 3 * D + K) = 10 + (3 * D + K) := by
            unfold mp
            rw [if_neg (by omega), if_pos (by omega)]
            omega
          have hdk : d + 3 ≠ 4 ∧ d + 2 ≠ 4 ∧ 3 < d ∧ 4 < d := by omega
          obtain ⟨j, hj⟩ : ∃ j, j = 3 * D + K := ⟨_, rfl⟩
          obtain ⟨c, hc⟩ : ∃ c, c = 3 + 3 * D + K := ⟨_, rfl⟩
          have q22 := q2.2
          rw [← hj] at d1 d2 j9 jm
          rw [← hc] at d1 j18 j12 jm q22
          clear hC h9 c1 c2 c3 c4 fC fR hP1 hP2 hP2' hP3 hP4 w1 w2 w3 w4 w5 w6 hD hK bt f4 q2 q1 eo hm wK wK2 wD wD2 hSt e1 e3 hj hc
          subst d1
          subst d2
          refine h.done hP8 (c := c) j18 q22 (fun x => ?_) (fun x => ?_) (fun i i0 i1 => ?_) ?_ ?_
          · rw [up_ne hdk.1.symm, up_ne hdk.2.1.symm, up_ne (by decide), up_ne (by decide), up_ne (by decide), up_app, up_ne (by decide), up_ne (by decide)]
            simp only [true_and]
          · rw [jm, up_ne (by decide), up_ne (by decide), up_ne (by decide), up_ne (by decide), up_app, up_ne (by decide), up_ne (by decide), up_ne (by decide)]
            simp only [true_and]
          · rw [tv_u3 j9 ⟨i0, i1⟩, tv_u2 j9 ⟨i0, i1⟩, tv_ne (Or.inl hdk.2.2.1) ⟨i0, i1⟩, tv_ne (Or.inl hdk.2.2.1) ⟨i0, i1⟩, tv_ne (Or.inl hdk.2.2.1) ⟨i0, i1⟩, tv_ne (Or.inl hdk.2.2.2) ⟨i0, i1⟩, tv_ne (Or.inl hdk.2.2.1) ⟨i0, i1⟩, tv_ne (Or.inl hdk.2.2.1) ⟨i0, i1⟩, up_app, up_ne (by decide), up_app]
            simp only [true_and]
            rw [up_ne (by decide), up_ne (by decide), up_ne (by decide), up_ne (by decide), up_ne (by decide), hV i i0 i1]
          · have g1 : TRng (up (up (up (up (up (up sR 56 5 (p + 1)) 56 5 (p + 1 + 1)) 56 5 (p + 1 + 1 + 1)) 59 (10 + j) 1) 56 5 (p + 1 + 1 + 1 + 1)) 57 (10 + j) B 57) := by
              refine TRng.u ?_ (by omega) (by omega) (by omega) (by omega) (fun _ _ => q3) (by omega)
              rw [up_k (by decide), up_k (by decide), up_k (by decide), up_k (by decide), up_k (by decide)]
              exact hG
            refine TRng.u ?_ (by omega) (by omega) (by omega) (by omega) (by omega) (fun _ _ => q4)
            rw [up_k (by decide)]
            exact g1
          · have := hP.2.2.1
            rw [if_pos j12, this, hp, up_app, if_neg (fun z => by have := z.1; omega), up_app, if_neg (fun z => by have := z.1; omega), up_at]
            omega
        · exact Or.inr c5
      · have nb : ¬ (0 ≤ K ∧ K ≤ 9 ∧ Bt (msk (sC 4 (3 + 3 * D + 0) = 0) (sC 4 (3 + 3 * D + 1) = 0) (sC 4 (3 + 3 * D + 2) = 0)) K) := by
          intro z
          have z3 := z.2.2
          rw [bt_msk (by omega)] at z3
          rcases z3 with ⟨z4, z3⟩ | ⟨z4, z3⟩ | ⟨z4, z3⟩ <;> exact q2 ⟨by omega, by rw [z4]; exact z3⟩
        have wK : w32 (10 + w32 (w32 (3 * D) + 0)) = 10 + 3 * D := by rw [w32_id (a := 3 * D) (by omega) (by omega), w32_id (a := 3 * D + 0) (by omega) (by omega), w32_id (by omega) (by omega)]; omega
        have wK2 : w32 (19 + w32 (w32 (3 * D) + 0)) = 19 + 3 * D := by rw [w32_id (a := 3 * D) (by omega) (by omega), w32_id (a := 3 * D + 0) (by omega) (by omega), w32_id (by omega) (by omega)]; omega
        have hF := (hP2.fl1 hp2).u59 (10 + 3 * D) 1
        have hF2 := hF.u57 (10 + 3 * D) 0
        rw [hP2.no1 hp2 hK nb, bnI_some, wK, g_t (by omega), hF.f, bnI_some, hF2.f, bnI_some, wK2, g_t (by omega)] at h9
        have hC' : sem 36 0 [aA 3, aA 1, aA d, aU, aU, aU, aU] [] sC = some (aI 0, up (up sC 3 1 (p + 1)) 3 1 (p + 1 + 1)) := by
          rw [hC]
          by_cases q5 : 0 ≤ K ∧ K ≤ 2
          · rw [if_pos q5, if_neg (by omega), if_neg (fun z => q2 ⟨by omega, z⟩), bnI_some, if_pos rfl, g36_102 hd hP2.1.1, if_pos rfl, if_pos rfl]
          · rw [if_neg q5, if_pos rfl, bnI_some, if_pos rfl, g36_102 hd hP2.1.1, if_pos rfl, if_pos rfl]
        refine ⟨0, _, _, hC', h9, ?_, ?_, Or.inr ⟨rfl, ?_, ?_⟩⟩
        · intro q i z1 z2 z3 z4
          simp only [up_app]
          repeat rw [if_neg (by omega)]
        · intro q i z1 z2 z3
          simp only [up_app]
          repeat rw [if_neg (by omega)]
        · simp (disch := omega) only [grd_if, bnI_some, bnL_some, bnV_some, up_app, kds, kls, and_true, true_and, and_self, and_false, false_and, or_true, true_or, or_false, false_or, not_true_eq_false, not_false_eq_true, ite_true, ite_false, if_true, if_false, ↓reduceIte, Int.reduceLT, Int.reduceLE, Int.reduceEq, Int.reduceNe, Int.reduceAdd, Int.reduceSub, Int.reduceMul, Int.reduceNeg, ne_eq, Int.le_refl, Int.lt_irrefl, cmpL_lt0, cmpL_gt0, cmpL_eq0, cmpL_le0, cmpL_ge0]
        · simp (disch := omega) only [grd_if, bnI_some, bnL_some, bnV_some, up_app, kds, kls, and_true, true_and, and_self, and_false, false_and, or_true, true_or, or_false, false_or, not_true_eq_false, not_false_eq_true, ite_true, ite_false, if_true, if_false, ↓reduceIte, Int.reduceLT, Int.reduceLE, Int.reduceEq, Int.reduceNe, Int.reduceAdd, Int.reduceSub, Int.reduceMul, Int.reduceNeg, ne_eq, Int.le_refl, Int.lt_irrefl, cmpL_lt0, cmpL_gt0, cmpL_eq0, cmpL_le0, cmpL_ge0]
          omega
    · have nb : ¬ (0 ≤ D ∧ D ≤ 9 ∧ Bt (cmk sR n) D) := by
        intro z
        have z3 := z.2.2
        rw [bt_cmk n3 (by omega)] at z3
        exact q1 ⟨⟨z.1, z3.1⟩, z3.2⟩
      have hF0 := hP1.fl1 hp1
      have hF := hF0.u59 10 1
      have hF2 := hF.u57 10 0
      have k1 : w32 (10 + w32 (3 * 0)) = 10 := rfl
      have k2 : w32 (10 + w32 (w32 (3 * 0) + 0)) = 10 := rfl
      have k3 : w32 (19 + w32 (w32 (3 * 0) + 0)) = 19 := rfl
      rw [hP1.no1 hp1 hD nb, bnI_some, k1, c_open hF0.1 (by decide) (by decide), bnI_some, hF0.f, bnI_some, k2, g_t (by decide), hF.f, bnI_some, hF2.f, bnI_some, k3, g_t (by decide)] at h9
      have hC' : sem 36 0 [aA 3, aA 1, aA d, aU, aU, aU, aU] [] sC = some (aI 0, up sC 3 1 (p + 1)) := by
        rw [hC]
        by_cases q5 : 0 ≤ D ∧ D ≤ n - 1
        · have wD2 : w32 (3 + w32 (D * 3)) = 3 + 3 * D := by rw [w32_id (a := D * 3) (by omega) (by omega), w32_id (by omega) (by omega)]; omega
          obtain ⟨r2, e3, e4⟩ := c_allTold (f := 3 + 3 * D) (m := 3) (by omega) hP1.1.1
          have r21 : r2 = 1 := by
            rcases e4 with e4 | ⟨-, c, c0, c1, c2⟩
            · exact e4.1
            · exfalso
              apply q1
              refine ⟨by omega, fun z => ?_⟩
              rw [eo D q5.1 (by omega), msk_0] at z
              rw [up_ne (by decide)] at c2
              have : c = 3 + 3 * D + 0 ∨ c = 3 + 3 * D + 1 ∨ c = 3 + 3 * D + 2 := by omega
              rcases this with rfl | rfl | rfl
              · exact z.1 c2
              · exact z.2.1 c2
              · exact z.2.2 c2
          clear e4
          rw [if_pos q5, if_neg (by omega), wD2, e3, bnI_some, r21, if_neg (by decide)]
        · rw [if_neg q5, if_pos rfl]
      refine ⟨0, _, _, hC', h9, ?_, ?_, Or.inr ⟨rfl, ?_, ?_⟩⟩
      · intro q i z1 z2 z3 z4
        simp only [up_app]
        repeat rw [if_neg (by omega)]
      · intro q i z1 z2 z3
        simp only [up_app]
        repeat rw [if_neg (by omega)]
      · simp (disch := omega) only [grd_if, bnI_some, bnL_some, bnV_some, up_app, kds, kls, and_true, true_and, and_self, and_false, false_and, or_true, true_or, or_false, false_or, not_true_eq_false, not_false_eq_true, ite_true, ite_false, if_true, if_false, ↓reduceIte, Int.reduceLT, Int.reduceLE, Int.reduceEq, Int.reduceNe, Int.reduceAdd, Int.reduceSub, Int.reduceMul, Int.reduceNeg, ne_eq, Int.le_refl, Int.lt_irrefl, cmpL_lt0, cmpL_gt0, cmpL_eq0, cmpL_le0, cmpL_ge0]
      · simp (disch := omega) only [grd_if, bnI_some, bnL_some, bnV_some, up_app, kds, kls, and_true, true_and, and_self, and_false, false_and, or_true, true_or, or_false, false_or, not_true_eq_false, not_false_eq_true, ite_true, ite_false, if_true, if_false, ↓reduceIte, Int.reduceLT, Int.reduceLE, Int.reduceEq, Int.reduceNe, Int.reduceAdd, Int.reduceSub, Int.reduceMul, Int.reduceNeg, ne_eq, Int.le_refl, Int.lt_irrefl, cmpL_lt0, cmpL_gt0, cmpL_eq0, cmpL_le0, cmpL_ge0]
        omega

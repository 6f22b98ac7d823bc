/-! mornings: a second printing, what a boy is paid -/
def A1 (a : SG) (c h m : Int) : SG := up (up (up (up a 23 9 (-9)) 23 10 c) 23 11 h) 23 12 m
def B1 (b : SG) (c h m : Int) : SG := up (up (up b 56 37 m) 56 36 c) 56 35 h
theorem A1.w (a : SG) (c h m : Int) : WC a (A1 a c h m) := fun k i hk => by
  unfold A1
  rw [up_app, if_neg (by omega), up_app, if_neg (by omega), up_app, if_neg (by omega), up_app, if_neg (by omega)]
theorem B1.w (b : SG) (c h m : Int) : WR b (B1 b c h m) := fun k i hk => by
  unfold B1
  rw [up_app, if_neg (by omega), up_app, if_neg (by omega), up_app, if_neg (by omega)]
theorem A1.r {a : SG} (hR : RefC a) (c h m : Int) : RefC (A1 a c h m) := RefC.upd (RefC.upd (RefC.upd (RefC.upd hR (rcb_f (c := 3) (j := 9) rfl (by decide) (by decide))) (rcb_f (c := 3) (j := 10) rfl (by decide) (by decide))) (rcb_f (c := 3) (j := 11) rfl (by decide) (by decide))) (rcb_f (c := 3) (j := 12) rfl (by decide) (by decide))
theorem B1.r {b : SG} (hR : RefC b) (c h m : Int) : RefC (B1 b c h m) := RefC.upd (RefC.upd (RefC.upd hR (rcb_f (c := 9) (j := 37) rfl (by decide) (by decide))) (rcb_f (c := 9) (j := 36) rfl (by decide) (by decide))) (rcb_f (c := 9) (j := 35) rfl (by decide) (by decide))
theorem l_sec {a b : SG} {n : Nat} {c h m : Int} (hM : Mo a b) (hn : b 58 0 = n) (h38 : b 56 38 = -1) (hc : 0 ≤ c ∧ c < n) (hh : 0 ≤ h ∧ h ≤ 5) (hm : 0 ≤ m ∧ m ≤ 60) : ∃ a' b', sem 48 0 [aA 23, aA (a 0 9), aA 16, aU, aU] [] (A1 a c h m) = some (aU, a') ∧ sem 205 0 [aA 56, aU, aU] [] (B1 b c h m) = some (aU, b') ∧ RefC a' ∧ RefC b' ∧ HR a' b' 6 n 480 ∧ WC a a' ∧ WR b b' ∧ tot n a' = sm3 n (b 66) + b 56 19 + m := by
  have wa := A1.w a c h m
  have wb := B1.w b c h m
  have M0 : Mo (A1 a c h m) (B1 b c h m) := (hM.fa (A1.r hM.1 c h m) wa).fb (B1.r hM.2.1 c h m) wb
  have t9 : A1 a c h m 0 9 = a 0 9 := wa.k09
  have k37 : B1 b c h m 56 37 = m := by unfold B1; rw [up_ni (by decide), up_ni (by decide), up_at]
  have k36 : B1 b c h m 56 36 = c := by unfold B1; rw [up_ni (by decide), up_at]
  have k35 : B1 b c h m 56 35 = h := by unfold B1; rw [up_at]
  have k38 : B1 b c h m 56 38 = -1 := by unfold B1; rw [up_ni (by decide), up_ni (by decide), up_ni (by decide), h38]
  have k58 : B1 b c h m 58 0 = n := by rw [wb.k58]; exact hn
  have k9 : A1 a c h m 23 9 = -9 := by unfold A1; rw [up_ni (by decide), up_ni (by decide), up_ni (by decide), up_at]
  have k10 : A1 a c h m 23 10 = c := by unfold A1; rw [up_ni (by decide), up_ni (by decide), up_at]
  have k11 : A1 a c h m 23 11 = h := by unfold A1; rw [up_ni (by decide), up_at]
  have k12 : A1 a c h m 23 12 = m := by unfold A1; rw [up_at]
  obtain ⟨a', b', e1, e2, e3, e4, e5, e6, e7, e8⟩ := l_run (n := n) M0 k58 (Or.inr (by rw [k10, k11, k12, k35, k36, k37, k58]; exact ⟨hc, rfl, rfl, rfl, hm, hh⟩)) (fun x x0 x1 => by rw [k9, k38]; omega)
  rw [t9] at e1
  refine ⟨a', b', e1, e2, e3, e4, e5, wa.tr e6.w, wb.tr e7.w, ?_⟩
  have z : sTo (B1 b c h m) 6 = m := by
    unfold sTo
    rw [k37, k35]
    exact if_pos (by omega)
  have z66 : B1 b c h m 66 = b 66 := funext fun i => wb 66 i (by omega)
  rw [e8, z, z66, wb 56 19 (by omega)]
theorem q_second {s : SG} (h : Inv s) (c j m x : Int) : ∃ r s1 s2, sem 133 0 [aA 0, aI c, aI j, aI m, aI x, aU, aU, aU, aU, aU] [] s = some (aI r, s1) ∧ sem 215 0 [aA 56, aI c, aI j, aI m, aI x, aU, aU] [] s1 = some (aI r, s2) ∧ Inv s2 := by
  have n3 := h.tg.1
  obtain ⟨n, hn⟩ : ∃ n : Nat, s 58 0 = n := ⟨(s 58 0).toNat, by omega⟩
  have hn3 : n ≤ 3 := by omega
  by_cases q1 : 0 ≤ c ∧ c < s 58 0
  · by_cases q2 : 0 ≤ j ∧ j < 6
    · by_cases q3 : 1 ≤ m ∧ m ≤ 60
      · by_cases q4 : 0 ≤ x ∧ x ≤ 20
        · -- the class's two runs
          obtain ⟨s1, bz, e1, -, R1, -, -, W1, -, T1, -⟩ := l_plain h.mo hn
          have I1 := h.wc W1
          have Msa : Mo s s1 := h.mo.rb R1 (fun k hk => funext fun i => W1 k i (by omega))
          have n1 : s1 58 0 = n := by rw [W1 58 0 (by omega)]; exact hn
          have M11 := I1.mo
          obtain ⟨-, by1, -, ey, -, Ry, -, -, Wy, -, y38⟩ := l_plain (n := n) M11 n1
          have M1y : Mo s1 by1 := M11.fb Ry Wy
          obtain ⟨s2, bx, f1, -, R2, -, -, W2, -, T2⟩ := l_sec (n := n) (c := c) (h := j) (m := m) M1y (by rw [Wy.k58]; exact n1) y38 (by omega) (by omega) (by omega)
          have I2 := I1.wc W2
          have t9 : s1 0 9 = s 0 9 := W1.k09
          have k12 : ∀ k : Int, 56 ≤ k → s2 k = s k := fun k hk => funext fun i => (W2 k i (by omega)).trans (W1 k i (by omega))
          have n2 : s2 58 0 = n := by rw [k12 58 (by decide)]; exact hn
          -- the reference's
          have Ms2 : Mo s s2 := h.mo.rb R2 k12
          obtain ⟨p1, s3, g1, g2, P1, R3, H13, -, W3, -, k38⟩ := l_plain (n := n) Ms2 n2
          have ep : p1 = s1 := by rw [e1] at g1; cases g1; rfl
          subst ep
          have I3 := I2.wr W3
          have M13 : Mo p1 s3 := (Ms2.fa R1 W1).fb R3 W3
          have n33 : s3 58 0 = n := by rw [W3.k58]; exact n2
          obtain ⟨p2, s4, v1, v2, P2, R4, H24, -, W4, T4⟩ := l_sec (n := n) (c := c) (h := j) (m := m) M13 n33 k38 (by omega) (by omega) (by omega)
          have ep2 : p2 = s2 := by rw [f1] at v1; cases v1; rfl
          subst ep2
          have I4 := I3.wr W4
          obtain ⟨u1, u2, u3, u4, u5, -, -, u8⟩ := H13.sums R1 R3 hn3 n33
          have n4 : s4 58 0 = n := by rw [W4.k58]; exact n33
          obtain ⟨w1, w2, w3, w4, w5, -, -, w8⟩ := H24.sums P2 R4 hn3 n4
          have k66 : s3 66 = s 66 := funext fun i => (W3 66 i (by omega)).trans (congrFun (k12 66 (by decide)) i)
          have k19 : s3 56 19 = s 56 19 := (W3 56 19 (by omega)).trans (congrFun (k12 56 (by decide)) 19)
          rw [k66, k19] at T4
          unfold tot at T1 T4
          rw [sm3_sN hn3, sm3_sN hn3] at T1 T4
          have t29 : p2 0 9 = s 0 9 := W2.k09.trans t9
          have t5 := I2.t567
          rw [t29, k12 58 (by decide)] at t5
          have e58 : s4 58 = s 58 := W4.k58.trans (W3.k58.trans (k12 58 (by decide)))
          have r4 := h.tg.2.2.1 4 (by decide) (by decide)
          have r5 := h.tg.2.2.1 5 (by decide) (by decide)
          have r6 := h.tg.2.2.1 6 (by decide) (by decide)
          obtain ⟨S1, hS1⟩ : ∃ S, S = sN (p1 29) n := ⟨_, rfl⟩
          obtain ⟨L1, hL1⟩ : ∃ S, S = sN (p1 28) n := ⟨_, rfl⟩
          obtain ⟨V1, hV1⟩ : ∃ S, S = p1 23 7 := ⟨_, rfl⟩
          obtain ⟨S2, hS2⟩ : ∃ S, S = sN (p2 29) n := ⟨_, rfl⟩
          obtain ⟨L2, hL2⟩ : ∃ S, S = sN (p2 28) n := ⟨_, rfl⟩
          obtain ⟨V2, hV2⟩ : ∃ S, S = p2 23 7 := ⟨_, rfl⟩
          rw [← hS1, ← hL1, ← hV1] at T1
          rw [← hS2, ← hL2, ← hV2] at T4
          rw [← hS1] at u1 u3 u4
          rw [← hL1] at u2 u5
          rw [← hV1] at u8
          rw [← hS2] at w1 w3 w4
          rw [← hL2] at w2 w5
          rw [← hV2] at w8
          have cons : L2 + V2 - (L1 + V1) = m - (S2 - S1) := by omega
          obtain ⟨D, hD⟩ : ∃ D, D = S2 - S1 := ⟨_, rfl⟩
          rw [← hD] at cons
          have rD : -18000 ≤ D ∧ D ≤ 18000 := by omega
          have x1 : w32 (S2 - S1) = D := by rw [hD]; exact w32_id (by omega) (by omega)
          have x2 : w32 (L2 + V2) = L2 + V2 := by clear x1; exact w32_id (by omega) (by omega)
          have x3 : w32 (L1 + V1) = L1 + V1 := by clear x1 x2; exact w32_id (by omega) (by omega)
          have x4 : w32 (L2 + V2 - (L1 + V1)) = m - D := by rw [cons]; clear x1 x2 x3; exact w32_id (by omega) (by omega)
          have x5 : w32 (m - D) = m - D := by clear x1 x2 x3 x4; exact w32_id (by omega) (by omega)
          have rp : ∀ y t : Int, -18100 ≤ y ∧ y ≤ 18100 → 0 ≤ t ∧ t ≤ 99 → -1800000 ≤ y * t ∧ y * t ≤ 1800000 := fun y t hy ht => by
            have a1 := mul_rng (a := y + 18100) (A := 36200) (b := t) (B := 99) (by omega) ht
            have a2 : (y + 18100) * t = y * t + 18100 * t := Int.add_mul _ _ _
            have a3 := mul_rng (a := 18100 - y) (A := 36200) (b := t) (B := 99) (by omega) ht
            have a4 : (18100 - y) * t = 18100 * t - y * t := Int.sub_mul _ _ _
            omega
          have p1' := rp D (s 58 5) (by omega) r5
          have p2' := rp (m - D) (s 58 6) (by clear x1 x2 x3 x4 x5; omega) r6
          have p3' := mul_rng (a := m) (A := 60) (b := s 58 4 + x) (B := 119) (by omega) (by omega)
          have y1 : w32 (D * s 58 5) = D * s 58 5 := by clear x1 x2 x3 x4 x5; exact w32_id (by omega) (by omega)
          have y2 : w32 ((m - D) * s 58 6) = (m - D) * s 58 6 := by clear x1 x2 x3 x4 x5 y1; exact w32_id (by omega) (by omega)
          have y3 : w32 (s 58 4 + x) = s 58 4 + x := by clear x1 x2 x3 x4 x5 y1 y2; exact w32_id (by omega) (by omega)
          have y4 : w32 (m * (s 58 4 + x)) = m * (s 58 4 + x) := by clear x1 x2 x3 x4 x5 y1 y2 y3; exact w32_id (by omega) (by omega)
          have y5 : w32 (D * s 58 5 + (m - D) * s 58 6) = D * s 58 5 + (m - D) * s 58 6 := by clear x1 x2 x3 x4 x5 y1 y2 y3 y4; exact w32_id (by omega) (by omega)
          have y6 : w32 (D * s 58 5 + (m - D) * s 58 6 - m * (s 58 4 + x)) = D * s 58 5 + (m - D) * s 58 6 - m * (s 58 4 + x) := by clear x1 x2 x3 x4 x5 y1 y2 y3 y4 y5; exact w32_id (by omega) (by omega)
          have y7 : w32 (100000 + D * s 58 5) = 100000 + D * s 58 5 := by clear x1 x2 x3 x4 x5 y1 y2 y3 y4 y5 y6; exact w32_id (by omega) (by omega)
          have y8 : w32 (100000 + D * s 58 5 + (m - D) * s 58 6) = 100000 + D * s 58 5 + (m - D) * s 58 6 := by clear x1 x2 x3 x4 x5 y1 y2 y3 y4 y5 y6 y7; exact w32_id (by omega) (by omega)
          have yE : 100000 + D * s 58 5 + (m - D) * s 58 6 - m * (s 58 4 + x) = D * s 58 5 + (m - D) * s 58 6 - m * (s 58 4 + x) + 100000 := by clear x1 x2 x3 x4 x5 y1 y2 y3 y4 y5 y6 y7 y8; omega
          have sw : sem 47 0 [aA 23, aA (s 0 9), aA 16, aI c, aI j, aI m] [] p1 = some (aU, p2) := by
            rw [← t9, g47_0 I1.th I1.1]
            show bnV (sem 48 0 [aA 23, aA (p1 0 9), aA 16, aU, aU] [] (A1 p1 c j m)) _ = _
            rw [f1, bnV_some]
          have sl' : sem 205 0 [aA 56, aU, aU] [] (up (up (up s3 56 37 m) 56 36 c) 56 35 j) = some (aU, s4) := v2
          refine ⟨w32 (D * s 58 5 + (m - D) * s 58 6 - m * (s 58 4 + x) + 100000), p2, s4, ?_, ?_, I4⟩
          · rw [g133_0 h.th h.1 h.tw, c_hasC h, if_pos q1, bnI_some, if_neg (by decide), c_isHalfHour, if_pos q2, bnI_some, if_neg (by decide), if_neg (show ¬ m < 1 by clear x1 x2 x3 x4 x5 y1 y2 y3 y4 y5 y6 y7 y8; omega), if_neg (show ¬ 60 < m by clear x1 x2 x3 x4 x5 y1 y2 y3 y4 y5 y6 y7 y8; omega), if_neg (show ¬ x < 0 by clear x1 x2 x3 x4 x5 y1 y2 y3 y4 y5 y6 y7 y8; omega), if_neg (show ¬ 20 < x by clear x1 x2 x3 x4 x5 y1 y2 y3 y4 y5 y6 y7 y8; omega), e1, bnV_some, u1, bnI_some, u2, bnI_some, g61_0 I1.1, ← hV1, bnI_some, sw, bnV_some, w1, bnI_some, w2, bnI_some, g61_0 I2.1, ← hV2, bnI_some, t5.1, t5.2.1, t5.2.2, x1, x2, x3, x4, y1, y2, y3, y4, y5, y6]
          · rw [g215_0 I2.1, c_isCorner I2, k12 58 (by decide), if_pos q1, bnI_some, if_neg (by decide), c_isHour, if_pos q2, bnI_some, if_neg (by decide), c_in, if_pos q3, bnI_some, if_neg (by decide), c_in, if_pos q4, bnI_some, if_neg (by decide), g2, bnV_some, u3, bnI_some, sl', bnV_some, w3, bnI_some, e58, x1, x5, y1, y2, y3, y4, y7, y8, yE]
        · refine ⟨-2, s, s, ?_, ?_, h⟩
          · rw [g133_0 h.th h.1 h.tw, c_hasC h, if_pos q1, bnI_some, if_neg (by decide), c_isHalfHour, if_pos q2, bnI_some, if_neg (by decide), if_neg (show ¬ m < 1 by omega), if_neg (show ¬ 60 < m by omega)]
            by_cases z : x < 0
            · rw [if_pos z]
            · rw [if_neg z, if_pos (by omega)]
          · rw [g215_0 h.1, c_isCorner h, if_pos q1, bnI_some, if_neg (by decide), c_isHour, if_pos q2, bnI_some, if_neg (by decide), c_in, if_pos q3, bnI_some, if_neg (by decide), c_in, if_neg q4, bnI_some, if_pos rfl]
      · refine ⟨-2, s, s, ?_, ?_, h⟩
        · rw [g133_0 h.th h.1 h.tw, c_hasC h, if_pos q1, bnI_some, if_neg (by decide), c_isHalfHour, if_pos q2, bnI_some, if_neg (by decide)]
          by_cases z : m < 1
          · rw [if_pos z]
          · rw [if_neg z, if_pos (by omega)]
        · rw [g215_0 h.1, c_isCorner h, if_pos q1, bnI_some, if_neg (by decide), c_isHour, if_pos q2, bnI_some, if_neg (by decide), c_in, if_neg q3, bnI_some, if_pos rfl]
    · refine ⟨-1, s, s, ?_, ?_, h⟩
      · rw [g133_0 h.th h.1 h.tw, c_hasC h, if_pos q1, bnI_some, if_neg (by decide), c_isHalfHour, if_neg q2, bnI_some, if_pos rfl]
      · rw [g215_0 h.1, c_isCorner h, if_pos q1, bnI_some, if_neg (by decide), c_isHour, if_neg q2, bnI_some, if_pos rfl]
  · refine ⟨-1, s, s, ?_, ?_, h⟩
    · rw [g133_0 h.th h.1 h.tw, c_hasC h, if_neg q1, bnI_some, if_pos rfl]
    · rw [g215_0 h.1, c_isCorner h, if_neg q1, bnI_some, if_pos rfl]

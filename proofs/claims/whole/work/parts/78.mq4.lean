/-! mornings: what a boy is paid -/
theorem c_soldBy {s : SG} (hR : RefC s) {c : Int} (hc : 0 ≤ c ∧ c < 3) : sem 57 0 [aA 23, aI c, aI 5] [] s = some (aI (s 25 (6 * c + 5)), s) := by
  rw [g57_0 hR, c_row hc (by decide), bnI_some, g_t (by omega)]
/-- what is sold at a corner, with or without a crier: the reference's as the class's -/
theorem c_soldAt {s : SG} (h : Inv s) {n : Nat} (hn : s 58 0 = n) {c f : Int} (hc : 0 ≤ c ∧ c < n) : ∃ V s1, sem 148 0 [aA 0, aI c, aI f] [] s = some (aI V, s1) ∧ RefC s1 ∧ WC s s1 ∧ ∀ b, Mo s b → b 58 0 = n → ∃ b', sem 205 0 [aA 56, aU, aU] [] (B0 b (if f = 0 then -1 else c)) = some (aU, b') ∧ RefC b' ∧ WR b b' ∧ b' 73 (6 * c + 5) = V := by
  have n3 := h.tg.1
  have hC : ∀ x : Int, 0 ≤ x → x < (n : Int) → (x = (if f = 0 then -9 else c) ↔ x = (if f = 0 then -1 else c)) := fun x x0 x1 => by
    split
    · omega
    · exact Iff.rfl
  have hM := h.mo
  obtain ⟨s1, bz, e1, -, R1, -, -, W1, -⟩ := l_cry (n := n) hM hn hC
  refine ⟨s1 25 (6 * c + 5), s1, ?_, R1, W1, fun b hb nb => ?_⟩
  · rw [g148_0 h.th h.1 h.tw]
    by_cases q : f = 0
    · rw [if_pos q] at e1
      have e : sem 45 0 [aA 23, aA (s 0 9), aA 16] [] s = some (aU, s1) := by
        rw [g45_0 h.th h.1]
        show bnV (sem 48 0 [aA 23, aA (s 0 9), aA 16, aU, aU] [] (A0 s (-9))) _ = _
        rw [e1, bnV_some]
      rw [if_pos q, e, bnV_some, c_soldBy R1 (by omega), bnI_some]
    · rw [if_neg q] at e1
      have e : sem 46 0 [aA 23, aA (s 0 9), aA 16, aI c] [] s = some (aU, s1) := by
        rw [g46_0 h.th h.1]
        show bnV (sem 48 0 [aA 23, aA (s 0 9), aA 16, aU, aU] [] (A0 s c)) _ = _
        rw [e1, bnV_some]
      rw [if_neg q, e, bnV_some, c_soldBy R1 (by omega), bnI_some]
  · obtain ⟨a2, b', f1, f2, f3, f4, f5, f6, f7, -⟩ := l_cry (n := n) hb nb hC
    have : a2 = s1 := by
      rw [e1] at f1
      cases f1
      rfl
    subst this
    exact ⟨b', f2, f4, f7, (f5.row (x := c) (j := 5) hc (by decide)).2.1.symm⟩
theorem q_paid {s : SG} (h : Inv s) (c x y : Int) : ∃ r s1 s2, sem 134 0 [aA 0, aI c, aI x, aI y] [] s = some (aI r, s1) ∧ sem 217 0 [aA 56, aI c, aI x, aI y] [] s1 = some (aI r, s2) ∧ Inv s2 := by
  have n3 := h.tg.1
  obtain ⟨n, hn⟩ : ∃ n : Nat, s 58 0 = n := ⟨(s 58 0).toNat, by omega⟩
  by_cases q1 : 0 ≤ c ∧ c < s 58 0
  · by_cases q2 : 0 ≤ x ∧ x ≤ 20
    · by_cases q3 : 0 ≤ y ∧ y ≤ 21
      · obtain ⟨V, s1, e1, R1, W1, e2⟩ := c_soldAt h hn (c := c) (f := if x < y then 0 else 1) (by omega)
        have I1 := h.wc W1
        have k58 : s1 58 = s 58 := funext fun i => W1 58 i (by omega)
        obtain ⟨b', f1, f2, f3, f4⟩ := e2 s1 (h.mo.rb R1 (fun k hk => funext fun i => W1 k i (by omega))) (by rw [k58]; exact hn)
        have ec : (if (if x < y then 0 else 1 : Int) = 0 then -1 else c) = if x < y then -1 else c := by
          by_cases z : x < y
          · rw [if_pos z, if_pos z, if_pos rfl]
          · rw [if_neg z, if_neg z, if_neg (by decide)]
        rw [ec] at f1
        have wr : w32 (w32 (6 * c) + 5) = 6 * c + 5 := by rw [w32_id (a := 6 * c) (by omega) (by omega), w32_id (by omega) (by omega)]
        have r18 : 0 ≤ 6 * c + 5 ∧ 6 * c + 5 < 18 := by clear wr; omega
        refine ⟨w32 (x * V), s1, b', ?_, ?_, I1.wr f3⟩
        · rw [g134_0 h.th h.1 h.tw, c_hasC h, if_pos q1, bnI_some, if_neg (by decide), if_neg (show ¬ x < 0 by clear wr; omega), if_neg (show ¬ 20 < x by clear wr; omega), c_isCryingPay, if_pos q3, bnI_some, if_neg (by decide), e1, bnI_some]
        · have po : sem 216 0 [aA 56, aI c, aI x, aI y] [] s1 = some (aI (w32 (x * V)), b') := by
            rw [g216_0 I1.1]
            show bnV (sem 205 0 [aA 56, aU, aU] [] (B0 s1 (if x < y then -1 else c))) _ = _
            rw [f1, bnV_some, wr, g_t r18, f4]
          rw [g217_0 I1.1, c_isCorner I1, k58, if_pos q1, bnI_some, if_neg (by decide), c_in, if_pos q2, bnI_some, if_neg (by decide), c_in, if_pos q3, bnI_some, if_neg (by decide), po, bnI_some]
      · refine ⟨-2, s, s, ?_, ?_, h⟩
        · rw [g134_0 h.th h.1 h.tw, c_hasC h, if_pos q1, bnI_some, if_neg (by decide), if_neg (show ¬ x < 0 by omega), if_neg (show ¬ 20 < x by omega), c_isCryingPay, if_neg q3, bnI_some, if_pos rfl]
        · rw [g217_0 h.1, c_isCorner h, if_pos q1, bnI_some, if_neg (by decide), c_in, if_pos q2, bnI_some, if_neg (by decide), c_in, if_neg q3, bnI_some, if_pos rfl]
    · refine ⟨-2, s, s, ?_, ?_, h⟩
      · rw [g134_0 h.th h.1 h.tw, c_hasC h, if_pos q1, bnI_some, if_neg (by decide)]
        by_cases z : x < 0
        · rw [if_pos z]
        · rw [if_neg z, if_pos (by omega)]
      · rw [g217_0 h.1, c_isCorner h, if_pos q1, bnI_some, if_neg (by decide), c_in, if_neg q2, bnI_some, if_pos rfl]
  · refine ⟨-1, s, s, ?_, ?_, h⟩
    · rw [g134_0 h.th h.1 h.tw, c_hasC h, if_neg q1, bnI_some, if_pos rfl]
    · rw [g217_0 h.1, c_isCorner h, if_neg q1, bnI_some, if_pos rfl]
theorem q_leastPay {s : SG} (h : Inv s) (c y w : Int) : ∃ r s1 s2, sem 135 0 [aA 0, aI c, aI y, aI w, aU, aU, aU] [] s = some (aI r, s1) ∧ sem 218 0 [aA 56, aI c, aI y, aI w, aU] [] s1 = some (aI r, s2) ∧ Inv s2 := by
  have n3 := h.tg.1
  obtain ⟨n, hn⟩ : ∃ n : Nat, s 58 0 = n := ⟨(s 58 0).toNat, by omega⟩
  by_cases q1 : 0 ≤ c ∧ c < s 58 0
  · by_cases q2 : 0 ≤ y ∧ y ≤ 21
    · by_cases q3 : 0 ≤ w ∧ w ≤ 999
      · obtain ⟨V0, s1, e1, R1, W1, e2⟩ := c_soldAt h hn (c := c) (f := 0) (by omega)
        have I1 := h.wc W1
        have k1 : ∀ k : Int, 56 ≤ k → s1 k = s k := fun k hk => funext fun i => W1 k i (by omega)
        obtain ⟨V1, s2, f1, R2, W2, f2⟩ := c_soldAt I1 (n := n) (by rw [k1 58 (by decide)]; exact hn) (c := c) (f := 1) (by omega)
        have I2 := I1.wc W2
        have k2 : ∀ k : Int, 56 ≤ k → s2 k = s k := fun k hk => (funext fun i => W2 k i (by omega)).trans (k1 k hk)
        have Ms2 : Mo s s2 := h.mo.rb R2 k2
        have r18 : 0 ≤ 6 * c + 5 ∧ 6 * c + 5 < 18 := by omega
        have wr : w32 (w32 (6 * c) + 5) = 6 * c + 5 := by rw [w32_id (a := 6 * c) (by omega) (by omega), w32_id (by omega) (by omega)]
        have po : ∀ (x : Int) (b : SG), Mo s b → b 58 0 = n → ∃ b', sem 216 0 [aA 56, aI c, aI x, aI y] [] b = some (aI (w32 (x * if x < y then V0 else V1)), b') ∧ RefC b' ∧ WR b b' := fun x b hb nb => by
          by_cases z : x < y
          · obtain ⟨b', g1, g2, g3, g4⟩ := e2 b hb nb
            rw [if_pos rfl] at g1
            refine ⟨b', ?_, g2, g3⟩
            rw [g216_0 hb.2.1]
            show bnV (sem 205 0 [aA 56, aU, aU] [] (B0 b (if x < y then -1 else c))) _ = _
            rw [if_pos z, g1, bnV_some, wr, g_t r18, g4, if_pos z]
          · obtain ⟨b', g1, g2, g3, g4⟩ := f2 b (hb.fa R1 W1) nb
            rw [if_neg (by decide)] at g1
            refine ⟨b', ?_, g2, g3⟩
            rw [g216_0 hb.2.1]
            show bnV (sem 205 0 [aA 56, aU, aU] [] (B0 b (if x < y then -1 else c))) _ = _
            rw [if_neg z, g1, bnV_some, wr, g_t r18, g4, if_neg z]
        have t9 : s 0 9 = s2 0 9 := (W2.k09.trans W1.k09).symm
        have L : ∀ (m : Nat) (x : Int) (b : SG), x + m = 21 → 0 ≤ x → Mo s b → b 58 0 = n → ∃ r b', sem 135 53 [aU, aU, aI y, aI w, aI V0, aI V1, aI x] [] s2 = some (aI r, s2) ∧ sem 218 40 [aA 56, aI c, aI y, aI w, aI x] [] b = some (aI r, b') ∧ RefC b' ∧ WR b b' := by
          clear wr
          intro m
          induction m with
          | zero =>
            intro x b hx h0 hb nb
            refine ⟨-9, b, ?_, ?_, hb.2.1, fun _ _ _ => rfl⟩
            · rw [g135_53 I2.th I2.1 I2.tw, if_pos (by omega)]
            · rw [g218_40 hb.2.1, if_neg (by omega)]
          | succ m ih =>
            intro x b hx h0 hb nb
            have x20 : ¬ 20 < x := by omega
            have x21 : x < 21 := by omega
            obtain ⟨b1, g1, g2, g3⟩ := po x b hb nb
            obtain ⟨r, b2, j1, j2, j3, j4⟩ := ih (x + 1) b1 (by omega) (by omega) (hb.fb g2 g3) (by rw [g3.k58]; exact nb)
            have wx : w32 (x + 1) = x + 1 := w32_id (by omega) (by omega)
            by_cases z : w32 (x * if x < y then V0 else V1) < w
            · refine ⟨r, b2, ?_, ?_, j3, g3.tr j4⟩
              · rw [g135_53 I2.th I2.1 I2.tw, if_neg x20, if_pos z, wx]
                exact j1
              · rw [g218_40 hb.2.1, if_pos x21, g1, bnI_some, if_pos z, wx]
                exact j2
            · refine ⟨x, b1, ?_, ?_, g2, g3⟩
              · rw [g135_53 I2.th I2.1 I2.tw, if_neg x20, if_neg z]
              · rw [g218_40 hb.2.1, if_pos x21, g1, bnI_some, if_neg z]
        obtain ⟨r, b', j1, j2, j3, j4⟩ := L 21 0 s2 (by decide) (by decide) Ms2 (by rw [k2 58 (by decide)]; exact hn)
        refine ⟨r, s2, b', ?_, ?_, I2.wr j4⟩
        · rw [g135_0 h.th h.1 h.tw, c_hasC h, if_pos q1, bnI_some, if_neg (by decide), c_isCryingPay, if_pos q2, bnI_some, if_neg (by decide), if_neg (show ¬ w < 0 by clear wr; omega), if_neg (show ¬ 999 < w by clear wr; omega), e1, bnI_some, f1, bnI_some]
          exact j1
        · rw [g218_0 I2.1, c_isCorner I2, k2 58 (by decide), if_pos q1, bnI_some, if_neg (by decide), c_in, if_pos q2, bnI_some, if_neg (by decide), c_in, if_pos q3, bnI_some, if_neg (by decide)]
          exact j2
      · refine ⟨-2, s, s, ?_, ?_, h⟩
        · rw [g135_0 h.th h.1 h.tw, c_hasC h, if_pos q1, bnI_some, if_neg (by decide), c_isCryingPay, if_pos q2, bnI_some, if_neg (by decide)]
          by_cases z : w < 0
          · rw [if_pos z]
          · rw [if_neg z, if_pos (by omega)]
        · rw [g218_0 h.1, c_isCorner h, if_pos q1, bnI_some, if_neg (by decide), c_in, if_pos q2, bnI_some, if_neg (by decide), c_in, if_neg q3, bnI_some, if_pos rfl]
    · refine ⟨-2, s, s, ?_, ?_, h⟩
      · rw [g135_0 h.th h.1 h.tw, c_hasC h, if_pos q1, bnI_some, if_neg (by decide), c_isCryingPay, if_neg q2, bnI_some, if_pos rfl]
      · rw [g218_0 h.1, c_isCorner h, if_pos q1, bnI_some, if_neg (by decide), c_in, if_neg q2, bnI_some, if_pos rfl]
  · refine ⟨-1, s, s, ?_, ?_, h⟩
    · rw [g135_0 h.th h.1 h.tw, c_hasC h, if_neg q1, bnI_some, if_pos rfl]
    · rw [g218_0 h.1, c_isCorner h, if_neg q1, bnI_some, if_pos rfl]

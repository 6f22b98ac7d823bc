/-! mornings: what is asked of one -/
def A0 (a : SG) (ca : Int) : SG := up (up a 23 9 ca) 23 10 (-9)
def B0 (b : SG) (cb : Int) : SG := up (up (up b 56 37 0) 56 36 0) 56 38 cb
theorem A0.w (a : SG) (ca : Int) : WC a (A0 a ca) := fun k i hk => by
  unfold A0
  rw [up_app, if_neg (by omega), up_app, if_neg (by omega)]
theorem B0.w (b : SG) (cb : Int) : WR b (B0 b cb) := fun k i hk => by
  unfold B0
  rw [up_app, if_neg (by omega), up_app, if_neg (by omega), up_app, if_neg (by omega)]
theorem A0.r {a : SG} (h : RefC a) (ca : Int) : RefC (A0 a ca) := RefC.upd (RefC.upd h (rcb_f (c := 3) (j := 9) rfl (by decide) (by decide))) (rcb_f (c := 3) (j := 10) rfl (by decide) (by decide))
theorem B0.r {b : SG} (h : RefC b) (cb : Int) : RefC (B0 b cb) := RefC.upd (RefC.upd (RefC.upd h (rcb_f (c := 9) (j := 37) rfl (by decide) (by decide))) (rcb_f (c := 9) (j := 36) rfl (by decide) (by decide))) (rcb_f (c := 9) (j := 38) rfl (by decide) (by decide))
/-- a run with or without a crier -/
theorem l_cry {a b : SG} {n : Nat} {ca cb : Int} (hM : Mo a b) (hn : b 58 0 = n) (hC : ∀ c : Int, 0 ≤ c → c < (n : Int) → (c = ca ↔ c = cb)) : ∃ a' b', sem 48 0 [aA 23, aA (a 0 9), aA 16, aU, aU] [] (A0 a ca) = some (aU, a') ∧ sem 205 0 [aA 56, aU, aU] [] (B0 b cb) = some (aU, b') ∧ RefC a' ∧ RefC b' ∧ HR a' b' 6 n 480 ∧ WC a a' ∧ WR b b' ∧ tot n a' = sm3 n (b 66) + b 56 19 ∧ b' 56 38 = cb := by
  have wa := A0.w a ca
  have wb := B0.w b cb
  have M0 : Mo (A0 a ca) (B0 b cb) := (hM.fa (A0.r hM.1 ca) wa).fb (B0.r hM.2.1 cb) wb
  have t9 : A0 a ca 0 9 = a 0 9 := wa.k09
  have k37 : B0 b cb 56 37 = 0 := by unfold B0; rw [up_ni (by decide), up_ni (by decide), up_at]
  have k36 : B0 b cb 56 36 = 0 := by unfold B0; rw [up_ni (by decide), up_at]
  have k38 : B0 b cb 56 38 = cb := by unfold B0; rw [up_at]
  have k9 : A0 a ca 23 9 = ca := by unfold A0; rw [up_ni (by decide), up_at]
  have k10 : A0 a ca 23 10 = -9 := by unfold A0; rw [up_at]
  obtain ⟨a', b', e1, e2, e3, e4, e5, e6, e7, e8⟩ := l_run (n := n) M0 (by rw [wb.k58]; exact hn) (Or.inl ⟨k10, k36, k37⟩) (fun c c0 c1 => by rw [k9, k38]; exact hC c c0 c1)
  rw [t9] at e1
  refine ⟨a', b', e1, e2, e3, e4, e5, wa.tr e6.w, wb.tr e7.w, ?_, by rw [e7 56 38 (by omega), k38]⟩
  have z : sTo (B0 b cb) 6 = 0 := by
    unfold sTo
    rw [k37]
    split <;> rfl
  have z66 : B0 b cb 66 = b 66 := funext fun i => wb 66 i (by omega)
  rw [e8, z, z66, wb 56 19 (by omega)]
  omega
theorem l_plain {a b : SG} {n : Nat} (hM : Mo a b) (hn : b 58 0 = n) : ∃ a' b', sem 45 0 [aA 23, aA (a 0 9), aA 16] [] a = some (aU, a') ∧ sem 206 0 [aA 56] [] b = some (aU, b') ∧ RefC a' ∧ RefC b' ∧ HR a' b' 6 n 480 ∧ WC a a' ∧ WR b b' ∧ tot n a' = sm3 n (b 66) + b 56 19 ∧ b' 56 38 = -1 := by
  obtain ⟨a', b', e1, e2, e3⟩ := l_cry (n := n) (ca := -9) (cb := -1) hM hn (fun c c0 c1 => by omega)
  refine ⟨a', b', ?_, ?_, e3⟩
  · rw [g45_0 hM.th hM.1]
    show bnV (sem 48 0 [aA 23, aA (a 0 9), aA 16, aU, aU] [] (A0 a (-9))) _ = _
    rw [e1, bnV_some]
  · rw [g206_0 hM.2.1]
    show bnV (sem 205 0 [aA 56, aU, aU] [] (B0 b (-1))) _ = _
    rw [e2, bnV_some]
theorem Inv.wc {s s' : SG} (h : Inv s) (f : WC s s') : Inv s' := h.sc (fun k i hk => by
  unfold scr at hk
  exact f k i (by omega))
theorem Inv.wr {s s' : SG} (h : Inv s) (f : WR s s') : Inv s' := h.sc (fun k i hk => by
  unfold scr at hk
  exact f k i (by omega))
/-- the class's run first, then the reference's in the store that it left -/
theorem l_plainQ {s : SG} (h : Inv s) {n : Nat} (hn : s 58 0 = n) : ∃ s1 s2, sem 45 0 [aA 23, aA (s 0 9), aA 16] [] s = some (aU, s1) ∧ sem 206 0 [aA 56] [] s1 = some (aU, s2) ∧ Inv s1 ∧ Inv s2 ∧ HR s1 s2 6 n 480 ∧ WC s s1 ∧ WR s1 s2 := by
  obtain ⟨a1, b1, e1, -, e3, -, -, e6, -⟩ := l_plain h.mo hn
  have I1 := h.wc e6
  have M1 : Mo s a1 := h.mo.rb e3 (fun k hk => funext fun i => e6 k i (by omega))
  obtain ⟨a2, b2, f1, f2, f3, f4, f5, f6, f7, -⟩ := l_plain (n := n) M1 (by rw [e6 58 0 (by omega)]; exact hn)
  have : a2 = a1 := by
    rw [e1] at f1
    cases f1
    rfl
  rw [this] at f5
  exact ⟨a1, b2, e1, f2, I1, I1.wr f7, f5, e6, f7⟩
theorem HR.row {a b : SG} {n : Nat} (h : HR a b 6 n 480) {x j : Int} (hx : 0 ≤ x ∧ x < n) (hj : 0 ≤ j ∧ j < 6) : RowI a b x j := h.2.2.1 x j hx.1 hx.2 hj.1 hj.2
theorem HR.end {a b : SG} {n : Nat} (h : HR a b 6 n 480) {x : Int} (hx : 0 ≤ x ∧ x < n) : a 29 x = b 73 (6 * x + 5) ∧ (0 ≤ a 29 x ∧ a 29 x ≤ 6000) ∧ a 28 x = b 72 (6 * x + 5) := by
  obtain ⟨o1, o2, o3⟩ := h.2.2.2.1 x hx.1 hx.2
  rw [if_neg (by decide), show 6 * x + 6 - 1 = 6 * x + 5 by omega] at o1
  have o3 := o3 (by decide)
  rw [show 6 * x + 6 - 1 = 6 * x + 5 by omega] at o3
  exact ⟨o1, o2, o3⟩
theorem c_tellB {s : SG} (hR : RefC s) {c j w : Int} (hc : 0 ≤ c ∧ c < 3) (hj : 0 ≤ j ∧ j < 6) (hw : 0 ≤ w ∧ w ≤ 3) : sem 56 0 [aA 23, aI c, aI j, aI w, aU] [] s = some (aI (s (24 + w) (6 * c + j)), s) := by
  have r : 0 ≤ 6 * c + j ∧ 6 * c + j < 18 := by omega
  rw [g56_0 hR, c_row hc hj, bnI_some]
  have : w = 0 ∨ w = 1 ∨ w = 2 ∨ w = 3 := by omega
  rcases this with rfl | rfl | rfl | rfl
  · rw [if_pos rfl, g_t r]; rfl
  · rw [if_neg (by decide), if_pos rfl, g_t r]; rfl
  · rw [if_neg (by decide), if_neg (by decide), if_pos rfl, g_t r]; rfl
  · rw [if_neg (by decide), if_neg (by decide), if_neg (by decide), g_t r]; rfl
theorem q_morning {s : SG} (h : Inv s) (c j w : Int) : ∃ r s1 s2, sem 128 0 [aA 0, aI c, aI j, aI w] [] s = some (aI r, s1) ∧ sem 207 0 [aA 56, aI c, aI j, aI w, aU] [] s1 = some (aI r, s2) ∧ Inv s2 := by
  have n3 := h.tg.1
  obtain ⟨n, hn⟩ : ∃ n : Nat, s 58 0 = n := ⟨(s 58 0).toNat, by omega⟩
  by_cases q1 : 0 ≤ c ∧ c < s 58 0
  · by_cases q2 : 0 ≤ j ∧ j < 6
    · have c3 : 0 ≤ c ∧ c < 3 := by omega
      have wr : w32 (w32 (6 * c) + j) = 6 * c + j := by rw [w32_id (a := 6 * c) (by omega) (by omega), w32_id (by omega) (by omega)]
      have r18 : 0 ≤ 6 * c + j ∧ 6 * c + j < 18 := by clear wr; omega
      by_cases q3 : 0 ≤ w ∧ w ≤ 3
      · obtain ⟨s1, s2, e1, e2, I1, I2, e3, e4, e5⟩ := l_plainQ h hn
        have e58 : s1 58 = s 58 := funext fun i => e4 58 i (by omega)
        obtain ⟨r1, r2, r3, r4, -⟩ := e3.row (x := c) (j := j) (by omega) q2
        refine ⟨s1 (24 + w) (6 * c + j), s1, s2, ?_, ?_, I2⟩
        · rw [g128_0 h.th h.1 h.tw, c_hasC h, if_pos q1, bnI_some, if_neg (by decide), c_isHalfHour, if_pos q2, bnI_some, if_neg (by decide), if_neg (by omega), if_neg (by omega), e1, bnV_some, c_tellB I1.1 c3 q2 q3, bnI_some]
        · rw [g207_0 I1.1, c_isCorner I1, e58, if_pos q1, bnI_some, if_neg (by decide), c_isHour, if_pos q2, bnI_some, if_neg (by decide), e2, bnV_some, wr]
          have : w = 0 ∨ w = 1 ∨ w = 2 ∨ w = 3 := by omega
          rcases this with rfl | rfl | rfl | rfl
          · rw [if_pos rfl, g_t r18, ← r1]; rfl
          · rw [if_neg (by decide), if_pos rfl, g_t r18, ← r2]; rfl
          · rw [if_neg (by decide), if_neg (by decide), if_pos rfl, g_t r18, ← r3]; rfl
          · rw [if_neg (by decide), if_neg (by decide), if_neg (by decide), if_pos rfl, g_t r18, ← r4]; rfl
      · obtain ⟨a1, b1, -, e2, -, -, -, -, e7, -⟩ := l_plain h.mo hn
        refine ⟨-2, s, b1, ?_, ?_, h.wr e7⟩
        · rw [g128_0 h.th h.1 h.tw, c_hasC h, if_pos q1, bnI_some, if_neg (by decide), c_isHalfHour, if_pos q2, bnI_some, if_neg (by decide)]
          by_cases z : w < 0
          · rw [if_pos z]
          · rw [if_neg z, if_pos (by omega)]
        · rw [g207_0 h.1, c_isCorner h, if_pos q1, bnI_some, if_neg (by decide), c_isHour, if_pos q2, bnI_some, if_neg (by decide), e2, bnV_some, if_neg (by omega), if_neg (by omega), if_neg (by omega), if_neg (by omega)]
    · refine ⟨-1, s, s, ?_, ?_, h⟩
      · rw [g128_0 h.th h.1 h.tw, c_hasC h, if_pos q1, bnI_some, if_neg (by decide), c_isHalfHour, if_neg q2, bnI_some, if_pos rfl]
      · rw [g207_0 h.1, c_isCorner h, if_pos q1, bnI_some, if_neg (by decide), c_isHour, if_neg q2, bnI_some, if_pos rfl]
  · refine ⟨-1, s, s, ?_, ?_, h⟩
    · rw [g128_0 h.th h.1 h.tw, c_hasC h, if_neg q1, bnI_some, if_pos rfl]
    · rw [g207_0 h.1, c_isCorner h, if_neg q1, bnI_some, if_pos rfl]
theorem l_first {a b : SG} (hA : RefC a) (hB : RefC b) {c : Int} (hc : 0 ≤ c ∧ c < 3) (hr : ∀ j : Int, 0 ≤ j → j < 6 → a 27 (6 * c + j) = b 75 (6 * c + j)) : ∀ (m : Nat) (j : Int), j + m = 6 → 0 ≤ j → ∃ r, (r = -9 ∨ (0 ≤ r ∧ r ≤ 5)) ∧ sem 58 2 [aA 23, aI c, aI j] [] a = some (aI r, a) ∧ sem 211 2 [aA 56, aI c, aI j] [] b = some (aI r, b) := by
  intro m
  induction m with
  | zero =>
    intro j hj h0
    refine ⟨-9, Or.inl rfl, ?_, ?_⟩
    · rw [g58_2 hA, if_neg (by omega)]
    · rw [g211_2 hB, if_neg (by omega)]
  | succ m ih =>
    intro j hj h0
    have j6 : j < 6 := by omega
    have r18 : 0 ≤ 6 * c + j ∧ 6 * c + j < 18 := by omega
    obtain ⟨r, i1, i2, i3⟩ := ih (j + 1) (by omega) (by omega)
    have e := hr j h0 j6
    have wr : w32 (w32 (6 * c) + j) = 6 * c + j := by rw [w32_id (a := 6 * c) (by omega) (by omega), w32_id (by omega) (by omega)]
    have wj : w32 (j + 1) = j + 1 := by clear wr; exact w32_id (by omega) (by omega)
    by_cases q : 0 < b 75 (6 * c + j)
    · refine ⟨j, Or.inr (by clear wr wj; omega), ?_, ?_⟩
      · rw [g58_2 hA, if_pos j6, c_row hc ⟨h0, j6⟩, bnI_some, g_t r18, e, if_pos q]
      · rw [g211_2 hB, if_pos j6, wr, g_t r18, if_pos q]
    · refine ⟨r, i1, ?_, ?_⟩
      · rw [g58_2 hA, if_pos j6, c_row hc ⟨h0, j6⟩, bnI_some, g_t r18, e, if_neg q, wj]
        exact i2
      · rw [g211_2 hB, if_pos j6, wr, g_t r18, if_neg q, wj]
        exact i3
theorem c_first {a b : SG} (hA : RefC a) (hB : RefC b) {c : Int} (hc : 0 ≤ c ∧ c < 3) (hr : ∀ j : Int, 0 ≤ j → j < 6 → a 27 (6 * c + j) = b 75 (6 * c + j)) : ∃ r, (r = -9 ∨ (0 ≤ r ∧ r ≤ 5)) ∧ sem 58 0 [aA 23, aI c, aU] [] a = some (aI r, a) ∧ sem 211 0 [aA 56, aI c, aU] [] b = some (aI r, b) := by
  rw [g58_0 hA, g211_0 hB]
  exact l_first hA hB hc hr 6 0 (by decide) (by decide)
theorem q_ranOut {s : SG} (h : Inv s) (c : Int) : ∃ r s1 s2, sem 130 0 [aA 0, aI c] [] s = some (aI r, s1) ∧ sem 212 0 [aA 56, aI c] [] s1 = some (aI r, s2) ∧ Inv s2 := by
  have n3 := h.tg.1
  obtain ⟨n, hn⟩ : ∃ n : Nat, s 58 0 = n := ⟨(s 58 0).toNat, by omega⟩
  by_cases q1 : 0 ≤ c ∧ c < s 58 0
  · obtain ⟨s1, s2, e1, e2, I1, I2, e3, e4, e5⟩ := l_plainQ h hn
    have e58 : s1 58 = s 58 := funext fun i => e4 58 i (by omega)
    obtain ⟨r, -, f1, f2⟩ := c_first I1.1 I2.1 (c := c) (by omega) (fun j j0 j1 => (e3.row (x := c) (j := j) (by omega) ⟨j0, j1⟩).2.2.2.1)
    refine ⟨r, s1, s2, ?_, ?_, I2⟩
    · rw [g130_0 h.th h.1 h.tw, c_hasC h, if_pos q1, bnI_some, if_neg (by decide), e1, bnV_some, f1, bnI_some]
    · rw [g212_0 I1.1, c_isCorner I1, e58, if_pos q1, bnI_some, if_neg (by decide), e2, bnV_some, f2, bnI_some]
  · refine ⟨-1, s, s, ?_, ?_, h⟩
    · rw [g130_0 h.th h.1 h.tw, c_hasC h, if_neg q1, bnI_some, if_pos rfl]
    · rw [g212_0 h.1, c_isCorner h, if_neg q1, bnI_some, if_pos rfl]

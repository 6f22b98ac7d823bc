/-! mornings: two runs side by side, the class's in a store a, the reference's in a store b -/
def MoT (a b : SG) : Prop := (a 0 9 = 32 ∨ a 0 9 = 37) ∧ (∀ i, 0 ≤ i → i < 28 → tv a (a 0 9) i = b 58 i) ∧ TRng (b 58)
def MoM (a b : SG) : Prop := (a 16 6 = b 56 15 ∧ 0 ≤ b 56 15 ∧ b 56 15 ≤ 2) ∧ (∀ c, 0 ≤ c → c < 3 → a 17 c = b 66 c ∧ a 18 c = b 68 c ∧ a 19 c = b 67 c ∧ (0 ≤ b 66 c ∧ b 66 c ≤ 60) ∧ (0 ≤ b 68 c ∧ b 68 c ≤ 9) ∧ (0 ≤ b 67 c ∧ b 67 c ≤ 63) ∧ (b 58 0 ≤ c → b 66 c = 0)) ∧ (a 16 7 = b 56 19 ∧ 0 ≤ b 56 19 ∧ b 56 19 ≤ 60) ∧ (a 16 8 = b 56 20 ∧ a 16 9 = b 56 21 ∧ RuleI (b 56 20) (b 56 21)) ∧ (a 16 10 = b 56 22 ∧ 0 ≤ b 56 22 ∧ b 56 22 ≤ 6) ∧ ∀ i, 0 ≤ i → i < 6 → (a 20 i = b 69 i ∧ a 21 i = b 70 i ∧ a 22 i = b 71 i) ∧ (i < b 56 22 → (0 ≤ b 69 i ∧ b 69 i ≤ 5) ∧ (0 ≤ b 70 i ∧ b 70 i < b 58 0) ∧ (1 ≤ b 71 i ∧ b 71 i ≤ 20))
def Mo (a b : SG) : Prop := RefC a ∧ RefC b ∧ MoT a b ∧ MoM a b
theorem Inv.mo {s : SG} (h : Inv s) : Mo s s := ⟨h.1, h.1, ⟨h.th, h.2.1.2.1, h.tg⟩, h.2.2.2.2.2.1⟩
/-- what a run of the class writes, and the reference's -/
def WC (a a' : SG) : Prop := ∀ k i, ¬ ((k = 23 ∧ 6 ≤ i) ∨ (24 ≤ k ∧ k ≤ 29)) → a' k i = a k i
def WR (b b' : SG) : Prop := ∀ k i, ¬ ((k = 56 ∧ 33 ≤ i ∧ i ≤ 38) ∨ (72 ≤ k ∧ k ≤ 78)) → b' k i = b k i
def FC (a a' : SG) : Prop := ∀ k i, ¬ ((k = 23 ∧ 6 ≤ i ∧ i ≤ 8) ∨ (24 ≤ k ∧ k ≤ 29)) → a' k i = a k i
def FR (b b' : SG) : Prop := ∀ k i, ¬ ((k = 56 ∧ (i = 33 ∨ i = 34)) ∨ (72 ≤ k ∧ k ≤ 78)) → b' k i = b k i
theorem FC.w {a a' : SG} (h : FC a a') : WC a a' := fun k i hk => h k i (by omega)
theorem FR.w {b b' : SG} (h : FR b b') : WR b b' := fun k i hk => h k i (by omega)
theorem FC.rf (a : SG) : FC a a := fun _ _ _ => rfl
theorem FR.rf (a : SG) : FR a a := fun _ _ _ => rfl
theorem FC.tr {a a' a2 : SG} (h : FC a a') (g : FC a' a2) : FC a a2 := fun k i hk => (g k i hk).trans (h k i hk)
theorem FR.tr {a a' a2 : SG} (h : FR a a') (g : FR a' a2) : FR a a2 := fun k i hk => (g k i hk).trans (h k i hk)
theorem WC.tr {a a' a2 : SG} (h : WC a a') (g : WC a' a2) : WC a a2 := fun k i hk => (g k i hk).trans (h k i hk)
theorem WR.tr {a a' a2 : SG} (h : WR a a') (g : WR a' a2) : WR a a2 := fun k i hk => (g k i hk).trans (h k i hk)
theorem WR.k58 {b b' : SG} (h : WR b b') : b' 58 = b 58 := funext fun i => h 58 i (by omega)
theorem FR.k58 {b b' : SG} (h : FR b b') : b' 58 = b 58 := h.w.k58
theorem WC.k09 {a a' : SG} (h : WC a a') : a' 0 9 = a 0 9 := h 0 9 (by omega)
set_option maxHeartbeats 4000000 in
theorem Mo.fa {a b a' : SG} (h : Mo a b) (hR : RefC a') (hs : WC a a') : Mo a' b := by
  obtain ⟨-, h1, ⟨t1, t2, t3⟩, h3⟩ := h
  have h9 := hs.k09
  unfold WC at hs
  refine ⟨hR, h1, ⟨by rw [h9]; exact t1, ?_, t3⟩, ?_⟩
  · rw [h9]
    intro i i0 i1
    have h2 := t2 i i0 i1
    unfold tv at h2 ⊢
    rcases t1 with t | t
    · rw [t] at h2 ⊢
      simp (disch := omega) only [hs]
      exact h2
    · rw [t] at h2 ⊢
      simp (disch := omega) only [hs]
      exact h2
  · unfold MoM at h3 ⊢
    simp (disch := omega) only [hs]
    exact h3
set_option maxHeartbeats 4000000 in
theorem Mo.fb {a b b' : SG} (h : Mo a b) (hR : RefC b') (hs : WR b b') : Mo a b' := by
  obtain ⟨h0, -, ⟨t1, t2, t3⟩, h3⟩ := h
  have e := hs.k58
  unfold WR at hs
  refine ⟨h0, hR, ⟨t1, by rw [e]; exact t2, by rw [e]; exact t3⟩, ?_⟩
  unfold MoM at h3 ⊢
  simp (disch := omega) only [hs]
  exact h3
/-- the reference's side may stand in any store that agrees from place 56 on -/
theorem Mo.rb {a b b' : SG} (h : Mo a b) (hR : RefC b') (hs : ∀ k, 56 ≤ k → b' k = b k) : Mo a b' := by
  obtain ⟨h0, -, ⟨t1, t2, t3⟩, h3⟩ := h
  have e := hs 58 (by decide)
  refine ⟨h0, hR, ⟨t1, by rw [e]; exact t2, by rw [e]; exact t3⟩, ?_⟩
  unfold MoM at h3 ⊢
  rw [hs 56 (by decide), hs 58 (by decide), hs 66 (by decide), hs 67 (by decide), hs 68 (by decide), hs 69 (by decide), hs 70 (by decide), hs 71 (by decide)]
  exact h3
theorem Mo.n4 {a b : SG} (h : Mo a b) : a (a 0 9) 4 = b 58 0 := h.2.2.1.2.1 0 (by decide) (by decide)
theorem Mo.tg {a b : SG} (h : Mo a b) : TRng (b 58) := h.2.2.1.2.2
theorem Mo.th {a b : SG} (h : Mo a b) : a 0 9 = 32 ∨ a 0 9 = 37 := h.2.2.1.1
theorem Mo.co {a b : SG} (h : Mo a b) {c k : Int} (hc : 0 ≤ c ∧ c < 3) (hk : 0 ≤ k ∧ k < 3) : sem 84 0 [aA (a 0 9), aI c, aI k, aU] [] a = some (aI (b 58 (10 + 3 * c + k)), a) := by
  have e1 := h.2.2.1.2.1 (10 + 3 * c + k) (by omega) (by omega)
  have e2 : tv a (a 0 9) (10 + 3 * c + k) = a (a 0 9 + 2) (3 * c + k) := by
    unfold tv
    repeat rw [if_neg (by omega)]
    rw [if_pos (by omega)]
    congr 1
    omega
  rw [c_comesTo (TR.of h.1 h.th) hc.1 hc.2 hk.1 hk.2, ← e2, e1]
theorem Mo.nx {a b : SG} (h : Mo a b) {c : Int} (hc : 0 ≤ c ∧ c < b 58 0) : sem 86 0 [aA (a 0 9), aI c] [] a = some (aI (b 58 (7 + c)), a) := by
  have n3 := h.tg.1
  have e1 := h.2.2.1.2.1 (7 + c) (by omega) (by omega)
  have e2 : tv a (a 0 9) (7 + c) = a (a 0 9 + 4) c := by
    unfold tv
    repeat rw [if_neg (by omega)]
    rw [if_pos (by omega)]
    congr 1
    omega
  rw [c_nextFrom (TR.of h.1 h.th), h.n4, if_pos (by omega), ← e2, e1]
/-- where people go on to from a corner -/
theorem Mo.nr {a b : SG} (h : Mo a b) {c : Int} (hc : 0 ≤ c ∧ c < 3) : b 58 (7 + c) = -9 ∨ (0 ≤ b 58 (7 + c) ∧ b 58 (7 + c) < b 58 0 ∧ b 58 (7 + c) ≠ c) := by
  have := h.tg.2.2.2.1 (7 + c) (by omega) (by omega)
  omega
theorem Mo.cr {a b : SG} (h : Mo a b) {c k : Int} (hc : 0 ≤ c ∧ c < 3) (hk : 0 ≤ k ∧ k < 3) : 0 ≤ b 58 (10 + 3 * c + k) ∧ b 58 (10 + 3 * c + k) ≤ 3 := h.tg.2.2.2.2.1 _ (by omega) (by omega)
theorem bit_rng (x : Int) : iandA x 1 = 0 ∨ iandA x 1 = 1 := by
  unfold iandA
  have e : (Int32.ofInt x &&& Int32.ofInt 1).toInt = ((Int32.ofInt x).toBitVec &&& 1#32).toInt := rfl
  rw [e]
  have h1 : ((Int32.ofInt x).toBitVec &&& 1#32).toNat ≤ 1 := by
    rw [BitVec.toNat_and]
    exact Nat.and_le_right
  rw [BitVec.toInt_eq_toNat_of_lt (by omega)]
  omega
theorem c_givesAt {s : SG} (hR : RefC s) {c : Int} (hc : 0 ≤ c ∧ c < 3) : sem 21 0 [aA 16, aI c] [] s = some (aI (s 17 c), s) := by
  rw [g21_0 (Or.inl rfl) hR, c_isRow, if_pos hc, bnI_some, if_neg (by decide), g_t hc]
  rfl
theorem c_habitAt {s : SG} (hR : RefC s) {c : Int} (hc : 0 ≤ c ∧ c < 3) : sem 22 0 [aA 16, aI c] [] s = some (aI (s 18 c), s) := by
  rw [g22_0 (Or.inl rfl) hR, c_isRow, if_pos hc, bnI_some, if_neg (by decide), g_t hc]
  rfl
def cbh (hb b : Int) : Int := if hb < 3 then (if 0 < b then b - 1 else 0) else if 7 < hb then b + 1 else b
theorem c_comeByHabit {s : SG} (hR : RefC s) {c b : Int} (hc : 0 ≤ c ∧ c < 3) (hb : 0 ≤ b ∧ b ≤ 3) : sem 29 0 [aA 16, aI c, aI b, aU] [] s = some (aI (cbh (s 18 c) b), s) := by
  rw [g29_0 (Or.inl rfl) hR, c_habitAt hR hc, bnI_some, w32_id (a := b - 1) (by omega) (by omega), w32_id (a := b + 1) (by omega) (by omega)]
  unfold cbh
  by_cases q1 : s 18 c < 3
  · rw [if_pos q1, if_pos q1]
    have : max (b - 1) 0 = if 0 < b then b - 1 else 0 := by split <;> omega
    rw [this]
  · rw [if_neg q1, if_neg q1]
    split <;> rfl
theorem cbh_rng {hb b : Int} (h : 0 ≤ b ∧ b ≤ 3) : 0 ≤ cbh hb b ∧ cbh hb b ≤ 4 := by
  unfold cbh
  repeat' split
  all_goals omega
theorem c_isMoreTold {s : SG} (hR : RefC s) {c j : Int} (hc : 0 ≤ c ∧ c < 3) (hj : 0 ≤ j ∧ j < 6) : sem 23 0 [aA 16, aI c, aI j] [] s = some (aI (iandA (ishrA (s 19 c) j) 1), s) := by
  rw [g23_0 (Or.inl rfl) hR, c_isRow, if_pos hc, bnI_some, if_neg (by decide), c_isHalfHour, if_pos hj, bnI_some, if_neg (by decide), g_t hc, show (16 : Int) + 3 = 19 from rfl]
  rcases bit_rng (ishrA (s 19 c) j) with e | e
  · rw [e, if_neg (by decide)]
  · rw [e, if_pos rfl]
theorem c_row {c j : Int} (hc : 0 ≤ c ∧ c < 3) (hj : 0 ≤ j ∧ j < 6) (s : SG) : sem 55 0 [aI c, aI j, aU] [] s = some (aI (6 * c + j), s) := by
  have w : w32 (w32 (c * 6) + j) = 6 * c + j := by
    rw [w32_id (a := c * 6) (by omega) (by omega), w32_id (by omega) (by omega)]
    omega
  rw [e55_0, w, if_neg (by omega), if_pos (by omega)]

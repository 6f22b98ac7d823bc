theorem Inv.t567 {s : SG} (h : Inv s) : s (s 0 9) 5 = s 58 4 ∧ s (s 0 9) 6 = s 58 5 ∧ s (s 0 9) 7 = s 58 6 := ⟨h.2.1.2.1 4 (by decide) (by decide), h.2.1.2.1 5 (by decide) (by decide), h.2.1.2.1 6 (by decide) (by decide)⟩
theorem l_earnC {s : SG} (h : Inv s) {n : Nat} (hn : s 58 0 = n) {p : Int} (hp : 0 ≤ p ∧ p ≤ 60) (h9 : ∀ x : Int, 0 ≤ x → x < n → 0 ≤ s 9 x ∧ s 9 x ≤ 60) : ∀ m c : Nat, c + m = n → sem 16 5 [aA 5, aA (s 0 9), aI p, aL (sS (s 58) (s 9) c), aU, aI (c : Int), aU] [] s = some (aL (ern (s 58) p (sS (s 58) (s 9) n)), s) := by
  have n3 := h.tg.1
  have e4 := h.t4
  intro m
  induction m with
  | zero =>
    intro c hc
    have : c = n := by omega
    subst this
    have r := sS_rng h.tg (n := c) (by omega) h9 c (Nat.le_refl c)
    have t := h.t567
    rw [g16_5 h.th h.1, e4, hn, if_neg (by omega), g16_42 h.th h.1, t.1, t.2.1, t.2.2, h.2.2.2.1.1, (ern_w h.tg hp (by omega)).1]
  | succ m ih =>
    intro c hc
    have w : w32 ((c : Int) + 1) = ((c + 1 : Nat) : Int) := by rw [w32_id (by omega) (by omega)]; omega
    have r9 := h9 (c : Int) (by omega) (by omega)
    have r := sS_rng h.tg (n := n) (by omega) h9 (c + 1) (by omega)
    have e : sS (s 58) (s 9) (c + 1) = sS (s 58) (s 9) c + soldS (s 58) c (s 9 c) := rfl
    rw [g16_5 h.th h.1, e4, hn, if_pos (by omega), if_pos (by omega), g_t (by omega), c_soldOf h (by omega) r9, bnL_some, ← e, w64_id (by omega) (by omega), w]
    exact ih (c + 1) (by omega)
theorem l_earn9 {s : SG} (hR : RefC s) (hT : TRng (s 58)) (hA : sem 167 0 [aA 56] [] s = some (aL (allS (s 58)), s)) {n : Nat} (hn : s 58 0 = n) {p : Int} (hp : 0 ≤ p ∧ p ≤ 60) (h9 : ∀ x : Int, 0 ≤ x → x < n → 0 ≤ s 61 x ∧ s 61 x ≤ 60) : ∀ m c : Nat, c + m = n → sem 174 5 [aA 56, aI p, aL (sS (s 58) (s 61) c), aU, aI (c : Int)] [] s = some (aL (ern (s 58) p (sS (s 58) (s 61) n)), s) := by
  have n3 := hT.1
  intro m
  induction m with
  | zero =>
    intro c hc
    have : c = n := by omega
    subst this
    have r := sS_rng hT (n := c) (by omega) h9 c (Nat.le_refl c)
    rw [g174_5 hR, hn, if_neg (by omega), hA, bnL_some, hA, bnL_some, (ern_w hT hp (by omega)).1]
  | succ m ih =>
    intro c hc
    have w : w32 ((c : Int) + 1) = ((c + 1 : Nat) : Int) := by rw [w32_id (by omega) (by omega)]; omega
    have r9 := h9 (c : Int) (by omega) (by omega)
    have r := sS_rng hT (n := n) (by omega) h9 (c + 1) (by omega)
    have e : sS (s 58) (s 61) (c + 1) = sS (s 58) (s 61) c + soldS (s 58) c (s 61 c) := rfl
    rw [g174_5 hR, hn, if_pos (by omega), g_t (by omega), c_meanP hR hT (by omega) r9, bnL_some, mean_0, ← e, w64_id (by omega) (by omega), w]
    exact ih (c + 1) (by omega)

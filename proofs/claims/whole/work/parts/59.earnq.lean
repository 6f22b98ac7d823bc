theorem Inv.t567 {s : SG} (h : Inv s) : s (s 0 9) 5 = s 58 4 ∧ s (s 0 9) 6 = s 58 5 ∧ s (s 0 9) 7 = s 58 6 := ⟨h.2.1.2.1 4 (by decide) (by decide), h.2.1.2.1 5 (by decide) (by decide), h.2.1.2.1 6 (by decide) (by decide)⟩
theorem l_earnC {s : SG} (h : Inv s) {n : Nat} (hn : s 58 0 = n) {p : Int} (hp : 0 ≤ p ∧ p ≤ 60) (h9 : ∀ x : Int, 0 ≤ x → x < n → 0 ≤ s 9 x ∧ s 9 x ≤ 60) : ∀ m c : Nat, c + m = n → sem 16 5 [aA 5, aA (s 0 9), aI p, aL (sS (s 58) (s 9) c), aU, aI (c : Int), aU] [] s = some (aL (ern (s 58) p (sS (s 58) (s 9) n)), s) := by
  have n3 := h.tg.1
  have e4 := h.t4
  intro m
  induction m with
  | zero =>
    intro c hc
    have : c = n := by omega
    subst this
    have r := sS_rng h.tg (n := c) (by omega) h9 c (Nat.le_refl c)
    have t := h.t567
    rw [g16_5 h.th h.1, e4, hn, if_neg (by omega), g16_42 h.th h.1, t.1, t.2.1, t.2.2, h.2.2.2.1.1, (ern_w h.tg hp (by omega)).1]
  | succ m ih =>
    intro c hc
    have w : w32 ((c : Int) + 1) = ((c + 1 : Nat) : Int) := by rw [w32_id (by omega) (by omega)]; omega
    have r9 := h9 (c : Int) (by omega) (by omega)
    have r := sS_rng h.tg (n := n) (by omega) h9 (c + 1) (by omega)
    have e : sS (s 58) (s 9) (c + 1) = sS (s 58) (s 9) c + soldS (s 58) c (s 9 c) := rfl
    rw [g16_5 h.th h.1, e4, hn, if_pos (by omega), if_pos (by omega), g_t (by omega), c_soldOf h (by omega) r9, bnL_some, ← e, w64_id (by omega) (by omega), w]
    exact ih (c + 1) (by omega)
theorem l_earn9 {s : SG} (hR : RefC s) (hT : TRng (s 58)) (hA : sem 167 0 [aA 56] [] s = some (aL (allS (s 58)), s)) {n : Nat} (hn : s 58 0 = n) {p : Int} (hp : 0 ≤ p ∧ p ≤ 60) (h9 : ∀ x : Int, 0 ≤ x → x < n → 0 ≤ s 61 x ∧ s 61 x ≤ 60) : ∀ m c : Nat, c + m = n → sem 174 5 [aA 56, aI p, aL (sS (s 58) (s 61) c), aU, aI (c : Int)] [] s = some (aL (ern (s 58) p (sS (s 58) (s 61) n)), s) := by
  have n3 := hT.1
  intro m
  induction m with
  | zero =>
    intro c hc
    have : c = n := by omega
    subst this
    have r := sS_rng hT (n := c) (by omega) h9 c (Nat.le_refl c)
    rw [g174_5 hR, hn, if_neg (by omega), hA, bnL_some, hA, bnL_some, (ern_w hT hp (by omega)).1]
  | succ m ih =>
    intro c hc
    have w : w32 ((c : Int) + 1) = ((c + 1 : Nat) : Int) := by rw [w32_id (by omega) (by omega)]; omega
    have r9 := h9 (c : Int) (by omega) (by omega)
    have r := sS_rng hT (n := n) (by omega) h9 (c + 1) (by omega)
    have e : sS (s 58) (s 61) (c + 1) = sS (s 58) (s 61) c + soldS (s 58) c (s 61 c) := rfl
    rw [g174_5 hR, hn, if_pos (by omega), g_t (by omega), c_meanP hR hT (by omega) r9, bnL_some, mean_0, ← e, w64_id (by omega) (by omega), w]
    exact ih (c + 1) (by omega)
theorem sS_cg (T : Int → Int) {f f' : Int → Int} {n : Nat} (h : ∀ x : Int, 0 ≤ x → x < n → f x = f' x) : ∀ c : Nat, c ≤ n → sS T f c = sS T f' c := by
  intro c
  induction c with
  | zero => intro _; rfl
  | succ c ih =>
    intro hc
    show sS T f c + soldS T c (f c) = sS T f' c + soldS T c (f' c)
    rw [ih (by omega), h c (by omega) (by omega)]
theorem gv_rng (T : Int → Int) (but : Int) (n : Nat) : ∀ (m : Nat) (f : Int → Int) (k : Int), (∀ x : Int, 0 ≤ x → x < n → 0 ≤ f x ∧ f x + m ≤ k) → k ≤ 60 → ∀ x : Int, 0 ≤ x → x < n → 0 ≤ gv T but n m f x ∧ gv T but n m f x ≤ k := by
  intro m
  induction m with
  | zero =>
    intro f k h hk x x0 x1
    have := h x x0 x1
    show 0 ≤ f x ∧ f x ≤ k
    exact ⟨this.1, by omega⟩
  | succ m ih =>
    intro f k h hk x x0 x1
    refine ih (gst T but n f) k (fun y y0 y1 => ?_) hk x x0 x1
    have := h y y0 y1
    unfold gst
    split
    · omega
    · dsimp only
      split <;> omega
theorem q_earned {s : SG} (h : Inv s) (p f : Int) : ∃ r s1 s2, sem 112 0 [aA 0, aI p, aI f, aU, aU] [] s = some (aL r, s1) ∧ sem 176 0 [aA 56, aI p, aI f, aU, aU] [] s1 = some (aL r, s2) ∧ Inv s2 := by
  have h3 := h.tg.1
  by_cases q2 : 0 ≤ p ∧ p ≤ 60
  · obtain ⟨n, hn⟩ : ∃ n : Nat, s 58 0 = n := ⟨(s 58 0).toNat, by omega⟩
    obtain ⟨s1, s2, a1, a2, a3, a4⟩ := c_giveC h hn p q2
    have hI : Inv s2 := h.sc (Sc.k9 a3)
    have e58 : s2 58 = s 58 := a3 58 (by decide)
    have e0 : s2 0 9 = s 0 9 := by rw [a3 0 (by decide)]
    obtain ⟨s3, b1, b2, b3⟩ := c_give9 hI.1 (by rw [e58]; exact h.tg) (by rw [e58]; exact hn) p (-1) q2
    have hI3 : Inv s3 := hI.sc (Sc.k61 b2)
    have f58 : s3 58 = s 58 := (b2 58 (by decide)).trans e58
    have rg := gv_rng (s 58) (-1) n p.toNat (fun _ => 0) 60 (fun x x0 x1 => ⟨Int.le_refl 0, by omega⟩) (by decide)
    have c9 := l_earnC hI (by rw [e58]; exact hn) q2 (fun x x0 x1 => by rw [a4 x x0 x1]; exact rg x x0 x1) n 0 (by omega)
    have c61 := l_earn9 hI3.1 hI3.tg (c_all hI3) (by rw [f58]; exact hn) q2 (fun x x0 x1 => by rw [b3 x x0 x1, e58]; exact rg x x0 x1) n 0 (by omega)
    have eS : sS (s3 58) (s3 61) n = sS (s2 58) (s2 9) n := by
      rw [f58, e58]
      exact sS_cg (s 58) (fun x x0 x1 => by rw [b3 x x0 x1, a4 x x0 x1, e58]) n (Nat.le_refl n)
    have ra := allS_rng h.tg
    have rS := sS_rng hI.tg (n := n) (f := s2 9) (by omega) (fun x x0 x1 => by rw [a4 x x0 x1]; exact rg x x0 x1) n (Nat.le_refl n)
    have re := ern_w hI.tg q2 (S := sS (s2 58) (s2 9) n) (by omega)
    rw [e0] at c9
    have eC : sem 10 0 [aA 5, aA (s 0 9), aI p] [] s = some (aL (ern (s2 58) p (sS (s2 58) (s2 9) n)), s2) := by
      rw [g10_0 h.th h.1, a1, bnV_some, a2, bnV_some, g16_0 h.th hI.1]
      have c9' : sem 16 5 [aA 5, aA (s 0 9), aI p, aL 0, aU, aI 0, aU] [] s2 = _ := c9
      rw [c9', bnL_some]
    refine ⟨if f = 0 then frac (ern (s2 58) p (sS (s2 58) (s2 9) n)) (allS (s2 58)) f else w64 (1000000 + frac (ern (s2 58) p (sS (s2 58) (s2 9) n)) (allS (s2 58)) f), s2, s3, ?_, ?_, hI3⟩
    · rw [g112_0 h.th h.1 h.tw, c_isPapers, if_pos q2, bnI_some, if_neg (by decide), eC, bnL_some, c_whole hI, bnL_some, c_fraction (by omega) (by rw [e58]; omega), bnL_some, Int.add_comm 1000000]
      split <;> rfl
    · have c61' : sem 174 5 [aA 56, aI p, aL 0, aU, aI 0] [] s3 = _ := c61
      rw [g176_0 hI.1, c_in, if_pos q2, bnI_some, if_neg (by decide), b1, bnV_some, g174_0 hI3.1, c61', bnL_some, c_all hI3, bnL_some, eS, f58, ← e58, c_part (by omega) (by rw [e58]; omega), bnL_some]
      split <;> rfl
  · refine ⟨-2, s, s, ?_, ?_, h⟩
    · rw [g112_0 h.th h.1 h.tw, c_isPapers, if_neg q2, bnI_some, if_pos rfl]
    · rw [g176_0 h.1, c_in, if_neg q2, bnI_some, if_pos rfl]

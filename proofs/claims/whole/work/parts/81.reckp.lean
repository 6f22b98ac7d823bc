/-! the class's reckon once more, under its own references -/
theorem TR.ofP {s : SG} (h : RefP s) {t : Int} (ht : t = 32 ∨ t = 37) : TR s t := by
  unfold RefP at h
  unfold TR
  rcases ht with rfl | rfl <;> simp only [h, Int.reduceAdd, kds, kls, and_self]
theorem ru8P {s : SG} (h : RefP s) (i v : Int) : RefP (up s 8 i v) := RefP.upd h (rcb_a (by decide))
theorem ru7P {s : SG} (h : RefP s) (i v : Int) : RefP (up s 7 i v) := RefP.upd h (rcb_a (by decide))
theorem ru6P {s : SG} (h : RefP s) (i v : Int) : RefP (up s 6 i v) := RefP.upd h (rcb_a (by decide))
theorem l_chinP {x : Int} (hx : 0 ≤ x ∧ x ≤ 9) {h : Nat} (hh : h < 6) : ∀ (n : Nat) (s : SG), n ≤ 6 → RefP s → (∀ e, 0 ≤ e → e ≤ 6 → s 8 e = if (n : Int) < e then Pc x (h + 1) e else Pc x h e) → ∃ s', sem 3 25 [aA 5, aI x, aI ((h : Int) + 1), aI (n : Int)] [] s = sem 3 17 [aA 5, aI x, aI ((h : Int) + 1 + 1), aU] [] s' ∧ RefP s' ∧ (∀ e, 0 ≤ e → e ≤ 6 → s' 8 e = Pc x (h + 1) e) ∧ ∀ q i, q ≠ 8 → s' q i = s q i := by
  have wx : w32 (10 - x) = 10 - x := w32_id (by omega) (by omega)
  intro n
  induction n with
  | zero =>
    intro s hn hR hs
    have w1 : w32 ((h : Int) + 1 + 1) = (h : Int) + 1 + 1 := w32_id (by omega) (by omega)
    have h0 := hs 0 (by decide) (by decide)
    rw [if_neg (by omega)] at h0
    have r0 := Pc_rng hx (h := h) (by omega) (e := 0) (by decide)
    have m0 := mul_rng r0 (b := 10 - x) (B := 10) (by omega)
    have w2 : w64 (s 8 0 * (10 - x)) = s 8 0 * (10 - x) := by rw [h0]; exact w64_id (by omega) (by omega)
    rw [p3_25 hR, if_pos (by decide), w1, wx, w2]
    refine ⟨_, rfl, ru8P hR _ _, fun e e0 e1 => ?_, fun q i hq => up_ne hq _⟩
    by_cases z : e = 0
    · subst z
      rw [up_at, h0]
      show _ = Pc x h 0 * (10 - x) + Pc x h (0 - 1) * x
      rw [Pc_neg x h (0 - 1) (by decide)]
      omega
    · rw [up_ni z, hs e e0 e1, if_pos (by omega)]
  | succ n ih =>
    intro s hn hR hs
    have e1 : ((n + 1 : Nat) : Int) - 1 = (n : Int) := by omega
    have w1 : w32 (((n + 1 : Nat) : Int) - 1) = (n : Int) := by rw [e1]; exact w32_id (by omega) (by omega)
    have w0 : w32 (((n + 1 : Nat) : Int) + -1) = (n : Int) := by
      rw [show ((n + 1 : Nat) : Int) + -1 = (n : Int) by omega]; exact w32_id (by omega) (by omega)
    have ha := hs ((n + 1 : Nat) : Int) (by omega) (by omega)
    have hb := hs (n : Int) (by omega) (by omega)
    rw [if_neg (by omega)] at ha hb
    have ra := Pc_rng hx (h := h) (by omega) (e := ((n + 1 : Nat) : Int)) (by omega)
    have rb := Pc_rng hx (h := h) (by omega) (e := (n : Int)) (by omega)
    have ma := mul_rng ra (b := 10 - x) (B := 10) (by omega)
    have mb := mul_rng rb (b := x) (B := 10) (by omega)
    have wA : w64 (s 8 ((n + 1 : Nat) : Int) * (10 - x)) = Pc x h ((n + 1 : Nat) : Int) * (10 - x) := by rw [ha]; exact w64_id (by omega) (by omega)
    have wB : w64 (s 8 (n : Int) * x) = Pc x h (n : Int) * x := by rw [hb]; exact w64_id (by omega) (by omega)
    have wC : w64 (Pc x h ((n + 1 : Nat) : Int) * (10 - x) + Pc x h (n : Int) * x) = Pc x h ((n + 1 : Nat) : Int) * (10 - x) + Pc x h (n : Int) * x := w64_id (by omega) (by omega)
    have eP : Pc x (h + 1) ((n + 1 : Nat) : Int) = Pc x h ((n + 1 : Nat) : Int) * (10 - x) + Pc x h (n : Int) * x := by
      show Pc x h ((n + 1 : Nat) : Int) * (10 - x) + Pc x h (((n + 1 : Nat) : Int) - 1) * x = _
      rw [e1]
    rw [p3_25 hR, if_neg (by omega), w1, w0, wx, g_t (by omega), g_t (by omega), wA, wB, wC, ← eP]
    obtain ⟨s', c1, c2, c3, c4⟩ := ih (up s 8 ((n + 1 : Nat) : Int) (Pc x (h + 1) ((n + 1 : Nat) : Int))) (by omega) (ru8P hR _ _) (fun e e0 e1 => by
      by_cases z : e = ((n + 1 : Nat) : Int)
      · rw [z, up_at, if_pos (by omega)]
      · rw [up_ni z, hs e e0 e1]
        by_cases z2 : ((n + 1 : Nat) : Int) < e
        · rw [if_pos z2, if_pos (by omega)]
        · rw [if_neg z2, if_neg (by omega)])
    exact ⟨s', c1, c2, c3, fun q i hq => by rw [c4 q i hq, up_ne hq]⟩
theorem l_choutP {x : Int} (hx : 0 ≤ x ∧ x ≤ 9) : ∀ (m h : Nat) (s : SG), h + m = 6 → RefP s → (∀ e, 0 ≤ e → e ≤ 6 → s 8 e = Pc x h e) → ∃ s', sem 3 17 [aA 5, aI x, aI ((h : Int) + 1), aU] [] s = some (aU, s') ∧ RefP s' ∧ (∀ e, 0 ≤ e → e ≤ 6 → s' 8 e = Pc x 6 e) ∧ ∀ q i, q ≠ 8 → s' q i = s q i := by
  intro m
  induction m with
  | zero =>
    intro h s hm hR hs
    have : h = 6 := by omega
    subst this
    rw [p3_17 hR, if_pos (by decide)]
    exact ⟨s, rfl, hR, hs, fun _ _ _ => rfl⟩
  | succ m ih =>
    intro h s hm hR hs
    obtain ⟨s1, a1, a2, a3, a4⟩ := l_chinP hx (h := h) (by omega) (h + 1) s (by omega) hR (fun e e0 e1 => by
      rw [hs e e0 e1]
      by_cases z : ((h + 1 : Nat) : Int) < e
      · rw [if_pos z, Pc_big x h e (by omega), Pc_big x (h + 1) e z]
      · rw [if_neg z])
    obtain ⟨s', b1, b2, b3, b4⟩ := ih (h + 1) s1 (by omega) a2 a3
    refine ⟨s', ?_, b2, b3, fun q i hq => by rw [b4 q i hq, a4 q i hq]⟩
    rw [p3_17 hR, if_neg (by omega)]
    exact a1.trans b1
theorem c_chancesP {x : Int} (hx : 0 ≤ x ∧ x ≤ 9) {s : SG} (hR : RefP s) : ∃ s', sem 3 0 [aA 5, aI x, aU, aU] [] s = some (aU, s') ∧ RefP s' ∧ (∀ e, 0 ≤ e → e ≤ 6 → s' 8 e = chn x e) ∧ ∀ q i, q ≠ 8 → s' q i = s q i := by
  have k8 : kl 8 = 7 := rfl
  have ef := c_fillL (k := 8) (v := 0) rfl (by decide) s
  have hF : RefP (fillS s 8 0 0) := RefP.sem ef rfl hR
  obtain ⟨s', b1, b2, b3, b4⟩ := l_choutP hx 6 0 (up (fillS s 8 0 0) 8 0 1) (by decide) (ru8P hF _ _) (fun e e0 e1 => by
    by_cases z : e = 0
    · rw [z, up_at]; rfl
    · rw [up_ni z, fillS_app, if_pos (by omega)]
      exact (if_neg z).symm)
  refine ⟨s', ?_, b2, fun e e0 e1 => by rw [b3 e e0 e1, Pc_chn hx ⟨e0, e1⟩], fun q i hq => by rw [b4 q i hq, up_ne hq, fillS_app, if_neg (fun z => hq z.1)]⟩
  rw [p3_0 hR, ef, bnV_some]
  exact b1
theorem c_holdP {s : SG} (hR : RefP s) {c : Int} (hc : 0 ≤ c ∧ c < 3) (g : Int) : sem 6 0 [aA 5, aI c, aI g] [] s = some (aI (if 0 ≤ g ∧ g ≤ 60 then 1 else 0), s) := by
  rw [p6_0 hR, c_isRow, if_pos hc, bnI_some, if_neg (by decide), c_isPapers, bnI_some]
  by_cases z : 0 ≤ g ∧ g ≤ 60
  · rw [if_pos z, if_neg (by decide)]
  · rw [if_neg z, if_pos rfl]
theorem l_addkP {c b x sh : Int} (hc : 0 ≤ c ∧ c < 3) (hb : 0 ≤ b ∧ b ≤ 3) (hx : 0 ≤ x ∧ x ≤ 9) (hs : 0 ≤ sh ∧ sh ≤ 9) : ∀ (n : Nat) (l : Int) (s : SG), l + n = 7 → 0 ≤ l → RefP s → (∀ e, 0 ≤ e → e ≤ 6 → s 8 e = chn x e) → (∀ i, 0 ≤ i → 6 * b + l ≤ i + 1 → i + 1 ≤ 6 * b + 6 → 0 ≤ s 7 (61 * c + i) ∧ s 7 (61 * c + i) ≤ 1000000000) → ∃ s', sem 2 8 [aA 5, aI c, aI b, aU, aI sh, aI l, aU] [] s = some (aU, s') ∧ RefP s' ∧ (∀ i, 0 ≤ i → s' 7 (61 * c + i) = s 7 (61 * c + i) + (if 6 * b + l ≤ i + 1 ∧ i + 1 ≤ 6 * b + 6 then chn x (i + 1 - 6 * b) * sh else 0)) ∧ ∀ q i, ¬ (q = 7 ∧ 61 * c ≤ i ∧ i < 61 * c + 60) → s' q i = s q i := by
  intro n
  induction n with
  | zero =>
    intro l s hl h0 hR h8 h7
    rw [p2_8 hR, if_pos (by omega)]
    refine ⟨s, rfl, hR, fun i i0 => ?_, fun _ _ _ => rfl⟩
    rw [if_neg (by omega)]
    omega
  | succ n ih =>
    intro l s hl h0 hR h8 h7
    have w1 : w32 (l + 1) = l + 1 := w32_id (by omega) (by omega)
    have w2 : w32 (w32 (w32 (6 * b) + l) - 1) = 6 * b + l - 1 := by rw [w32_id (a := 6 * b) (by omega) (by omega), w32_id (a := 6 * b + l) (by omega) (by omega), w32_id (by omega) (by omega)]
    rw [p2_8 hR, if_neg (by omega), w2, w1, c_holdP hR hc, bnI_some]
    by_cases q : 6 * b + l < 1
    · rw [if_neg (show ¬ (0 ≤ 6 * b + l - 1 ∧ 6 * b + l - 1 ≤ 60) by omega), if_pos rfl]
      obtain ⟨s', a1, a2, a3, a4⟩ := ih (l + 1) s (by omega) (by omega) hR h8 (fun i i0 i1 i2 => h7 i i0 (by omega) i2)
      refine ⟨s', a1, a2, fun i i0 => ?_, a4⟩
      rw [a3 i i0]
      by_cases z : 6 * b + l ≤ i + 1 ∧ i + 1 ≤ 6 * b + 6
      · rw [if_pos z, if_pos (by omega)]
      · rw [if_neg z, if_neg (by omega)]
    · have w3 : w32 (w32 (c * 61) + (6 * b + l - 1)) = 61 * c + (6 * b + l - 1) := by
        rw [w32_id (a := c * 61) (by omega) (by omega), w32_id (by omega) (by omega)]
        omega
      have r8 := chn_rng hx (e := l) (by omega)
      have m8 := mul_rng r8 hs
      have r7 := h7 (6 * b + l - 1) (by omega) (by omega) (by omega)
      have w4 : w64 (s 8 l * sh) = chn x l * sh := by rw [h8 l h0 (by omega)]; exact w64_id (by omega) (by omega)
      have w5 : w64 (s 7 (61 * c + (6 * b + l - 1)) + chn x l * sh) = s 7 (61 * c + (6 * b + l - 1)) + chn x l * sh := w64_id (by omega) (by omega)
      rw [if_pos (show 0 ≤ 6 * b + l - 1 ∧ 6 * b + l - 1 ≤ 60 by omega), if_neg (by decide), w3, w4, w5, g_t (by omega), g_t (by omega)]
      obtain ⟨s', a1, a2, a3, a4⟩ := ih (l + 1) (up s 7 (61 * c + (6 * b + l - 1)) (s 7 (61 * c + (6 * b + l - 1)) + chn x l * sh)) (by omega) (by omega) (ru7P hR _ _) (fun e e0 e1 => by rw [up_ne (by decide)]; exact h8 e e0 e1) (fun i i0 i1 i2 => by rw [up_ni (by omega)]; exact h7 i i0 (by omega) i2)
      refine ⟨s', a1, a2, fun i i0 => ?_, fun q i hq => by rw [a4 q i hq, up_app, if_neg (by omega)]⟩
      rw [a3 i i0]
      by_cases z : i = 6 * b + l - 1
      · have z2 : i + 1 - 6 * b = l := by omega
        rw [if_neg (by omega), if_pos (by omega), z2, z, up_at]
        omega
      · rw [up_ni (by omega)]
        by_cases z3 : 6 * b + l ≤ i + 1 ∧ i + 1 ≤ 6 * b + 6
        · rw [if_pos z3, if_pos (by omega)]
        · rw [if_neg z3, if_neg (by omega)]
theorem c_addKindP {c b x sh : Int} (hc : 0 ≤ c ∧ c < 3) (hb : 0 ≤ b ∧ b ≤ 3) (hx : 0 ≤ x ∧ x ≤ 9) (hs : 0 ≤ sh ∧ sh ≤ 9) {s : SG} (hR : RefP s) (h7 : ∀ i, 0 ≤ i → i < 60 → 0 ≤ s 7 (61 * c + i) ∧ s 7 (61 * c + i) ≤ 1000000000) : ∃ s', sem 2 0 [aA 5, aI c, aI b, aI x, aI sh, aU, aU] [] s = some (aU, s') ∧ RefP s' ∧ (∀ i, 0 ≤ i → s' 7 (61 * c + i) = s 7 (61 * c + i) + Jk b x i * sh) ∧ ∀ q i, q ≠ 8 → ¬ (q = 7 ∧ 61 * c ≤ i ∧ i < 61 * c + 60) → s' q i = s q i := by
  obtain ⟨s1, a1, a2, a3, a4⟩ := c_chancesP hx hR
  obtain ⟨s', b1, b2, b3, b4⟩ := l_addkP hc hb hx hs 7 0 s1 (by decide) (by decide) a2 a3 (fun i i0 i1 i2 => by rw [a4 7 _ (by decide)]; exact h7 i i0 (by omega))
  refine ⟨s', ?_, b2, fun i i0 => ?_, fun q i h1 h2 => by rw [b4 q i h2, a4 q i h1]⟩
  · rw [p2_0 hR, a1, bnV_some, b1]
  · rw [b3 i i0, a4 7 _ (by decide)]
    unfold Jk
    by_cases z : 6 * b ≤ i + 1 ∧ i + 1 ≤ 6 * b + 6
    · rw [if_pos (by omega), if_pos z]
    · rw [if_neg (by omega), if_neg z]
      omega
theorem l_sum1P {c : Int} (hc : 0 ≤ c ∧ c < 3) {F O : Int → Int} (hO : ∀ i, 0 ≤ i → i < 60 → O i = F i + O (i + 1)) (rO : ∀ i, 0 ≤ i → i ≤ 60 → 0 ≤ O i ∧ O i ≤ 1000000000) : ∀ (n : Nat) (s : SG), n ≤ 60 → RefP s → (∀ i, 0 ≤ i → i ≤ 60 → s 7 (61 * c + i) = if (n : Int) ≤ i then O i else F i) → ∃ s', sem 4 16 [aA 5, aU, aI (61 * c), aI ((n : Int) - 1)] [] s = sem 4 56 [aA 5, aU, aI (61 * c), aI 1] [] (up s' 6 (61 * c) 0) ∧ RefP s' ∧ (∀ i, 0 ≤ i → i ≤ 60 → s' 7 (61 * c + i) = O i) ∧ ∀ q i, ¬ (q = 7 ∧ 61 * c ≤ i ∧ i ≤ 61 * c + 60) → s' q i = s q i := by
  intro n
  induction n with
  | zero =>
    intro s hn hR h7
    rw [p4_16 hR, if_pos (by decide), g_t (by omega)]
    exact ⟨s, rfl, hR, fun i i0 i1 => by rw [h7 i i0 i1, if_pos (by omega)], fun _ _ _ => rfl⟩
  | succ n ih =>
    intro s hn hR h7
    have e0 : ((n + 1 : Nat) : Int) - 1 = (n : Int) := by omega
    rw [e0]
    have w0 : w32 (61 * c + (n : Int)) = 61 * c + (n : Int) := w32_id (by omega) (by omega)
    have w1 : w32 (61 * c + (n : Int) + 1) = 61 * c + ((n : Int) + 1) := by rw [w32_id (by omega) (by omega)]; omega
    have w2 : w32 ((n : Int) + -1) = (n : Int) - 1 := w32_id (by omega) (by omega)
    have a0 := h7 (n : Int) (by omega) (by omega)
    have a1 := h7 ((n : Int) + 1) (by omega) (by omega)
    rw [if_neg (by omega)] at a0
    rw [if_pos (by omega)] at a1
    have o0 := hO (n : Int) (by omega) (by omega)
    have r0 := rO (n : Int) (by omega) (by omega)
    have w3 : w64 (F (n : Int) + O ((n : Int) + 1)) = O (n : Int) := by rw [← o0]; exact w64_id (by omega) (by omega)
    rw [p4_16 hR, if_neg (by omega), w0, w1, w2, g_t (by omega), g_t (by omega), a0, a1, w3]
    obtain ⟨s', b1, b2, b3, b4⟩ := ih (up s 7 (61 * c + (n : Int)) (O (n : Int))) (by omega) (ru7P hR _ _) (fun i i0 i1 => by
      by_cases z : i = (n : Int)
      · rw [z, up_at, if_pos (by omega)]
      · rw [up_ni (by omega), h7 i i0 i1]
        by_cases z2 : ((n + 1 : Nat) : Int) ≤ i
        · rw [if_pos z2, if_pos (by omega)]
        · rw [if_neg z2, if_neg (by omega)])
    exact ⟨s', b1, b2, b3, fun q i hq => by rw [b4 q i hq, up_app, if_neg (by omega)]⟩
theorem l_sum2P {c : Int} (hc : 0 ≤ c ∧ c < 3) {O S : Int → Int} (hS : ∀ i, 0 ≤ i → i < 60 → S (i + 1) = S i + O i) (rS : ∀ i, 0 ≤ i → i ≤ 60 → 0 ≤ S i ∧ S i ≤ 1000000000000) : ∀ (n : Nat) (l : Int) (s : SG), l + n = 61 → 1 ≤ l → RefP s → (∀ i, 0 ≤ i → i ≤ 60 → s 7 (61 * c + i) = O i) → (∀ i, 0 ≤ i → i < l → s 6 (61 * c + i) = S i) → ∃ s', sem 4 56 [aA 5, aU, aI (61 * c), aI l] [] s = some (aU, s') ∧ RefP s' ∧ (∀ i, 0 ≤ i → i ≤ 60 → s' 6 (61 * c + i) = S i) ∧ ∀ q i, ¬ (q = 6 ∧ 61 * c ≤ i ∧ i ≤ 61 * c + 60) → s' q i = s q i := by
  intro n
  induction n with
  | zero =>
    intro l s hl h0 hR h7 h6
    rw [p4_56 hR, if_pos (by omega)]
    exact ⟨s, rfl, hR, fun i i0 i1 => h6 i i0 (by omega), fun _ _ _ => rfl⟩
  | succ n ih =>
    intro l s hl h0 hR h7 h6
    have w0 : w32 (61 * c + l) = 61 * c + l := w32_id (by omega) (by omega)
    have w1 : w32 (61 * c + l - 1) = 61 * c + (l - 1) := by rw [w32_id (by omega) (by omega)]; omega
    have w2 : w32 (l + 1) = l + 1 := w32_id (by omega) (by omega)
    have s0 := hS (l - 1) (by omega) (by omega)
    rw [show l - 1 + 1 = l by omega] at s0
    have r0 := rS l (by omega) (by omega)
    have w3 : w64 (S (l - 1) + O (l - 1)) = S l := by rw [← s0]; exact w64_id (by omega) (by omega)
    rw [p4_56 hR, if_neg (by omega), w0, w1, w2, g_t (by omega), g_t (by omega), h6 (l - 1) (by omega) (by omega), h7 (l - 1) (by omega) (by omega), w3]
    obtain ⟨s', b1, b2, b3, b4⟩ := ih (l + 1) (up s 6 (61 * c + l) (S l)) (by omega) (by omega) (ru6P hR _ _) (fun i i0 i1 => by rw [up_ne (by decide)]; exact h7 i i0 i1) (fun i i0 i1 => by
      by_cases z : i = l
      · rw [z, up_at]
      · rw [up_ni (by omega)]; exact h6 i i0 (by omega))
    exact ⟨s', b1, b2, b3, fun q i hq => by rw [b4 q i hq, up_app, if_neg (by omega)]⟩
theorem c_sumUpP {c : Int} (hc : 0 ≤ c ∧ c < 3) {F O S : Int → Int} (hO : ∀ i, 0 ≤ i → i < 60 → O i = F i + O (i + 1)) (rO : ∀ i, 0 ≤ i → i ≤ 60 → 0 ≤ O i ∧ O i ≤ 1000000000) (hS : ∀ i, 0 ≤ i → i < 60 → S (i + 1) = S i + O i) (rS : ∀ i, 0 ≤ i → i ≤ 60 → 0 ≤ S i ∧ S i ≤ 1000000000000) (hS0 : S 0 = 0) {s : SG} (hR : RefP s) (h7 : ∀ i, 0 ≤ i → i < 60 → s 7 (61 * c + i) = F i) (h60 : s 7 (61 * c + 60) = O 60) : ∃ s', sem 4 0 [aA 5, aI c, aU, aU] [] s = some (aU, s') ∧ RefP s' ∧ (∀ i, 0 ≤ i → i ≤ 60 → s' 7 (61 * c + i) = O i ∧ s' 6 (61 * c + i) = S i) ∧ ∀ q i, ¬ ((q = 6 ∨ q = 7) ∧ 61 * c ≤ i ∧ i ≤ 61 * c + 60) → s' q i = s q i := by
  have w : w32 (c * 61) = 61 * c := by rw [w32_id (by omega) (by omega)]; omega
  obtain ⟨s1, a1, a2, a3, a4⟩ := l_sum1P hc hO rO 60 s (by decide) hR (fun i i0 i1 => by
    by_cases z : i = 60
    · rw [z, if_pos (by decide)]; exact h60
    · rw [if_neg (by omega)]; exact h7 i i0 (by omega))
  obtain ⟨s', b1, b2, b3, b4⟩ := l_sum2P hc hS rS 60 1 (up s1 6 (61 * c) 0) (by decide) (by decide) (ru6P a2 _ _) (fun i i0 i1 => by rw [up_ne (by decide)]; exact a3 i i0 i1) (fun i i0 i1 => by
    have : i = 0 := by omega
    rw [this, Int.add_zero, up_at, hS0])
  refine ⟨s', ?_, b2, fun i i0 i1 => ⟨?_, b3 i i0 i1⟩, fun q i hq => ?_⟩
  · rw [p4_0 hR, c_isRow, if_pos hc, bnI_some, if_neg (by decide), w]
    exact a1.trans b1
  · rw [b4 7 _ (by omega), up_ne (by decide), a3 i i0 i1]
  · rw [b4 q i (by omega), up_app, if_neg (by omega), a4 q i (by omega)]
theorem ru54P {s : SG} (h : RefP s) (v : Int) : RefP (up s 5 4 v) := RefP.upd h (rcb_f (c := 0) (j := 4) rfl (by decide) (by decide))
theorem c_cornerP {t : Int} (ht : t = 32 ∨ t = 37) {T : Int → Int} (hT : TRng T) {c : Int} (hc : 0 ≤ c ∧ c < 3) {s : SG} (hR : RefP s) (hv : ∀ i, 0 ≤ i → i < 28 → tv s t i = T i) (h7 : ∀ i, 0 ≤ i → i ≤ 60 → s 7 (61 * c + i) = 0) : ∃ s', sem 1 62 [aA 5, aA t, aI c, aI 0] [] s = sem 1 47 [aA 5, aA t, aI (c + 1), aU] [] s' ∧ RefP s' ∧ (∀ i, 0 ≤ i → i ≤ 60 → s' 7 (61 * c + i) = outS T c i ∧ s' 6 (61 * c + i) = soldS T c i) ∧ ∀ q i, q ≠ 8 → ¬ ((q = 6 ∨ q = 7) ∧ 61 * c ≤ i ∧ i ≤ 61 * c + 60) → s' q i = s q i := by
  obtain ⟨t0, t1, t2, t3, t4, t5⟩ := hT
  have k0 : w32 (0 + 1) = 1 := rfl
  have k1 : w32 (1 + 1) = 2 := rfl
  have k2 : w32 (2 + 1) = 3 := rfl
  have wc : w32 (c + 1) = c + 1 := w32_id (by omega) (by omega)
  -- the numbers of the kinds, in any store that keeps the town
  have get : ∀ (u : SG) (k : Int), RefP u → 0 ≤ k → k < 3 → (∀ q i, t ≤ q → q ≤ t + 4 → u q i = s q i) → sem 84 0 [aA t, aI c, aI k, aU] [] u = some (aI (T (10 + 3 * c + k)), u) ∧ sem 85 0 [aA t, aI c, aI k, aU] [] u = some (aI (T (19 + 3 * c + k)), u) ∧ sem 83 0 [aA t, aI k] [] u = some (aI (T (1 + k)), u) := by
    intro u k hu k00 k03 hk
    have tr := TR.ofP hu ht
    have v1 := hv (10 + 3 * c + k) (by omega) (by omega)
    have v2 := hv (19 + 3 * c + k) (by omega) (by omega)
    have v3 := hv (1 + k) (by omega) (by omega)
    unfold tv at v1 v2 v3
    rw [if_neg (by omega), if_neg (by omega), if_neg (by omega), if_neg (by omega), if_neg (by omega), if_neg (by omega), if_pos (by omega)] at v1
    rw [if_neg (by omega), if_neg (by omega), if_neg (by omega), if_neg (by omega), if_neg (by omega), if_neg (by omega), if_neg (by omega)] at v2
    rw [if_neg (by omega), if_pos (by omega)] at v3
    rw [show 10 + 3 * c + k - 10 = 3 * c + k by omega] at v1
    rw [show 19 + 3 * c + k - 19 = 3 * c + k by omega] at v2
    rw [show 1 + k - 1 = k by omega] at v3
    refine ⟨?_, ?_, ?_⟩
    · rw [c_comesTo tr hc.1 hc.2 k00 k03, hk (t + 2) _ (by omega) (by omega), v1]
    · rw [c_tenthsAt tr hc.1 hc.2 k00 k03, hk (t + 3) _ (by omega) (by omega), v2]
    · rw [c_shareOf tr k00 k03, hk (t + 1) _ (by omega) (by omega), v3]
  have r4 : ∀ k, 0 ≤ k → k < 3 → 0 ≤ T (10 + 3 * c + k) ∧ T (10 + 3 * c + k) ≤ 3 := fun k a b => t4 _ (by omega) (by omega)
  have r5 : ∀ k, 0 ≤ k → k < 3 → 0 ≤ T (19 + 3 * c + k) ∧ T (19 + 3 * c + k) ≤ 9 := fun k a b => t5 _ (by omega) (by omega)
  have r1 : ∀ k, 0 ≤ k → k < 3 → 0 ≤ T (1 + k) ∧ T (1 + k) ≤ 9 := fun k a b => by have := t1 (1 + k) (by omega) (by omega); omega
  have jr : ∀ k i, 0 ≤ k → k < 3 → 0 ≤ Jk (T (10 + 3 * c + k)) (T (19 + 3 * c + k)) i * T (1 + k) ∧ Jk (T (10 + 3 * c + k)) (T (19 + 3 * c + k)) i * T (1 + k) ≤ 9000000 := fun k i a b => by
    have := mul_rng (Jk_rng (b := T (10 + 3 * c + k)) (i := i) (r5 k a b)) (r1 k a b)
    omega
  -- kind 0
  obtain ⟨x1, x2, x3⟩ := get s 0 hR (by decide) (by decide) (fun _ _ _ _ => rfl)
  obtain ⟨s1, a1, a2, a3, a4⟩ := c_addKindP hc (r4 0 (by decide) (by decide)) (r5 0 (by decide) (by decide)) (r1 0 (by decide) (by decide)) hR (fun i i0 i1 => by rw [h7 i i0 (by omega)]; decide)
  have m1 : ∀ q i, t ≤ q → q ≤ t + 4 → s1 q i = s q i := fun q i h1 h2 => a4 q i (by omega) (by omega)
  obtain ⟨y1, y2, y3⟩ := get s1 1 a2 (by decide) (by decide) m1
  obtain ⟨s2, b1, b2, b3, b4⟩ := c_addKindP hc (r4 1 (by decide) (by decide)) (r5 1 (by decide) (by decide)) (r1 1 (by decide) (by decide)) a2 (fun i i0 i1 => by
    have := jr 0 i (by decide) (by decide)
    rw [a3 i i0, h7 i i0 (by omega)]; omega)
  have m2 : ∀ q i, t ≤ q → q ≤ t + 4 → s2 q i = s q i := fun q i h1 h2 => by rw [b4 q i (by omega) (by omega), m1 q i h1 h2]
  obtain ⟨z1, z2, z3⟩ := get s2 2 b2 (by decide) (by decide) m2
  obtain ⟨s3, c1, c2, c3, c4⟩ := c_addKindP hc (r4 2 (by decide) (by decide)) (r5 2 (by decide) (by decide)) (r1 2 (by decide) (by decide)) b2 (fun i i0 i1 => by
    have j0 := jr 0 i (by decide) (by decide)
    have j1 := jr 1 i (by decide) (by decide)
    rw [b3 i i0, a3 i i0, h7 i i0 (by omega)]; omega)
  have hTT : TRng T := ⟨t0, t1, t2, t3, t4, t5⟩
  obtain ⟨s', d1, d2, d3, d4⟩ := c_sumUpP hc (F := outF T c) (O := outS T c) (S := soldS T c) (fun i _ _ => outS_step T c i) (fun i _ _ => by have := outS_rng hTT (g := i) hc; omega) (fun i _ _ => soldS_step T c i) (fun i i0 i1 => by have := soldS_r60 hTT hc i0 i1; omega) (soldS_0 hTT hc) c2 (fun i i0 i1 => by
    rw [c3 i i0, b3 i i0, a3 i i0, h7 i i0 (by omega)]
    unfold outF
    rw [Int.mul_comm (T 1), Int.mul_comm (T 2), Int.mul_comm (T 3)]
    have e0 : 10 + 3 * c + 0 = 10 + 3 * c := by omega
    have e1 : 10 + 3 * c + 1 = 11 + 3 * c := by omega
    have e2 : 10 + 3 * c + 2 = 12 + 3 * c := by omega
    have f0 : 19 + 3 * c + 0 = 19 + 3 * c := by omega
    have f1 : 19 + 3 * c + 1 = 20 + 3 * c := by omega
    have f2 : 19 + 3 * c + 2 = 21 + 3 * c := by omega
    rw [e0, e1, e2, f0, f1, f2]
    show 0 + _ * T (1 + 0) + _ * T (1 + 1) + _ * T (1 + 2) = _
    rw [show (1 : Int) + 0 = 1 from rfl, show (1 : Int) + 1 = 2 from rfl, show (1 : Int) + 2 = 3 from rfl]
    omega) (by
    rw [c4 7 _ (by decide) (by omega), b4 7 _ (by decide) (by omega), a4 7 _ (by decide) (by omega), h7 60 (by decide) (by decide), outS_60 hTT hc])
  refine ⟨s', ?_, d2, d3, fun q i h1 h2 => ?_⟩
  · rw [p1_62 ht hR, if_pos (by decide), x1, bnI_some, x2, bnI_some, x3, bnI_some, a1, bnV_some, k0]
    rw [p1_62 ht a2, if_pos (by decide), y1, bnI_some, y2, bnI_some, y3, bnI_some, b1, bnV_some, k1]
    rw [p1_62 ht b2, if_pos (by decide), z1, bnI_some, z2, bnI_some, z3, bnI_some, c1, bnV_some, k2]
    rw [p1_62 ht c2, if_neg (by decide), d1, bnV_some, wc]
  · rw [d4 q i h2, c4 q i h1 (by omega), b4 q i h1 (by omega), a4 q i h1 (by omega)]
theorem l_cornersP {t : Int} (ht : t = 32 ∨ t = 37) {T : Int → Int} (hT : TRng T) : ∀ (n : Nat) (c : Int) (s : SG), c + n = T 0 → 0 ≤ c → RefP s → (∀ i, 0 ≤ i → i < 28 → tv s t i = T i) → (∀ i, 61 * c ≤ i → i < 183 → s 7 i = 0) → (∀ b i, 0 ≤ b → b < c → 0 ≤ i → i ≤ 60 → s 7 (61 * b + i) = outS T b i ∧ s 6 (61 * b + i) = soldS T b i) → ∃ s', sem 1 47 [aA 5, aA t, aI c, aU] [] s = some (aU, s') ∧ RefP s' ∧ (∀ b i, 0 ≤ b → b < T 0 → 0 ≤ i → i ≤ 60 → s' 7 (61 * b + i) = outS T b i ∧ s' 6 (61 * b + i) = soldS T b i) ∧ ∀ q i, q ≠ 6 → q ≠ 7 → q ≠ 8 → s' q i = s q i := by
  have n3 := hT.1
  intro n
  induction n with
  | zero =>
    intro c s hl h0 hR hv h7 h6
    have e4 : s t 4 = T 0 := hv 0 (by decide) (by decide)
    rw [p1_47 ht hR, e4, if_neg (by omega)]
    exact ⟨s, rfl, hR, fun b i b0 b1 => h6 b i b0 (by omega), fun _ _ _ _ _ => rfl⟩
  | succ n ih =>
    intro c s hl h0 hR hv h7 h6
    have e4 : s t 4 = T 0 := hv 0 (by decide) (by decide)
    obtain ⟨s1, a1, a2, a3, a4⟩ := c_cornerP ht hT (c := c) (by omega) hR hv (fun i i0 i1 => h7 _ (by omega) (by omega))
    have m1 : ∀ q i, t ≤ q → q ≤ t + 4 → s1 q i = s q i := fun q i h1 h2 => a4 q i (by omega) (by omega)
    obtain ⟨s', b1, b2, b3, b4⟩ := ih (c + 1) s1 (by omega) (by omega) a2 (fun i i0 i1 => by
      rw [← hv i i0 i1]
      unfold tv
      rw [m1 t 4 (by omega) (by omega), m1 t 5 (by omega) (by omega), m1 t 6 (by omega) (by omega), m1 t 7 (by omega) (by omega), m1 (t + 1) _ (by omega) (by omega), m1 (t + 2) _ (by omega) (by omega), m1 (t + 3) _ (by omega) (by omega), m1 (t + 4) _ (by omega) (by omega)]) (fun i i0 i1 => by
      rw [a4 7 i (by decide) (by omega)]; exact h7 i (by omega) i1) (fun b i x0 x1 y0 y1 => by
      by_cases z : b = c
      · rw [z]; exact a3 i y0 y1
      · rw [a4 7 _ (by decide) (by omega), a4 6 _ (by decide) (by omega)]
        exact h6 b i x0 (by omega) y0 y1)
    refine ⟨s', ?_, b2, b3, fun q i h1 h2 h3 => by rw [b4 q i h1 h2 h3, a4 q i h3 (by omega)]⟩
    rw [p1_47 ht hR, e4, if_pos (by omega), if_pos (by omega), a1]
    exact b1
set_option maxHeartbeats 2000000 in
theorem c_reckonP {t : Int} (ht : t = 32 ∨ t = 37) {T : Int → Int} (hT : TRng T) {s : SG} (hR : RefP s) (hv : ∀ i, 0 ≤ i → i < 28 → tv s t i = T i) : ∃ s', sem 1 0 [aA 5, aA t, aU, aU] [] s = some (aU, s') ∧ RefP s' ∧ s' 5 4 = allS T ∧ (∀ b i, 0 ≤ b → b < T 0 → 0 ≤ i → i ≤ 60 → s' 7 (61 * b + i) = outS T b i ∧ s' 6 (61 * b + i) = soldS T b i) ∧ ∀ q i, ¬ Crk q i → s' q i = s q i := by
  have k0 : w32 (0 + 1) = 1 := rfl
  have k1 : w32 (1 + 1) = 2 := rfl
  have k2 : w32 (2 + 1) = 3 := rfl
  have k7 : kl 7 = 183 := rfl
  have ef := c_fillL (k := 7) (v := 0) rfl (by decide) s
  have hF : RefP (fillS s 7 0 0) := RefP.sem ef rfl hR
  have t1 := hT.2.1
  have r1 := t1 1 (by decide) (by decide)
  have r2 := t1 2 (by decide) (by decide)
  have r3 := t1 3 (by decide) (by decide)
  have gt : ∀ (u : SG) (k : Int), RefP u → 0 ≤ k → k < 3 → (∀ q i, t ≤ q → q ≤ t + 4 → u q i = s q i) → sem 83 0 [aA t, aI k] [] u = some (aI (T (1 + k)), u) := by
    intro u k hu k00 k03 hk
    have tr := TR.ofP hu ht
    have v3 := hv (1 + k) (by omega) (by omega)
    unfold tv at v3
    rw [if_neg (by omega), if_pos (by omega)] at v3
    rw [show 1 + k - 1 = k by omega] at v3
    rw [c_shareOf tr k00 k03, hk (t + 1) _ (by omega) (by omega), v3]
  have fr : ∀ q i, t ≤ q → q ≤ t + 4 → fillS s 7 0 0 q i = s q i := fun q i h1 h2 => by rw [fillS_app, if_neg (by omega)]
  obtain ⟨sA, hA⟩ : ∃ z, z = fillS s 7 0 0 := ⟨_, rfl⟩
  rw [← hA] at ef hF fr
  have g0 := gt (up sA 5 4 0) 0 (ru54P hF _) (by decide) (by decide) (fun q i h1 h2 => by rw [up_ne (by omega), fr q i h1 h2])
  have g1 := gt (up (up sA 5 4 0) 5 4 (1000000 * T 1)) 1 (ru54P (ru54P hF _) _) (by decide) (by decide) (fun q i h1 h2 => by rw [up_ne (by omega), up_ne (by omega), fr q i h1 h2])
  have g2 := gt (up (up (up sA 5 4 0) 5 4 (1000000 * T 1)) 5 4 (1000000 * T 1 + 1000000 * T 2)) 2 (ru54P (ru54P (ru54P hF _) _) _) (by decide) (by decide) (fun q i h1 h2 => by rw [up_ne (by omega), up_ne (by omega), up_ne (by omega), fr q i h1 h2])
  have w0 : w64 (0 + w64 (1000000 * T (1 + 0))) = 1000000 * T 1 := by
    show w64 (0 + w64 (1000000 * T 1)) = _
    rw [w64_id (a := 1000000 * T 1) (by omega) (by omega), Int.zero_add, w64_id (by omega) (by omega)]
  have w1 : w64 (1000000 * T 1 + w64 (1000000 * T (1 + 1))) = 1000000 * T 1 + 1000000 * T 2 := by
    show w64 (1000000 * T 1 + w64 (1000000 * T 2)) = _
    rw [w64_id (a := 1000000 * T 2) (by omega) (by omega), w64_id (by omega) (by omega)]
  have w2 : w64 (1000000 * T 1 + 1000000 * T 2 + w64 (1000000 * T (1 + 2))) = allS T := by
    show w64 (1000000 * T 1 + 1000000 * T 2 + w64 (1000000 * T 3)) = _
    unfold allS
    rw [w64_id (a := 1000000 * T 3) (by omega) (by omega), w64_id (by omega) (by omega)]
    omega
  have hRB : RefP (up (up (up (up sA 5 4 0) 5 4 (1000000 * T 1)) 5 4 (1000000 * T 1 + 1000000 * T 2)) 5 4 (allS T)) := ru54P (ru54P (ru54P (ru54P hF _) _) _) _
  obtain ⟨s', b1, b2, b3, b4⟩ := l_cornersP ht hT (T 0).toNat 0 (up (up (up (up sA 5 4 0) 5 4 (1000000 * T 1)) 5 4 (1000000 * T 1 + 1000000 * T 2)) 5 4 (allS T)) (by have := hT.1; omega) (by decide) hRB (fun i i0 i1 => by
    rw [tv_ne (by omega) ⟨i0, i1⟩, tv_ne (by omega) ⟨i0, i1⟩, tv_ne (by omega) ⟨i0, i1⟩, tv_ne (by omega) ⟨i0, i1⟩, ← hv i i0 i1]
    unfold tv
    rw [fr t 4 (by omega) (by omega), fr t 5 (by omega) (by omega), fr t 6 (by omega) (by omega), fr t 7 (by omega) (by omega), fr (t + 1) _ (by omega) (by omega), fr (t + 2) _ (by omega) (by omega), fr (t + 3) _ (by omega) (by omega), fr (t + 4) _ (by omega) (by omega)]) (fun i i0 i1 => by
    rw [up_ne (by decide), up_ne (by decide), up_ne (by decide), up_ne (by decide), hA, fillS_app, if_pos (by omega)]) (fun b i x0 x1 => by omega)
  refine ⟨s', ?_, b2, ?_, b3, fun q i hq => ?_⟩
  · rw [p1_0 ht hR, ef, bnV_some]
    rw [p1_15 ht (ru54P hF _), if_pos (by decide), g0, bnI_some, k0, up_at, w0]
    rw [p1_15 ht (ru54P (ru54P hF _) _), if_pos (by decide), g1, bnI_some, k1, up_at, w1]
    rw [p1_15 ht (ru54P (ru54P (ru54P hF _) _) _), if_pos (by decide), g2, bnI_some, k2, up_at, w2]
    rw [p1_15 ht hRB, if_neg (by decide)]
    exact b1
  · rw [b4 5 4 (by decide) (by decide) (by decide), up_at]
  · unfold Crk at hq
    rw [b4 q i (by omega) (by omega) (by omega), up_app, if_neg (by omega), up_app, if_neg (by omega), up_app, if_neg (by omega), up_app, if_neg (by omega), hA, fillS_app, if_neg (by omega)]

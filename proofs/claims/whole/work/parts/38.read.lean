/-! reading a text: all of it -/
theorem p_part {d : Int} (hd : d = 32 ∨ d = 37) {sC sR : SG} (h : Rd d sC sR) (hl : sR 56 5 < sR 56 4) : ∃ b sC' sR', sem 34 0 [aA 3, aA 1, aA d] [] sC = some (aI b, sC') ∧ sem 160 0 [aA 56, aI (sR 60 (sR 56 5)), aU, aU, aU, aU, aU] [] sR = some (aU, sR') ∧ Res d sC sR b sC' sR' := by
  have hRC := h.1.1.1
  have hRR := h.1.1.2
  have hb := h.1.byte
  rw [if_pos hl] at hb
  obtain ⟨x, hx⟩ : ∃ x, x = sR 60 (sR 56 5) := ⟨_, rfl⟩
  rw [← hx] at hb ⊢
  have hC : sem 34 0 [aA 3, aA 1, aA d] [] sC = _ := g34_0 hd hRC
  rw [c_byteAt hRC h.1.2.1.1.1, hb, bnI_some] at hC
  have res01 : ∀ {b : Int} {sC' sR' : SG}, Res d sC sR b sC' sR' → b = 0 ∨ b = 1 := fun z => by
    rcases z.2.2 with z | z
    · exact Or.inr z.1
    · exact Or.inl z.1
  by_cases q1 : x = 67
  · obtain ⟨b, sC', sR', c1, c2, c3⟩ := p_P hd h hl (t := 15) (f := 4) (b0 := 67) (Or.inl ⟨rfl, rfl, rfl⟩)
    rw [if_pos q1, c1, bnI_some, g_t (res01 c3)] at hC
    rw [q1]
    exact ⟨b, sC', sR', hC, c2, c3⟩
  by_cases q2 : x = 71
  · obtain ⟨b, sC', sR', c1, c2, c3⟩ := p_G hd h hl
    rw [if_neg q1, if_pos q2, c1, bnI_some, g_t (res01 c3)] at hC
    rw [q2]
    exact ⟨b, sC', sR', hC, c2, c3⟩
  by_cases q3 : x = 75
  · obtain ⟨b, sC', sR', c1, c2, c3⟩ := p_K hd h hl
    rw [if_neg q1, if_neg q2, if_pos q3, c1, bnI_some, g_t (res01 c3)] at hC
    rw [q3]
    exact ⟨b, sC', sR', hC, c2, c3⟩
  by_cases q4 : x = 80
  · obtain ⟨b, sC', sR', c1, c2, c3⟩ := p_P hd h hl (t := 16) (f := 5) (b0 := 80) (Or.inr (Or.inl ⟨rfl, rfl, rfl⟩))
    rw [if_neg q1, if_neg q2, if_neg q3, if_pos q4, c1, bnI_some, g_t (res01 c3)] at hC
    rw [q4]
    exact ⟨b, sC', sR', hC, c2, c3⟩
  by_cases q5 : x = 82
  · obtain ⟨b, sC', sR', c1, c2, c3⟩ := p_P hd h hl (t := 17) (f := 6) (b0 := 82) (Or.inr (Or.inr ⟨rfl, rfl, rfl⟩))
    rw [if_neg q1, if_neg q2, if_neg q3, if_neg q4, if_pos q5, c1, bnI_some, g_t (res01 c3)] at hC
    rw [q5]
    exact ⟨b, sC', sR', hC, c2, c3⟩
  by_cases q6 : x = 87
  · obtain ⟨b, sC', sR', c1, c2, c3⟩ := p_W hd h hl
    rw [if_neg q1, if_neg q2, if_neg q3, if_neg q4, if_neg q5, if_pos q6, c1, bnI_some, g_t (res01 c3)] at hC
    rw [q6]
    exact ⟨b, sC', sR', hC, c2, c3⟩
  rw [if_neg q1, if_neg q2, if_neg q3, if_neg q4, if_neg q5, if_neg q6] at hC
  refine ⟨0, sC, _, hC, ?_, Rd.stop h.1⟩
  rw [c_head hRR h.2.2.2.1 rfl x, if_neg q3, if_neg q1, if_neg q4, if_neg q5, g160_151 hRR, if_neg q6, g160_248 hRR, if_neg q2, c_none hRR]
def S18 (s : SG) : Int := s 4 0 + s 4 1 + s 4 2 + s 4 3 + s 4 4 + s 4 5 + s 4 6 + s 4 7 + s 4 8 + s 4 9 + s 4 10 + s 4 11 + s 4 12 + s 4 13 + s 4 14 + s 4 15 + s 4 16 + s 4 17
def SW (s : SG) : Int := s 4 3 + s 4 4 + s 4 5 + s 4 6 + s 4 7 + s 4 8 + s 4 9 + s 4 10 + s 4 11
theorem Gw.sum {s s' : SG} (h : Gw s s') : S18 s' = S18 s + 1 ∧ s' 3 1 + 2 * SW s = s 3 1 + 3 + 2 * SW s' := by
  obtain ⟨c, hc, h0, h1, h2⟩ := h
  unfold S18 SW
  rw [h2]
  simp only [h1]
  have : c = 0 ∨ c = 1 ∨ c = 2 ∨ c = 3 ∨ c = 4 ∨ c = 5 ∨ c = 6 ∨ c = 7 ∨ c = 8 ∨ c = 9 ∨ c = 10 ∨ c = 11 ∨ c = 12 ∨ c = 13 ∨ c = 14 ∨ c = 15 ∨ c = 16 ∨ c = 17 := by omega
  clear h1 h2
  rcases this with rfl | rfl | rfl | rfl | rfl | rfl | rfl | rfl | rfl | rfl | rfl | rfl | rfl | rfl | rfl | rfl | rfl | rfl <;> (simp only [Int.reduceEq, Int.reduceLE, Int.reduceLT, and_self, and_true, true_and, and_false, false_and, if_true, if_false]; omega)
def Cnt (s : SG) : Prop := s 3 2 = 1 + S18 s ∧ s 3 1 = 2 + 3 * S18 s + 2 * SW s
def FcC2 (d : Int) (s s' : SG) : Prop := ∀ q i : Int, ¬ (q = 3 ∧ 1 ≤ i) → q ≠ 4 → ¬ (q = d ∧ 4 ≤ i) → ¬ (d < q ∧ q ≤ d + 4) → s' q i = s q i
def FcR2 (s s' : SG) : Prop := ∀ q i : Int, ¬ (q = 56 ∧ 5 ≤ i ∧ i ≤ 7) → q ≠ 57 → q ≠ 59 → s' q i = s q i
theorem FcC2.tr {d : Int} {a b c : SG} (h1 : FcC2 d a b) (h2 : FcC2 d b c) : FcC2 d a c := fun q i z1 z2 z3 z4 => (h2 q i z1 z2 z3 z4).trans (h1 q i z1 z2 z3 z4)
theorem FcR2.tr {a b c : SG} (h1 : FcR2 a b) (h2 : FcR2 b c) : FcR2 a c := fun q i z1 z2 z3 => (h2 q i z1 z2 z3).trans (h1 q i z1 z2 z3)
theorem FcC.to {d : Int} {a b : SG} (h : FcC d a b) : FcC2 d a b := fun q i z1 z2 z3 z4 => h q i (fun z => z1 ⟨z.1, by omega⟩) z2 (fun z => z3 ⟨z.1, by omega⟩) z4
theorem FcR.to {a b : SG} (h : FcR a b) : FcR2 a b := fun q i z1 z2 z3 => h q i (fun z => z1 ⟨z.1, by omega⟩) z2 z3
theorem FcC2.u32 {d : Int} {a b : SG} (h : FcC2 d a b) (v : Int) : FcC2 d a (up b 3 2 v) := fun q i z1 z2 z3 z4 => by
  rw [up_app, if_neg (by omega)]; exact h q i z1 z2 z3 z4
theorem FcR2.u7 {a b : SG} (h : FcR2 a b) (v : Int) : FcR2 a (up b 56 7 v) := fun q i z1 z2 z3 => by
  rw [up_app, if_neg (by omega)]; exact h q i z1 z2 z3
theorem Cnt.few {s : SG} (h : Cnt s) (hb : ∀ c, 0 ≤ c → c < 18 → s 4 c = 0 ∨ s 4 c = 1) (hp : s 3 1 ≤ 64) : 1 ≤ s 3 2 ∧ s 3 2 ≤ 18 := by
  obtain ⟨h1, h2⟩ := h
  unfold S18 SW at *
  have b0 := hb 0 (by decide) (by decide)
  have b1 := hb 1 (by decide) (by decide)
  have b2 := hb 2 (by decide) (by decide)
  have b3 := hb 3 (by decide) (by decide)
  have b4 := hb 4 (by decide) (by decide)
  have b5 := hb 5 (by decide) (by decide)
  have b6 := hb 6 (by decide) (by decide)
  have b7 := hb 7 (by decide) (by decide)
  have b8 := hb 8 (by decide) (by decide)
  have b9 := hb 9 (by decide) (by decide)
  have b10 := hb 10 (by decide) (by decide)
  have b11 := hb 11 (by decide) (by decide)
  have b12 := hb 12 (by decide) (by decide)
  have b13 := hb 13 (by decide) (by decide)
  have b14 := hb 14 (by decide) (by decide)
  have b15 := hb 15 (by decide) (by decide)
  have b16 := hb 16 (by decide) (by decide)
  have b17 := hb 17 (by decide) (by decide)
  have lim : ∀ x : Int, x = 0 ∨ x = 1 → 0 ≤ x ∧ x ≤ 1 := fun x h => by omega
  replace b0 := lim _ b0
  replace b1 := lim _ b1
  replace b2 := lim _ b2
  replace b3 := lim _ b3
  replace b4 := lim _ b4
  replace b5 := lim _ b5
  replace b6 := lim _ b6
  replace b7 := lim _ b7
  replace b8 := lim _ b8
  replace b9 := lim _ b9
  replace b10 := lim _ b10
  replace b11 := lim _ b11
  replace b12 := lim _ b12
  replace b13 := lim _ b13
  replace b14 := lim _ b14
  replace b15 := lim _ b15
  replace b16 := lim _ b16
  replace b17 := lim _ b17
  omega
theorem l_parts {d : Int} (hd : d = 32 ∨ d = 37) : ∀ (n : Nat) (sC sR : SG), sR 56 4 - sR 56 5 ≤ n → Rd d sC sR → Cnt sC → sC 3 2 = sR 56 7 → ∃ r sC' sR', sem 32 54 [aA 3, aA 1, aA d, aU] [] sC = some (aI r, sC') ∧ sem 159 62 [aA 56] [] sR = some (aI r, sR') ∧ FcC2 d sC sC' ∧ FcR2 sR sR' ∧ (r = -9 → Rd d sC' sR' ∧ sC' 3 2 = sR' 56 7) := by
  intro n
  induction n with
  | zero =>
    intro sC sR hn h hc hk
    have hw := hc.few (fun c c0 c1 => (h.2.1 c c0 c1).2) (by have := h.1.2.2.1; have := h.1.2.2.2.1; have := h.1.2.1.2.1.1; omega)
    have hRC := h.1.1.1
    have hRR := h.1.1.2
    have h9 := h.1.2.2.2.2
    have hs := h.1.2.1.2.2.1
    have hp := h.1.2.2.1
    refine ⟨-9, sC, sR, ?_, ?_, fun _ _ _ _ _ _ => rfl, fun _ _ _ _ _ => rfl, fun _ => ⟨h, hk⟩⟩
    · rw [g32_54 hd hRC, if_neg (by omega), g75_0 hRC, bnI_some, if_neg (by omega)]
    · rw [g159_62 hRR, if_pos h9, if_neg (by omega), h9]
  | succ n ih =>
    intro sC sR hn h hc hk
    have hw := hc.few (fun c c0 c1 => (h.2.1 c c0 c1).2) (by have := h.1.2.2.1; have := h.1.2.2.2.1; have := h.1.2.1.2.1.1; omega)
    have hRC := h.1.1.1
    have hRR := h.1.1.2
    have h9 := h.1.2.2.2.2
    have hs := h.1.2.1.2.2.1
    have hp := h.1.2.2.1
    by_cases q : sR 56 5 < sR 56 4
    · obtain ⟨b, s1, t1, c1, c2, c3, c4, c5⟩ := p_part hd h q
      have hp0 := h.1.2.1.2.1.2.1
      have h64 := h.1.2.1.2.1.1
      have e32 : s1 3 2 = sC 3 2 := c3 3 2 (by omega) (by decide) (by omega) (by omega)
      have e7 : t1 56 7 = sR 56 7 := c4 56 7 (by omega) (by decide) (by decide)
      have w : w32 (sC 3 2 + 1) = sC 3 2 + 1 := w32_id (by omega) (by omega)
      have w7 : w32 (sR 56 7 + 1) = sR 56 7 + 1 := w32_id (by omega) (by omega)
      rw [g32_54 hd hRC, if_neg (by omega), g75_0 hRC, bnI_some, if_pos (by omega), c1, bnI_some, g159_62 hRR, if_pos h9, if_pos q, g_t (by omega), c2, bnV_some, e32, e7, w, w7]
      rcases c5 with ⟨rfl, hRd, hG⟩ | ⟨rfl, f1, f2⟩
      · have hs2 := hG.sum
        have e4 : t1 56 4 = sR 56 4 := c4 56 4 (by omega) (by decide) (by decide)
        have hpl := hRd.1.2.2.1
        have gr : s1 3 1 ≥ sC 3 1 + 3 := by
          obtain ⟨c, -, -, -, z⟩ := hG
          rw [z]
          split <;> omega
        have hRd2 : Rd d (up s1 3 2 (sC 3 2 + 1)) (up t1 56 7 (sR 56 7 + 1)) := by
          obtain ⟨a1, a2, a3, a4⟩ := hRd
          refine ⟨(a1.c (ru32 a1.1.1 _) (fun q i hq => by rw [up_app, if_neg (by omega)])).r (ru567 a1.1.2 _) (fun q i hq => by rw [up_app, if_neg (by omega)]), fun c x0 x1 => ?_, fun i x0 x1 => ?_, ?_⟩
          · rw [up_ne (by decide), up_ne (by decide)]
            exact a2 c x0 x1
          · rw [tv_ne (by omega) ⟨x0, x1⟩, up_ne (by decide)]
            exact a3 i x0 x1
          · rw [up_k (by decide)]
            exact a4
        have hc2 : Cnt (up s1 3 2 (sC 3 2 + 1)) := by
          obtain ⟨a1, a2⟩ := hc
          unfold Cnt
          have z1 : S18 (up s1 3 2 (sC 3 2 + 1)) = S18 s1 := rfl
          have z2 : SW (up s1 3 2 (sC 3 2 + 1)) = SW s1 := rfl
          rw [z1, z2, up_at, up_ni (by decide)]
          omega
        obtain ⟨r, s', t', d1, d2, d3, d4, d5⟩ := ih (up s1 3 2 (sC 3 2 + 1)) (up t1 56 7 (sR 56 7 + 1)) (by rw [up_ni (by decide), up_ni (by decide)]; omega) hRd2 hc2 (by rw [up_at, up_at, hk])
        rw [if_neg (by decide)]
        exact ⟨r, s', t', d1, d2, (c3.to.u32 _).tr d3, (c4.to.u7 _).tr d4, d5⟩
      · have hRt : RefC (up t1 56 7 (sR 56 7 + 1)) := ru567 (RefC.sem c2 rfl hRR) _
        have z : up t1 56 7 (sR 56 7 + 1) 56 6 = t1 56 6 := up_ni (by decide) _
        rw [if_pos rfl, g159_62 hRt, z, if_neg (by omega), f1]
        exact ⟨t1 56 6, s1, _, rfl, rfl, c3.to, c4.to.u7 _, fun y => by omega⟩
    · refine ⟨-9, sC, sR, ?_, ?_, fun _ _ _ _ _ _ => rfl, fun _ _ _ _ _ => rfl, fun _ => ⟨h, hk⟩⟩
      · rw [g32_54 hd hRC, if_neg (by omega), g75_0 hRC, bnI_some, if_neg (by omega)]
      · rw [g159_62 hRR, if_pos h9, if_neg q, h9]

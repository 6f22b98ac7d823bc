/-! sold, out -/
theorem l_mean {s : SG} (hR : RefC s) (hT : TRng (s 58)) {c g k w : Int} (hc : 0 ≤ c ∧ c < 3) (hg : 0 ≤ g ∧ g ≤ 60) (hk : 0 ≤ k ∧ k < 3) : ∀ (n : Nat) (acc : Int), n ≤ 7 → 0 ≤ acc → acc + 1000000000 * n ≤ 1000000000000 → sem 169 15 [aA 56, aI c, aI g, aI w, aL acc, aU, aI k, aI (7 - (n : Int)), aU, aU, aU] [] s = sem 169 6 [aA 56, aI c, aI g, aI w, aL (acc + PS (s 58 (1 + k)) w (s 58 (10 + 3 * c + k)) (s 58 (19 + 3 * c + k)) g n), aU, aI (k + 1), aU, aU, aU, aU] [] s ∧ 0 ≤ PS (s 58 (1 + k)) w (s 58 (10 + 3 * c + k)) (s 58 (19 + 3 * c + k)) g n ∧ PS (s 58 (1 + k)) w (s 58 (10 + 3 * c + k)) (s 58 (19 + 3 * c + k)) g n ≤ 1000000000 * n := by
  have wk : w32 (k + 1) = k + 1 := w32_id (by omega) (by omega)
  have wi : w32 (w32 (10 + w32 (3 * c)) + k) = 10 + 3 * c + k := by
    rw [w32_id (a := 3 * c) (by omega) (by omega), w32_id (a := 10 + 3 * c) (by omega) (by omega), w32_id (by omega) (by omega)]
  have wj : w32 (1 + k) = 1 + k := w32_id (by omega) (by omega)
  have hb := hT.2.2.2.2.1 (10 + 3 * c + k) (by omega) (by omega)
  have hx := hT.2.2.2.2.2 (19 + 3 * c + k) (by omega) (by omega)
  have ht := hT.2.1 (1 + k) (by omega) (by omega)
  intro n
  induction n with
  | zero =>
    intro acc hn h0 h1
    rw [g169_15 hR, if_neg (by omega), wk]
    refine ⟨?_, Int.le_refl 0, show (0 : Int) ≤ 1000000000 * ((0 : Nat) : Int) from by decide⟩
    show _ = sem 169 6 [aA 56, aI c, aI g, aI w, aL (acc + 0), aU, aI (k + 1), aU, aU, aU, aU] [] s
    rw [Int.add_zero]
  | succ n ih =>
    intro acc hn h0 h1
    obtain ⟨e, he⟩ : ∃ e : Int, e = 6 - (n : Int) := ⟨_, rfl⟩
    have e7 : 7 - ((n + 1 : Nat) : Int) = e := by omega
    have we : w32 (e + 1) = 7 - (n : Int) := by rw [w32_id (by omega) (by omega)]; omega
    have wW : w32 (w32 (6 * s 58 (10 + 3 * c + k)) + e) = 6 * s 58 (10 + 3 * c + k) + e := by
      rw [w32_id (a := 6 * s 58 (10 + 3 * c + k)) (by omega) (by omega), w32_id (by omega) (by omega)]
    have rv := val_rng (w := w) hb.1 (e := e) (by omega) hg
    have rc := chn_rng hx (e := e) (by omega)
    have m1 := mul_rng (a := s 58 (1 + k)) (A := 9) (by omega) rc
    have m2 := mul_rng (A := 9000000) (by omega : 0 ≤ s 58 (1 + k) * chn (s 58 (19 + 3 * c + k)) e ∧ s 58 (1 + k) * chn (s 58 (19 + 3 * c + k)) e ≤ 9000000) rv
    have w1 : w64 (s 58 (1 + k) * chn (s 58 (19 + 3 * c + k)) e) = s 58 (1 + k) * chn (s 58 (19 + 3 * c + k)) e := w64_id (by omega) (by omega)
    have hv : (if w = 0 then if 6 * s 58 (10 + 3 * c + k) + e < g then 6 * s 58 (10 + 3 * c + k) + e else g else if g < 6 * s 58 (10 + 3 * c + k) + e then 1 else 0) = val w (s 58 (10 + 3 * c + k)) e g := rfl
    have w2 : w64 (s 58 (1 + k) * chn (s 58 (19 + 3 * c + k)) e * val w (s 58 (10 + 3 * c + k)) e g) = s 58 (1 + k) * chn (s 58 (19 + 3 * c + k)) e * val w (s 58 (10 + 3 * c + k)) e g := w64_id (by omega) (by omega)
    have w3 : w64 (acc + s 58 (1 + k) * chn (s 58 (19 + 3 * c + k)) e * val w (s 58 (10 + 3 * c + k)) e g) = acc + s 58 (1 + k) * chn (s 58 (19 + 3 * c + k)) e * val w (s 58 (10 + 3 * c + k)) e g := w64_id (by omega) (by omega)
    obtain ⟨i1, i2, i3⟩ := ih (acc + s 58 (1 + k) * chn (s 58 (19 + 3 * c + k)) e * val w (s 58 (10 + 3 * c + k)) e g) (by omega) (by omega) (by omega)
    have eP : PS (s 58 (1 + k)) w (s 58 (10 + 3 * c + k)) (s 58 (19 + 3 * c + k)) g (n + 1) = s 58 (1 + k) * chn (s 58 (19 + 3 * c + k)) e * val w (s 58 (10 + 3 * c + k)) e g + PS (s 58 (1 + k)) w (s 58 (10 + 3 * c + k)) (s 58 (19 + 3 * c + k)) g n := by rw [he]; rfl
    refine ⟨?_, by omega, by omega⟩
    rw [e7, g169_15 hR, if_pos (by omega), wi, wj, g_t (by omega), g_t (by omega), c_six hR hT hc hk (by omega), bnL_some, wW, hv, w1, w2, w3, we, i1, eP, Int.add_assoc]
def meanS (T : Int → Int) (w c g : Int) : Int := PS (T 1) w (T (10 + 3 * c)) (T (19 + 3 * c)) g 7 + PS (T 2) w (T (11 + 3 * c)) (T (20 + 3 * c)) g 7 + PS (T 3) w (T (12 + 3 * c)) (T (21 + 3 * c)) g 7
theorem c_meanP {s : SG} (hR : RefC s) (hT : TRng (s 58)) {c g w : Int} (hc : 0 ≤ c ∧ c < 3) (hg : 0 ≤ g ∧ g ≤ 60) : sem 169 0 [aA 56, aI c, aI g, aI w, aU, aU, aU, aU, aU, aU, aU] [] s = some (aL (meanS (s 58) w c g), s) := by
  obtain ⟨a1, a2, a3⟩ := l_mean hR hT hc hg (k := 0) (w := w) (by decide) 7 0 (by decide) (by decide) (by decide)
  obtain ⟨b1, b2, b3⟩ := l_mean hR hT hc hg (k := 1) (w := w) (by decide) 7 _ (by decide) (show 0 ≤ 0 + PS (s 58 (1 + 0)) w (s 58 (10 + 3 * c + 0)) (s 58 (19 + 3 * c + 0)) g 7 by omega) (by omega)
  obtain ⟨d1, d2, d3⟩ := l_mean hR hT hc hg (k := 2) (w := w) (by decide) 7 _ (by decide) (show 0 ≤ 0 + PS (s 58 (1 + 0)) w (s 58 (10 + 3 * c + 0)) (s 58 (19 + 3 * c + 0)) g 7 + PS (s 58 (1 + 1)) w (s 58 (10 + 3 * c + 1)) (s 58 (19 + 3 * c + 1)) g 7 by omega) (by omega)
  have z7 : (7 : Int) - ((7 : Nat) : Int) = 0 := rfl
  rw [z7] at a1 b1 d1
  rw [g169_0 hR, g169_6 hR, if_pos (by decide), a1, g169_6 hR, if_pos (by decide)]
  rw [show (0 : Int) + 1 = 1 from rfl, b1, g169_6 hR, if_pos (by decide), show (1 : Int) + 1 = 2 from rfl]
  rw [show (1 : Int) + 1 = 2 from rfl] at d1
  rw [d1, g169_6 hR, if_neg (by decide)]
  unfold meanS
  rw [show 10 + 3 * c + 0 = 10 + 3 * c by omega, show 19 + 3 * c + 0 = 19 + 3 * c by omega, show 10 + 3 * c + 1 = 11 + 3 * c by omega, show 19 + 3 * c + 1 = 20 + 3 * c by omega, show 10 + 3 * c + 2 = 12 + 3 * c by omega, show 19 + 3 * c + 2 = 21 + 3 * c by omega, Int.zero_add]
  rfl
theorem mean_0 (T : Int → Int) (c g : Int) : meanS T 0 c g = soldS T c g := by
  unfold meanS soldS
  rw [PS_7, PS_7, PS_7]
  rfl
theorem mean_1 (T : Int → Int) (c g : Int) : meanS T 1 c g = outS T c g := by
  unfold meanS outS
  rw [PS_7, PS_7, PS_7]
  rfl

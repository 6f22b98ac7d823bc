set_option maxHeartbeats 4000000 in
/-- what the class does once the text has been read -/
theorem k_town {s s1 : SG} {d : Int} (hd : d = 32 ∨ d = 37) (hR : RefC s) (hs : s 0 10 = d ∧ s 0 9 = 69 - d) (h1 : sem 32 0 [aA 3, aA 1, aA d, aU] [] s = some (aI (-9), s1)) (f1 : FcC2 d s s1) {T : Int → Int} (hT : TRng T) (hv : ∀ i, 0 ≤ i → i < 28 → tv s1 d i = T i) : ∃ sF, sem 106 0 [aA 0, aU, aU] [] s = some (aI (s1 3 2), sF) ∧ RefC sF ∧ (sF 0 9 = d ∧ sF 0 10 = 69 - d) ∧ (∀ i, 0 ≤ i → i < 28 → tv sF d i = T i) ∧ sF 5 4 = allS T ∧ (∀ b i, 0 ≤ b → b < T 0 → 0 ≤ i → i ≤ 60 → sF 7 (61 * b + i) = outS T b i ∧ sF 6 (61 * b + i) = soldS T b i) ∧ sF 10 2 = 0 ∧ (sF 16 6 = 0 ∧ sF 16 7 = 0 ∧ sF 16 8 = 0 ∧ sF 16 9 = 0 ∧ sF 16 10 = 0) ∧ (∀ c, 0 ≤ c → c < 3 → sF 17 c = 0 ∧ sF 18 c = 5 ∧ sF 19 c = 0) ∧ (sF 31 0 = 0 ∧ sF 31 1 = 0) ∧ ∀ q i, ¬ (q = 0 ∧ 9 ≤ i) → ¬ (q = 31 ∧ 0 ≤ i) → ¬ (q = 16 ∧ 6 ≤ i) → ¬ (17 ≤ q ∧ q ≤ 19) → ¬ (q = 10 ∧ i = 2) → ¬ Crk q i → sF q i = s1 q i := by
  have hR1 : RefC s1 := RefC.sem h1 rfl hR
  have e9 : s1 0 9 = 69 - d := (f1 0 9 (by omega) (by decide) (by omega) (by omega)).trans hs.2
  have e10 : s1 0 10 = d := (f1 0 10 (by omega) (by decide) (by omega) (by omega)).trans hs.1
  have hRX : RefC (up (up s1 0 9 d) 0 10 (69 - d)) := hR1.tw d (69 - d)
  obtain ⟨sX, hX⟩ : ∃ z, z = up (up s1 0 9 d) 0 10 (69 - d) := ⟨_, rfl⟩
  rw [← hX] at hRX
  have fX : ∀ q i, ¬ (q = 0 ∧ 9 ≤ i) → sX q i = s1 q i := fun q i hq => by
    rw [hX, up_app, if_neg (by omega), up_app, if_neg (by omega)]
  have x9 : sX 0 9 = d := by rw [hX, up_ni (by decide), up_at]
  have x10 : sX 0 10 = 69 - d := by rw [hX, up_at]
  have x2 : sX 0 2 = 5 := hRX.2.2.1
  obtain ⟨sR, a1, a2, a3, a4, a5⟩ := c_reckon hd hT hRX (fun i i0 i1 => by rw [tv_cg (fun q i z1 z2 => fX q i (by omega)) i]; exact hv i i0 i1)
  have hRS : RefC (up sR 10 2 0) := RefC.upd a2 (rcb_f (c := 4) (j := 2) rfl (by decide) (by decide))
  obtain ⟨sM, b1, b2, b3, b4, b5⟩ := c_told hRS
  have hRF : RefC (up (up sM 31 0 0) 31 1 0) := RefC.upd (RefC.upd b2 (rcb_a (by decide))) (rcb_a (by decide))
  have r1 : s 0 1 = 3 := hR.2.1
  have r0 : s 0 0 = 1 := hR.1
  have g3 : sR 0 3 = 10 := a2.2.2.2.1
  have g5 : up sR 10 2 0 0 5 = 16 := hRS.2.2.2.2.2.1
  have m8 : sM 0 8 = 31 := b2.2.2.2.2.2.2.2.2.1
  have m8' : up sM 31 0 0 0 8 = 31 := by rw [up_ne (by decide)]; exact m8
  have m1 : up (up sM 31 0 0) 31 1 0 0 1 = 3 := hRF.2.1
  have d31 : kl 31 = 2 := rfl
  have kd6 : kd d = 6 := (kd_t hd).1
  have fF : ∀ q i, ¬ (q = 31 ∧ 0 ≤ i) → ¬ (q = 16 ∧ 6 ≤ i) → ¬ (17 ≤ q ∧ q ≤ 19) → ¬ (q = 10 ∧ i = 2) → up (up sM 31 0 0) 31 1 0 q i = sR q i := fun q i z1 z2 z3 z4 => by
    rw [up_app, if_neg (by omega), up_app, if_neg (by omega), b5 q i z2 z3, up_app, if_neg (by omega)]
  refine ⟨up (up sM 31 0 0) 31 1 0, ?_, hRF, ⟨?_, ?_⟩, fun i i0 i1 => ?_, ?_, fun b i x0 x1 y0 y1 => ?_, ?_, ?_, fun c c0 c1 => ?_, ?_, fun q i z1 z2 z3 z4 z5 z6 => ?_⟩
  · rw [e106_0, g_t (by decide), r1, g_t (by decide), g_t (by decide), r0, g_t (by decide), g_t (by decide), hs.1, g_t (by omega), g_t (by decide), h1, bnI_some, if_pos rfl, e9, e10, ← hX, x2, x9]
    rw [g_t (by decide), g_t (by omega), g_t (by decide), g_t (by omega), g_t (by decide), g_t (by omega), g_t (by decide), g_t (by omega), g_t (by decide), g_t (by decide), g_t (by decide), g_t (by omega), g_t (by decide), a1, bnV_some, g3]
    rw [g_t (by decide), g_t (by decide), g_t (by decide), g67_0 a2, bnI_some, g5, g_t (by decide), g_t (by decide), g_t (by decide), b1, bnV_some]
    rw [e106_69, if_pos (by decide), g_t (by decide), m8, g_t (by decide), g_t (by decide), g_t (by omega), g_t (by decide), show w32 (0 + 1) = 1 from rfl]
    rw [e106_69, if_pos (by decide), g_t (by decide), m8', g_t (by decide), g_t (by decide), g_t (by omega), g_t (by decide), show w32 (1 + 1) = 2 from rfl]
    rw [e106_69, if_neg (by decide), g_t (by decide), m1, g_t (by decide), g_t (by decide), g31_0 hRF, bnI_some]
    rw [fF 3 2 (by omega) (by omega) (by omega) (by omega), a5 3 2 (by unfold Crk; omega), fX 3 2 (by omega)]
  · rw [fF 0 9 (by omega) (by omega) (by omega) (by omega), a5 0 9 (by unfold Crk; omega), x9]
  · rw [fF 0 10 (by omega) (by omega) (by omega) (by omega), a5 0 10 (by unfold Crk; omega), x10]
  · rw [← hv i i0 i1]
    refine tv_cg (fun q i z1 z2 => ?_) i
    rw [fF q i (by omega) (by omega) (by omega) (by omega), a5 q i (by unfold Crk; omega), fX q i (by omega)]
  · rw [fF 5 4 (by omega) (by omega) (by omega) (by omega), a3]
  · rw [fF 7 _ (by omega) (by omega) (by omega) (by omega), fF 6 _ (by omega) (by omega) (by omega) (by omega)]
    exact a4 b i x0 x1 y0 y1
  · rw [up_ne (by decide), up_ne (by decide), b5 10 2 (by omega) (by omega), up_at]
  · repeat rw [up_ne (by decide)]
    exact b3
  · repeat rw [up_ne (by decide)]
    exact b4 c c0 c1
  · rw [up_ni (by decide), up_at, up_at]
    exact ⟨rfl, rfl⟩
  · rw [fF q i z2 z3 z4 z5, a5 q i z6, fX q i z1]

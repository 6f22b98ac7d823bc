/-! reckon -/
/-- what reckon may change -/
def Crk (q i : Int) : Prop := q = 6 ∨ q = 7 ∨ q = 8 ∨ (q = 5 ∧ i = 4)
theorem ru54 {s : SG} (h : RefC s) (v : Int) : RefC (up s 5 4 v) := RefC.upd h (rcb_f (c := 0) (j := 4) rfl (by decide) (by decide))
/-- one corner -/
theorem c_corner {t : Int} (ht : t = 32 ∨ t = 37) {T : Int → Int} (hT : TRng T) {c : Int} (hc : 0 ≤ c ∧ c < 3) {s : SG} (hR : RefC s) (hv : ∀ i, 0 ≤ i → i < 28 → tv s t i = T i) (h7 : ∀ i, 0 ≤ i → i ≤ 60 → s 7 (61 * c + i) = 0) : ∃ s', sem 1 62 [aA 5, aA t, aI c, aI 0] [] s = sem 1 47 [aA 5, aA t, aI (c + 1), aU] [] s' ∧ RefC s' ∧ (∀ i, 0 ≤ i → i ≤ 60 → s' 7 (61 * c + i) = outS T c i ∧ s' 6 (61 * c + i) = soldS T c i) ∧ ∀ q i, q ≠ 8 → ¬ ((q = 6 ∨ q = 7) ∧ 61 * c ≤ i ∧ i ≤ 61 * c + 60) → s' q i = s q i := by
  obtain ⟨t0, t1, t2, t3, t4, t5⟩ := hT
  have k0 : w32 (0 + 1) = 1 := rfl
  have k1 : w32 (1 + 1) = 2 := rfl
  have k2 : w32 (2 + 1) = 3 := rfl
  have wc : w32 (c + 1) = c + 1 := w32_id (by omega) (by omega)
  -- the numbers of the kinds, in any store that keeps the town
  have get : ∀ (u : SG) (k : Int), RefC u → 0 ≤ k → k < 3 → (∀ q i, t ≤ q → q ≤ t + 4 → u q i = s q i) → sem 84 0 [aA t, aI c, aI k, aU] [] u = some (aI (T (10 + 3 * c + k)), u) ∧ sem 85 0 [aA t, aI c, aI k, aU] [] u = some (aI (T (19 + 3 * c + k)), u) ∧ sem 83 0 [aA t, aI k] [] u = some (aI (T (1 + k)), u) := by
    intro u k hu k00 k03 hk
    have tr := TR.of hu ht
    have v1 := hv (10 + 3 * c + k) (by omega) (by omega)
    have v2 := hv (19 + 3 * c + k) (by omega) (by omega)
    have v3 := hv (1 + k) (by omega) (by omega)
    unfold tv at v1 v2 v3
    rw [if_neg (by omega), if_neg (by omega), if_neg (by omega), if_neg (by omega), if_neg (by omega), if_neg (by omega), if_pos (by omega)] at v1
    rw [if_neg (by omega), if_neg (by omega), if_neg (by omega), if_neg (by omega), if_neg (by omega), if_neg (by omega), if_neg (by omega)] at v2
    rw [if_neg (by omega), if_pos (by omega)] at v3
    rw [show 10 + 3 * c + k - 10 = 3 * c + k by omega] at v1
    rw [show 19 + 3 * c + k - 19 = 3 * c + k by omega] at v2
    rw [show 1 + k - 1 = k by omega] at v3
    refine ⟨?_, ?_, ?_⟩
    · rw [c_comesTo tr hc.1 hc.2 k00 k03, hk (t + 2) _ (by omega) (by omega), v1]
    · rw [c_tenthsAt tr hc.1 hc.2 k00 k03, hk (t + 3) _ (by omega) (by omega), v2]
    · rw [c_shareOf tr k00 k03, hk (t + 1) _ (by omega) (by omega), v3]
  have r4 : ∀ k, 0 ≤ k → k < 3 → 0 ≤ T (10 + 3 * c + k) ∧ T (10 + 3 * c + k) ≤ 3 := fun k a b => t4 _ (by omega) (by omega)
  have r5 : ∀ k, 0 ≤ k → k < 3 → 0 ≤ T (19 + 3 * c + k) ∧ T (19 + 3 * c + k) ≤ 9 := fun k a b => t5 _ (by omega) (by omega)
  have r1 : ∀ k, 0 ≤ k → k < 3 → 0 ≤ T (1 + k) ∧ T (1 + k) ≤ 9 := fun k a b => by have := t1 (1 + k) (by omega) (by omega); omega
  have jr : ∀ k i, 0 ≤ k → k < 3 → 0 ≤ Jk (T (10 + 3 * c + k)) (T (19 + 3 * c + k)) i * T (1 + k) ∧ Jk (T (10 + 3 * c + k)) (T (19 + 3 * c + k)) i * T (1 + k) ≤ 9000000 := fun k i a b => by
    have := mul_rng (Jk_rng (b := T (10 + 3 * c + k)) (i := i) (r5 k a b)) (r1 k a b)
    omega
  -- kind 0
  obtain ⟨x1, x2, x3⟩ := get s 0 hR (by decide) (by decide) (fun _ _ _ _ => rfl)
  obtain ⟨s1, a1, a2, a3, a4⟩ := c_addKind hc (r4 0 (by decide) (by decide)) (r5 0 (by decide) (by decide)) (r1 0 (by decide) (by decide)) hR (fun i i0 i1 => by rw [h7 i i0 (by omega)]; decide)
  have m1 : ∀ q i, t ≤ q → q ≤ t + 4 → s1 q i = s q i := fun q i h1 h2 => a4 q i (by omega) (by omega)
  obtain ⟨y1, y2, y3⟩ := get s1 1 a2 (by decide) (by decide) m1
  obtain ⟨s2, b1, b2, b3, b4⟩ := c_addKind hc (r4 1 (by decide) (by decide)) (r5 1 (by decide) (by decide)) (r1 1 (by decide) (by decide)) a2 (fun i i0 i1 => by
    have := jr 0 i (by decide) (by decide)
    rw [a3 i i0, h7 i i0 (by omega)]; omega)
  have m2 : ∀ q i, t ≤ q → q ≤ t + 4 → s2 q i = s q i := fun q i h1 h2 => by rw [b4 q i (by omega) (by omega), m1 q i h1 h2]
  obtain ⟨z1, z2, z3⟩ := get s2 2 b2 (by decide) (by decide) m2
  obtain ⟨s3, c1, c2, c3, c4⟩ := c_addKind hc (r4 2 (by decide) (by decide)) (r5 2 (by decide) (by decide)) (r1 2 (by decide) (by decide)) b2 (fun i i0 i1 => by
    have j0 := jr 0 i (by decide) (by decide)
    have j1 := jr 1 i (by decide) (by decide)
    rw [b3 i i0, a3 i i0, h7 i i0 (by omega)]; omega)
  have hTT : TRng T := ⟨t0, t1, t2, t3, t4, t5⟩
  obtain ⟨s', d1, d2, d3, d4⟩ := c_sumUp hc (F := outF T c) (O := outS T c) (S := soldS T c) (fun i _ _ => outS_step T c i) (fun i _ _ => by have := outS_rng hTT (g := i) hc; omega) (fun i _ _ => soldS_step T c i) (fun i i0 i1 => by have := soldS_r60 hTT hc i0 i1; omega) (soldS_0 hTT hc) c2 (fun i i0 i1 => by
    rw [c3 i i0, b3 i i0, a3 i i0, h7 i i0 (by omega)]
    unfold outF
    rw [Int.mul_comm (T 1), Int.mul_comm (T 2), Int.mul_comm (T 3)]
    have e0 : 10 + 3 * c + 0 = 10 + 3 * c := by omega
    have e1 : 10 + 3 * c + 1 = 11 + 3 * c := by omega
    have e2 : 10 + 3 * c + 2 = 12 + 3 * c := by omega
    have f0 : 19 + 3 * c + 0 = 19 + 3 * c := by omega
    have f1 : 19 + 3 * c + 1 = 20 + 3 * c := by omega
    have f2 : 19 + 3 * c + 2 = 21 + 3 * c := by omega
    rw [e0, e1, e2, f0, f1, f2]
    show 0 + _ * T (1 + 0) + _ * T (1 + 1) + _ * T (1 + 2) = _
    rw [show (1 : Int) + 0 = 1 from rfl, show (1 : Int) + 1 = 2 from rfl, show (1 : Int) + 2 = 3 from rfl]
    omega) (by
    rw [c4 7 _ (by decide) (by omega), b4 7 _ (by decide) (by omega), a4 7 _ (by decide) (by omega), h7 60 (by decide) (by decide), outS_60 hTT hc])
  refine ⟨s', ?_, d2, d3, fun q i h1 h2 => ?_⟩
  · rw [g1_62 ht hR, if_pos (by decide), x1, bnI_some, x2, bnI_some, x3, bnI_some, a1, bnV_some, k0]
    rw [g1_62 ht a2, if_pos (by decide), y1, bnI_some, y2, bnI_some, y3, bnI_some, b1, bnV_some, k1]
    rw [g1_62 ht b2, if_pos (by decide), z1, bnI_some, z2, bnI_some, z3, bnI_some, c1, bnV_some, k2]
    rw [g1_62 ht c2, if_neg (by decide), d1, bnV_some, wc]
  · rw [d4 q i h2, c4 q i h1 (by omega), b4 q i h1 (by omega), a4 q i h1 (by omega)]
theorem l_corners {t : Int} (ht : t = 32 ∨ t = 37) {T : Int → Int} (hT : TRng T) : ∀ (n : Nat) (c : Int) (s : SG), c + n = T 0 → 0 ≤ c → RefC s → (∀ i, 0 ≤ i → i < 28 → tv s t i = T i) → (∀ i, 61 * c ≤ i → i < 183 → s 7 i = 0) → (∀ b i, 0 ≤ b → b < c → 0 ≤ i → i ≤ 60 → s 7 (61 * b + i) = outS T b i ∧ s 6 (61 * b + i) = soldS T b i) → ∃ s', sem 1 47 [aA 5, aA t, aI c, aU] [] s = some (aU, s') ∧ RefC s' ∧ (∀ b i, 0 ≤ b → b < T 0 → 0 ≤ i → i ≤ 60 → s' 7 (61 * b + i) = outS T b i ∧ s' 6 (61 * b + i) = soldS T b i) ∧ ∀ q i, q ≠ 6 → q ≠ 7 → q ≠ 8 → s' q i = s q i := by
  have n3 := hT.1
  intro n
  induction n with
  | zero =>
    intro c s hl h0 hR hv h7 h6
    have e4 : s t 4 = T 0 := hv 0 (by decide) (by decide)
    rw [g1_47 ht hR, e4, if_neg (by omega)]
    exact ⟨s, rfl, hR, fun b i b0 b1 => h6 b i b0 (by omega), fun _ _ _ _ _ => rfl⟩
  | succ n ih =>
    intro c s hl h0 hR hv h7 h6
    have e4 : s t 4 = T 0 := hv 0 (by decide) (by decide)
    obtain ⟨s1, a1, a2, a3, a4⟩ := c_corner ht hT (c := c) (by omega) hR hv (fun i i0 i1 => h7 _ (by omega) (by omega))
    have m1 : ∀ q i, t ≤ q → q ≤ t + 4 → s1 q i = s q i := fun q i h1 h2 => a4 q i (by omega) (by omega)
    obtain ⟨s', b1, b2, b3, b4⟩ := ih (c + 1) s1 (by omega) (by omega) a2 (fun i i0 i1 => by
      rw [← hv i i0 i1]
      unfold tv
      rw [m1 t 4 (by omega) (by omega), m1 t 5 (by omega) (by omega), m1 t 6 (by omega) (by omega), m1 t 7 (by omega) (by omega), m1 (t + 1) _ (by omega) (by omega), m1 (t + 2) _ (by omega) (by omega), m1 (t + 3) _ (by omega) (by omega), m1 (t + 4) _ (by omega) (by omega)]) (fun i i0 i1 => by
      rw [a4 7 i (by decide) (by omega)]; exact h7 i (by omega) i1) (fun b i x0 x1 y0 y1 => by
      by_cases z : b = c
      · rw [z]; exact a3 i y0 y1
      · rw [a4 7 _ (by decide) (by omega), a4 6 _ (by decide) (by omega)]
        exact h6 b i x0 (by omega) y0 y1)
    refine ⟨s', ?_, b2, b3, fun q i h1 h2 h3 => by rw [b4 q i h1 h2 h3, a4 q i h3 (by omega)]⟩
    rw [g1_47 ht hR, e4, if_pos (by omega), if_pos (by omega), a1]
    exact b1
set_option maxHeartbeats 2000000 in
theorem c_reckon {t : Int} (ht : t = 32 ∨ t = 37) {T : Int → Int} (hT : TRng T) {s : SG} (hR : RefC s) (hv : ∀ i, 0 ≤ i → i < 28 → tv s t i = T i) : ∃ s', sem 1 0 [aA 5, aA t, aU, aU] [] s = some (aU, s') ∧ RefC s' ∧ s' 5 4 = allS T ∧ (∀ b i, 0 ≤ b → b < T 0 → 0 ≤ i → i ≤ 60 → s' 7 (61 * b + i) = outS T b i ∧ s' 6 (61 * b + i) = soldS T b i) ∧ ∀ q i, ¬ Crk q i → s' q i = s q i := by
  have k0 : w32 (0 + 1) = 1 := rfl
  have k1 : w32 (1 + 1) = 2 := rfl
  have k2 : w32 (2 + 1) = 3 := rfl
  have k7 : kl 7 = 183 := rfl
  have ef := c_fillL (k := 7) (v := 0) rfl (by decide) s
  have hF : RefC (fillS s 7 0 0) := RefC.sem ef rfl hR
  have t1 := hT.2.1
  have r1 := t1 1 (by decide) (by decide)
  have r2 := t1 2 (by decide) (by decide)
  have r3 := t1 3 (by decide) (by decide)
  have gt : ∀ (u : SG) (k : Int), RefC u → 0 ≤ k → k < 3 → (∀ q i, t ≤ q → q ≤ t + 4 → u q i = s q i) → sem 83 0 [aA t, aI k] [] u = some (aI (T (1 + k)), u) := by
    intro u k hu k00 k03 hk
    have tr := TR.of hu ht
    have v3 := hv (1 + k) (by omega) (by omega)
    unfold tv at v3
    rw [if_neg (by omega), if_pos (by omega)] at v3
    rw [show 1 + k - 1 = k by omega] at v3
    rw [c_shareOf tr k00 k03, hk (t + 1) _ (by omega) (by omega), v3]
  have fr : ∀ q i, t ≤ q → q ≤ t + 4 → fillS s 7 0 0 q i = s q i := fun q i h1 h2 => by rw [fillS_app, if_neg (by omega)]
  obtain ⟨sA, hA⟩ : ∃ z, z = fillS s 7 0 0 := ⟨_, rfl⟩
  rw [← hA] at ef hF fr
  have g0 := gt (up sA 5 4 0) 0 (ru54 hF _) (by decide) (by decide) (fun q i h1 h2 => by rw [up_ne (by omega), fr q i h1 h2])
  have g1 := gt (up (up sA 5 4 0) 5 4 (1000000 * T 1)) 1 (ru54 (ru54 hF _) _) (by decide) (by decide) (fun q i h1 h2 => by rw [up_ne (by omega), up_ne (by omega), fr q i h1 h2])
  have g2 := gt (up (up (up sA 5 4 0) 5 4 (1000000 * T 1)) 5 4 (1000000 * T 1 + 1000000 * T 2)) 2 (ru54 (ru54 (ru54 hF _) _) _) (by decide) (by decide) (fun q i h1 h2 => by rw [up_ne (by omega), up_ne (by omega), up_ne (by omega), fr q i h1 h2])
  have w0 : w64 (0 + w64 (1000000 * T (1 + 0))) = 1000000 * T 1 := by
    show w64 (0 + w64 (1000000 * T 1)) = _
    rw [w64_id (a := 1000000 * T 1) (by omega) (by omega), Int.zero_add, w64_id (by omega) (by omega)]
  have w1 : w64 (1000000 * T 1 + w64 (1000000 * T (1 + 1))) = 1000000 * T 1 + 1000000 * T 2 := by
    show w64 (1000000 * T 1 + w64 (1000000 * T 2)) = _
    rw [w64_id (a := 1000000 * T 2) (by omega) (by omega), w64_id (by omega) (by omega)]
  have w2 : w64 (1000000 * T 1 + 1000000 * T 2 + w64 (1000000 * T (1 + 2))) = allS T := by
    show w64 (1000000 * T 1 + 1000000 * T 2 + w64 (1000000 * T 3)) = _
    unfold allS
    rw [w64_id (a := 1000000 * T 3) (by omega) (by omega), w64_id (by omega) (by omega)]
    omega
  have hRB : RefC (up (up (up (up sA 5 4 0) 5 4 (1000000 * T 1)) 5 4 (1000000 * T 1 + 1000000 * T 2)) 5 4 (allS T)) := ru54 (ru54 (ru54 (ru54 hF _) _) _) _
  obtain ⟨s', b1, b2, b3, b4⟩ := l_corners ht hT (T 0).toNat 0 (up (up (up (up sA 5 4 0) 5 4 (1000000 * T 1)) 5 4 (1000000 * T 1 + 1000000 * T 2)) 5 4 (allS T)) (by have := hT.1; omega) (by decide) hRB (fun i i0 i1 => by
    rw [tv_ne (by omega) ⟨i0, i1⟩, tv_ne (by omega) ⟨i0, i1⟩, tv_ne (by omega) ⟨i0, i1⟩, tv_ne (by omega) ⟨i0, i1⟩, ← hv i i0 i1]
    unfold tv
    rw [fr t 4 (by omega) (by omega), fr t 5 (by omega) (by omega), fr t 6 (by omega) (by omega), fr t 7 (by omega) (by omega), fr (t + 1) _ (by omega) (by omega), fr (t + 2) _ (by omega) (by omega), fr (t + 3) _ (by omega) (by omega), fr (t + 4) _ (by omega) (by omega)]) (fun i i0 i1 => by
    rw [up_ne (by decide), up_ne (by decide), up_ne (by decide), up_ne (by decide), hA, fillS_app, if_pos (by omega)]) (fun b i x0 x1 => by omega)
  refine ⟨s', ?_, b2, ?_, b3, fun q i hq => ?_⟩
  · rw [g1_0 ht hR, ef, bnV_some]
    rw [g1_15 ht (ru54 hF _), if_pos (by decide), g0, bnI_some, k0, up_at, w0]
    rw [g1_15 ht (ru54 (ru54 hF _) _), if_pos (by decide), g1, bnI_some, k1, up_at, w1]
    rw [g1_15 ht (ru54 (ru54 (ru54 hF _) _) _), if_pos (by decide), g2, bnI_some, k2, up_at, w2]
    rw [g1_15 ht hRB, if_neg (by decide)]
    exact b1
  · rw [b4 5 4 (by decide) (by decide) (by decide), up_at]
  · unfold Crk at hq
    rw [b4 q i (by omega) (by omega) (by omega), up_app, if_neg (by omega), up_app, if_neg (by omega), up_app, if_neg (by omega), up_app, if_neg (by omega), hA, fillS_app, if_neg (by omega)]

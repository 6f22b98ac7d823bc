/-! reckon: sums, corner by corner -/
theorem l_sum1 {c : Int} (hc : 0 ≤ c ∧ c < 3) {F O : Int → Int} (hO : ∀ i, 0 ≤ i → i < 60 → O i = F i + O (i + 1)) (rO : ∀ i, 0 ≤ i → i ≤ 60 → 0 ≤ O i ∧ O i ≤ 1000000000) : ∀ (n : Nat) (s : SG), n ≤ 60 → RefC s → (∀ i, 0 ≤ i → i ≤ 60 → s 7 (61 * c + i) = if (n : Int) ≤ i then O i else F i) → ∃ s', sem 4 16 [aA 5, aU, aI (61 * c), aI ((n : Int) - 1)] [] s = sem 4 56 [aA 5, aU, aI (61 * c), aI 1] [] (up s' 6 (61 * c) 0) ∧ RefC s' ∧ (∀ i, 0 ≤ i → i ≤ 60 → s' 7 (61 * c + i) = O i) ∧ ∀ q i, ¬ (q = 7 ∧ 61 * c ≤ i ∧ i ≤ 61 * c + 60) → s' q i = s q i := by
  intro n
  induction n with
  | zero =>
    intro s hn hR h7
    rw [g4_16 hR, if_pos (by decide), g_t (by omega)]
    exact ⟨s, rfl, hR, fun i i0 i1 => by rw [h7 i i0 i1, if_pos (by omega)], fun _ _ _ => rfl⟩
  | succ n ih =>
    intro s hn hR h7
    have e0 : ((n + 1 : Nat) : Int) - 1 = (n : Int) := by omega
    rw [e0]
    have w0 : w32 (61 * c + (n : Int)) = 61 * c + (n : Int) := w32_id (by omega) (by omega)
    have w1 : w32 (61 * c + (n : Int) + 1) = 61 * c + ((n : Int) + 1) := by rw [w32_id (by omega) (by omega)]; omega
    have w2 : w32 ((n : Int) + -1) = (n : Int) - 1 := w32_id (by omega) (by omega)
    have a0 := h7 (n : Int) (by omega) (by omega)
    have a1 := h7 ((n : Int) + 1) (by omega) (by omega)
    rw [if_neg (by omega)] at a0
    rw [if_pos (by omega)] at a1
    have o0 := hO (n : Int) (by omega) (by omega)
    have r0 := rO (n : Int) (by omega) (by omega)
    have w3 : w64 (F (n : Int) + O ((n : Int) + 1)) = O (n : Int) := by rw [← o0]; exact w64_id (by omega) (by omega)
    rw [g4_16 hR, if_neg (by omega), w0, w1, w2, g_t (by omega), g_t (by omega), a0, a1, w3]
    obtain ⟨s', b1, b2, b3, b4⟩ := ih (up s 7 (61 * c + (n : Int)) (O (n : Int))) (by omega) (ru7 hR _ _) (fun i i0 i1 => by
      by_cases z : i = (n : Int)
      · rw [z, up_at, if_pos (by omega)]
      · rw [up_ni (by omega), h7 i i0 i1]
        by_cases z2 : ((n + 1 : Nat) : Int) ≤ i
        · rw [if_pos z2, if_pos (by omega)]
        · rw [if_neg z2, if_neg (by omega)])
    exact ⟨s', b1, b2, b3, fun q i hq => by rw [b4 q i hq, up_app, if_neg (by omega)]⟩
theorem l_sum2 {c : Int} (hc : 0 ≤ c ∧ c < 3) {O S : Int → Int} (hS : ∀ i, 0 ≤ i → i < 60 → S (i + 1) = S i + O i) (rS : ∀ i, 0 ≤ i → i ≤ 60 → 0 ≤ S i ∧ S i ≤ 1000000000000) : ∀ (n : Nat) (l : Int) (s : SG), l + n = 61 → 1 ≤ l → RefC s → (∀ i, 0 ≤ i → i ≤ 60 → s 7 (61 * c + i) = O i) → (∀ i, 0 ≤ i → i < l → s 6 (61 * c + i) = S i) → ∃ s', sem 4 56 [aA 5, aU, aI (61 * c), aI l] [] s = some (aU, s') ∧ RefC s' ∧ (∀ i, 0 ≤ i → i ≤ 60 → s' 6 (61 * c + i) = S i) ∧ ∀ q i, ¬ (q = 6 ∧ 61 * c ≤ i ∧ i ≤ 61 * c + 60) → s' q i = s q i := by
  intro n
  induction n with
  | zero =>
    intro l s hl h0 hR h7 h6
    rw [g4_56 hR, if_pos (by omega)]
    exact ⟨s, rfl, hR, fun i i0 i1 => h6 i i0 (by omega), fun _ _ _ => rfl⟩
  | succ n ih =>
    intro l s hl h0 hR h7 h6
    have w0 : w32 (61 * c + l) = 61 * c + l := w32_id (by omega) (by omega)
    have w1 : w32 (61 * c + l - 1) = 61 * c + (l - 1) := by rw [w32_id (by omega) (by omega)]; omega
    have w2 : w32 (l + 1) = l + 1 := w32_id (by omega) (by omega)
    have s0 := hS (l - 1) (by omega) (by omega)
    rw [show l - 1 + 1 = l by omega] at s0
    have r0 := rS l (by omega) (by omega)
    have w3 : w64 (S (l - 1) + O (l - 1)) = S l := by rw [← s0]; exact w64_id (by omega) (by omega)
    rw [g4_56 hR, if_neg (by omega), w0, w1, w2, g_t (by omega), g_t (by omega), h6 (l - 1) (by omega) (by omega), h7 (l - 1) (by omega) (by omega), w3]
    obtain ⟨s', b1, b2, b3, b4⟩ := ih (l + 1) (up s 6 (61 * c + l) (S l)) (by omega) (by omega) (ru6 hR _ _) (fun i i0 i1 => by rw [up_ne (by decide)]; exact h7 i i0 i1) (fun i i0 i1 => by
      by_cases z : i = l
      · rw [z, up_at]
      · rw [up_ni (by omega)]; exact h6 i i0 (by omega))
    exact ⟨s', b1, b2, b3, fun q i hq => by rw [b4 q i hq, up_app, if_neg (by omega)]⟩
theorem c_sumUp {c : Int} (hc : 0 ≤ c ∧ c < 3) {F O S : Int → Int} (hO : ∀ i, 0 ≤ i → i < 60 → O i = F i + O (i + 1)) (rO : ∀ i, 0 ≤ i → i ≤ 60 → 0 ≤ O i ∧ O i ≤ 1000000000) (hS : ∀ i, 0 ≤ i → i < 60 → S (i + 1) = S i + O i) (rS : ∀ i, 0 ≤ i → i ≤ 60 → 0 ≤ S i ∧ S i ≤ 1000000000000) (hS0 : S 0 = 0) {s : SG} (hR : RefC s) (h7 : ∀ i, 0 ≤ i → i < 60 → s 7 (61 * c + i) = F i) (h60 : s 7 (61 * c + 60) = O 60) : ∃ s', sem 4 0 [aA 5, aI c, aU, aU] [] s = some (aU, s') ∧ RefC s' ∧ (∀ i, 0 ≤ i → i ≤ 60 → s' 7 (61 * c + i) = O i ∧ s' 6 (61 * c + i) = S i) ∧ ∀ q i, ¬ ((q = 6 ∨ q = 7) ∧ 61 * c ≤ i ∧ i ≤ 61 * c + 60) → s' q i = s q i := by
  have w : w32 (c * 61) = 61 * c := by rw [w32_id (by omega) (by omega)]; omega
  obtain ⟨s1, a1, a2, a3, a4⟩ := l_sum1 hc hO rO 60 s (by decide) hR (fun i i0 i1 => by
    by_cases z : i = 60
    · rw [z, if_pos (by decide)]; exact h60
    · rw [if_neg (by omega)]; exact h7 i i0 (by omega))
  obtain ⟨s', b1, b2, b3, b4⟩ := l_sum2 hc hS rS 60 1 (up s1 6 (61 * c) 0) (by decide) (by decide) (ru6 a2 _ _) (fun i i0 i1 => by rw [up_ne (by decide)]; exact a3 i i0 i1) (fun i i0 i1 => by
    have : i = 0 := by omega
    rw [this, Int.add_zero, up_at, hS0])
  refine ⟨s', ?_, b2, fun i i0 i1 => ⟨?_, b3 i i0 i1⟩, fun q i hq => ?_⟩
  · rw [g4_0 hR, c_isRow, if_pos hc, bnI_some, if_neg (by decide), w]
    exact a1.trans b1
  · rw [b4 7 _ (by omega), up_ne (by decide), a3 i i0 i1]
  · rw [b4 q i (by omega), up_app, if_neg (by omega), a4 q i (by omega)]
theorem mul3 {a T : Int} (ha : 0 ≤ a ∧ a ≤ 7000000) (hT : 1 ≤ T ∧ T ≤ 9) : 0 ≤ T * a ∧ T * a ≤ 63000000 := by
  have := mul_rng (a := T) (A := 9) (b := a) (B := 7000000) (by omega) ha
  omega
theorem outS_rng {T : Int → Int} (hT : TRng T) {c g : Int} (hc : 0 ≤ c ∧ c < 3) : 0 ≤ outS T c g ∧ outS T c g ≤ 189000000 := by
  obtain ⟨-, t1, -, -, -, t5⟩ := hT
  unfold outS
  have a := mul3 (outK_rng (b := T (10 + 3 * c)) (g := g) (t5 (19 + 3 * c) (by omega) (by omega))) (t1 1 (by decide) (by decide))
  have b := mul3 (outK_rng (b := T (11 + 3 * c)) (g := g) (t5 (20 + 3 * c) (by omega) (by omega))) (t1 2 (by decide) (by decide))
  have d := mul3 (outK_rng (b := T (12 + 3 * c)) (g := g) (t5 (21 + 3 * c) (by omega) (by omega))) (t1 3 (by decide) (by decide))
  omega
theorem soldS_step (T : Int → Int) (c g : Int) : soldS T c (g + 1) = soldS T c g + outS T c g := by
  unfold soldS outS
  rw [sold_step, sold_step, sold_step, Int.mul_add, Int.mul_add, Int.mul_add]
  omega
theorem soldS_0 {T : Int → Int} (hT : TRng T) {c : Int} (hc : 0 ≤ c ∧ c < 3) : soldS T c 0 = 0 := by
  obtain ⟨-, -, -, -, t4, -⟩ := hT
  unfold soldS
  rw [sold_0 (t4 (10 + 3 * c) (by omega) (by omega)).1, sold_0 (t4 (11 + 3 * c) (by omega) (by omega)).1, sold_0 (t4 (12 + 3 * c) (by omega) (by omega)).1]
  omega
theorem soldS_rng {T : Int → Int} (hT : TRng T) {c : Int} (hc : 0 ≤ c ∧ c < 3) : ∀ n : Nat, 0 ≤ soldS T c n ∧ soldS T c n ≤ 189000000 * n := by
  intro n
  induction n with
  | zero =>
    have := soldS_0 hT hc
    have e : ((0 : Nat) : Int) = 0 := rfl
    rw [e, this]
    decide
  | succ n ih =>
    have h := outS_rng hT (g := (n : Int)) hc
    have e : ((n + 1 : Nat) : Int) = (n : Int) + 1 := by omega
    rw [e, soldS_step]
    omega
theorem soldS_r60 {T : Int → Int} (hT : TRng T) {c i : Int} (hc : 0 ≤ c ∧ c < 3) (i0 : 0 ≤ i) (i1 : i ≤ 60) : 0 ≤ soldS T c i ∧ soldS T c i ≤ 11340000000 := by
  have := soldS_rng hT hc i.toNat
  have e : ((i.toNat : Nat) : Int) = i := by omega
  rw [e] at this
  omega
def outF (T : Int → Int) (c i : Int) : Int := T 1 * Jk (T (10 + 3 * c)) (T (19 + 3 * c)) i + T 2 * Jk (T (11 + 3 * c)) (T (20 + 3 * c)) i + T 3 * Jk (T (12 + 3 * c)) (T (21 + 3 * c)) i
theorem outS_step (T : Int → Int) (c g : Int) : outS T c g = outF T c g + outS T c (g + 1) := by
  unfold outS outF
  rw [out_step (T (10 + 3 * c)), out_step (T (11 + 3 * c)), out_step (T (12 + 3 * c)), Int.mul_add, Int.mul_add, Int.mul_add]
  omega
theorem outS_60 {T : Int → Int} (hT : TRng T) {c : Int} (hc : 0 ≤ c ∧ c < 3) : outS T c 60 = 0 := by
  obtain ⟨-, -, -, -, t4, -⟩ := hT
  unfold outS
  rw [out_60 (t4 (10 + 3 * c) (by omega) (by omega)).2, out_60 (t4 (11 + 3 * c) (by omega) (by omega)).2, out_60 (t4 (12 + 3 * c) (by omega) (by omega)).2]
  omega

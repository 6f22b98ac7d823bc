/-! the greatest common divisor, on both sides -/
theorem rem_nat (a b : Nat) : remA (a : Int) (b : Int) = ((a % b : Nat) : Int) := by
  unfold remA
  exact (Int.ofNat_tmod a b).symm
theorem gcd_stp (a b : Nat) : Nat.gcd b (a % b) = Nat.gcd a b := by
  rw [Nat.gcd_comm b, ← Nat.gcd_rec, Nat.gcd_comm]
theorem l_cd : ∀ (k : Nat) (a b : Nat) (i : Int) (s : SG), b < 2 ^ k → 0 ≤ i → i + 2 * k ≤ 100 → sem 150 15 [aU, aU, aU, aU, aL (a : Int), aU, aL (b : Int), aU, aI i, aU, aU] [] s = some (aL ((Nat.gcd a b : Nat) : Int), s) := by
  intro k
  have dn : ∀ (a : Nat) (i : Int) (s : SG), sem 150 15 [aU, aU, aU, aU, aL (a : Int), aU, aL ((0 : Nat) : Int), aU, aI i, aU, aU] [] s = some (aL ((Nat.gcd a 0 : Nat) : Int), s) := fun a i s => by
    rw [e150_15, Nat.gcd_zero_right]
    split
    · rfl
    · rfl
  have one : ∀ (a b : Nat) (i : Int) (s : SG), b ≠ 0 → 0 ≤ i → i < 100 → sem 150 15 [aU, aU, aU, aU, aL (a : Int), aU, aL (b : Int), aU, aI i, aU, aU] [] s = sem 150 15 [aU, aU, aU, aU, aL (b : Int), aU, aL ((a % b : Nat) : Int), aU, aI (i + 1), aU, aU] [] s := fun a b i s hb h0 h1 => by
    have w : w32 (i + 1) = i + 1 := w32_id (by omega) (by omega)
    rw [e150_15, if_pos h1, if_neg (by rw [cmpL_eq0]; omega), g_t (by omega), rem_nat, w]
  induction k with
  | zero =>
    intro a b i s hb h0 h1
    have : b = 0 := by omega
    subst this
    exact dn a i s
  | succ k ih =>
    intro a b i s hb h0 h1
    by_cases z : b = 0
    · subst z
      exact dn a i s
    · rw [one a b i s z h0 (by omega)]
      have hr : a % b < b := Nat.mod_lt _ (by omega)
      by_cases z2 : a % b = 0
      · have : Nat.gcd a b = Nat.gcd b 0 := by rw [← gcd_stp a b, z2]
        rw [z2, this]
        exact dn b (i + 1) s
      · rw [one b (a % b) (i + 1) s z2 (by omega) (by omega)]
        have hq : b % (a % b) < a % b := Nat.mod_lt _ (by omega)
        have hd := Nat.div_add_mod b (a % b)
        have hq1 : 1 ≤ b / (a % b) := (Nat.one_le_div_iff (by omega)).mpr (by omega)
        have hm : a % b ≤ (a % b) * (b / (a % b)) := Nat.le_mul_of_pos_right _ hq1
        have hp : 2 ^ (k + 1) = 2 * 2 ^ k := by rw [Nat.pow_succ]; omega
        rw [ih (a % b) (b % (a % b)) (i + 1 + 1) s (by omega) (by omega) (by omega), gcd_stp, gcd_stp]
theorem l_cd9 : ∀ (b a : Nat) (n m f : Int) (s : SG), sem 170 17 [aL n, aU, aL m, aU, aI f, aL (a : Int), aU, aL (b : Int), aU, aU, aU] [] s = if Nat.gcd a b = 0 then none else some (aL (w64 (Int.tdiv (if f = 0 then m else n) ((Nat.gcd a b : Nat) : Int))), s) := by
  intro b
  induction b using Nat.strongRecOn with
  | ind b ih =>
    intro a n m f s
    rw [e170_17]
    by_cases z : b = 0
    · subst z
      rw [if_pos (by rw [cmpL_eq0]; rfl), Nat.gcd_zero_right]
      by_cases y : a = 0
      · subst y
        rw [if_pos rfl]
        split <;> rfl
      · rw [if_neg y]
        by_cases x : f = 0
        · rw [if_pos x, if_pos x, g_t (by omega)]
        · rw [if_neg x, if_neg x, g_t (by omega)]
    · rw [if_neg (by rw [cmpL_eq0]; omega), g_t (by omega), rem_nat, ih (a % b) (Nat.mod_lt _ (by omega)), gcd_stp]
def frac (n m f : Int) : Int := w64 (Int.tdiv (if f = 0 then m else n) ((Nat.gcd n.natAbs m.natAbs : Nat) : Int))
theorem abs_nat {n : Int} (h : -4611686018427387904 ≤ n ∧ n ≤ 4611686018427387904) : (if n < 0 then w64 (-n) else n) = ((n.natAbs : Nat) : Int) := by
  split
  · rw [w64_id (by omega) (by omega)]; omega
  · omega
theorem c_fraction {n m : Int} (hn : -4611686018427387904 ≤ n ∧ n ≤ 4611686018427387904) (hm : 0 < m ∧ m < 1125899906842624) (f : Int) (s : SG) : sem 149 0 [aL n, aU, aL m, aU, aI f, aU, aU] [] s = some (aL (frac n m f), s) := by
  have hg : Nat.gcd n.natAbs m.natAbs ≠ 0 := fun z => by
    have := Nat.eq_zero_of_gcd_eq_zero_right z
    omega
  have e : sem 150 0 [aL n, aU, aL m, aU, aU, aU, aU, aU, aU, aU, aU] [] s = some (aL ((Nat.gcd n.natAbs m.natAbs : Nat) : Int), s) := by
    rw [e150_0, abs_nat hn, abs_nat (n := m) (by omega), l_cd 50 _ _ 0 s (by omega) (by decide) (by decide)]
  rw [e149_0, e, bnL_some, if_neg (by rw [cmpL_eq0]; omega), g_t (by omega)]
  rfl
theorem c_part {n m : Int} (hn : -4611686018427387904 ≤ n ∧ n ≤ 4611686018427387904) (hm : 0 < m ∧ m < 1125899906842624) (f : Int) (s : SG) : sem 170 0 [aL n, aU, aL m, aU, aI f, aU, aU, aU, aU, aU, aU] [] s = some (aL (frac n m f), s) := by
  have hg : Nat.gcd n.natAbs m.natAbs ≠ 0 := fun z => by
    have := Nat.eq_zero_of_gcd_eq_zero_right z
    omega
  have em : ((m.natAbs : Nat) : Int) = m := by omega
  have e := l_cd9 m.natAbs n.natAbs n m f s
  rw [em, if_neg hg] at e
  rw [e170_0]
  simp only [cmpL_lt0]
  rw [abs_nat hn, e]
  rfl

/-! earned -/
def sS (T : Int → Int) (f : Int → Int) : Nat → Int
  | 0 => 0
  | c + 1 => sS T f c + soldS T c (f c)
def ern (T : Int → Int) (p : Int) (S : Int) : Int := S * T 5 + (p * allS T - S) * T 6 - p * allS T * T 4
theorem sS_rng {T : Int → Int} (hT : TRng T) {f : Int → Int} {n : Nat} (hn : n ≤ 3) (hf : ∀ x : Int, 0 ≤ x → x < n → 0 ≤ f x ∧ f x ≤ 60) : ∀ c : Nat, c ≤ n → 0 ≤ sS T f c ∧ sS T f c ≤ 11340000000 * c := by
  intro c
  induction c with
  | zero => intro _; exact ⟨Int.le_refl 0, show (0 : Int) ≤ 11340000000 * ((0 : Nat) : Int) from by decide⟩
  | succ c ih =>
    intro hc
    have i := ih (by omega)
    have r := hf c (by omega) (by omega)
    have s := soldS_r60 hT (c := (c : Int)) (by omega) r.1 r.2
    have e : sS T f (c + 1) = sS T f c + soldS T c (f c) := rfl
    rw [e]
    omega
theorem ern_w {T : Int → Int} (hT : TRng T) {p S : Int} (hp : 0 ≤ p ∧ p ≤ 60) (hS : 0 ≤ S ∧ S ≤ 34020000000) : w64 (w64 (w64 (S * T 5) + w64 (w64 (w64 (p * allS T) - S) * T 6)) - w64 (w64 (p * allS T) * T 4)) = ern T p S ∧ -100000000000000 ≤ ern T p S ∧ ern T p S ≤ 100000000000000 := by
  have t4 := hT.2.2.1 4 (by decide) (by decide)
  have t5 := hT.2.2.1 5 (by decide) (by decide)
  have t6 := hT.2.2.1 6 (by decide) (by decide)
  have ra := allS_rng hT
  have m1 := mul_rng hp (b := allS T) (B := 27000000) (by omega)
  have m2 := mul_rng hS t5
  have m3 := mul_rng m1 t4
  have m4 := mul_rng m1 t6
  have m5 := mul_rng hS t6
  have e6 : (p * allS T - S) * T 6 = p * allS T * T 6 - S * T 6 := Int.sub_mul _ _ _
  have w1 : w64 (p * allS T) = p * allS T := w64_id (by omega) (by omega)
  have w2 : w64 (S * T 5) = S * T 5 := w64_id (by omega) (by omega)
  have w3 : w64 (p * allS T - S) = p * allS T - S := w64_id (by omega) (by omega)
  have w4 : w64 ((p * allS T - S) * T 6) = (p * allS T - S) * T 6 := by rw [e6]; exact w64_id (by omega) (by omega)
  have w5 : w64 (p * allS T * T 4) = p * allS T * T 4 := w64_id (by omega) (by omega)
  unfold ern
  rw [w1, w2, w3, w4, w5, e6, w64_id (a := S * T 5 + (p * allS T * T 6 - S * T 6)) (by omega) (by omega), w64_id (by omega) (by omega)]
  exact ⟨rfl, by omega, by omega⟩

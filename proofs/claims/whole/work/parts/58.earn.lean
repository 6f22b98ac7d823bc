/-! earned -/
def sS (T : Int → Int) (f : Int → Int) : Nat → Int
  | 0 => 0
  | c + 1 => sS T f c + soldS T c (f c)
def ern (T : Int → Int) (p : Int) (S : Int) : Int := S * T 5 + (p * allS T - S) * T 6 - p * allS T * T 4
theorem sS_rng {T : Int → Int} (hT : TRng T) {f : Int → Int} {n : Nat} (hn : n ≤ 3) (hf : ∀ x : Int, 0 ≤ x → x < n → 0 ≤ f x ∧ f x ≤ 60) : ∀ c : Nat, c ≤ n → 0 ≤ sS T f c ∧ sS T f c ≤ 11340000000 * c := by
  intro c
  induction c with
  | zero => intro _; exact ⟨Int.le_refl 0, show (0 : Int) ≤ 11340000000 * ((0 : Nat) : Int) from by decide⟩
  | succ c ih =>
    intro hc
    have i := ih (by omega)
    have r := hf c (by omega) (by omega)
    have s := soldS_r60 hT (c := (c : Int)) (by omega) r.1 r.2
    have e : sS T f (c + 1) = sS T f c + soldS T c (f c) := rfl
    rw [e]
    omega

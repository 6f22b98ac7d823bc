/-! given: who gets the next paper -/
/-- among the first c corners, but not one: the one at which the next paper is likeliest sold -/
def pk (T : Int → Int) (but : Int) (f : Int → Int) : Nat → Int
  | 0 => -9
  | c + 1 => if (c : Int) = but then pk T but f c else if pk T but f c = -9 then (c : Int) else if outS T (pk T but f c) (f (pk T but f c)) < outS T c (f c) then (c : Int) else pk T but f c
theorem pk_rng (T : Int → Int) (but : Int) (f : Int → Int) : ∀ n : Nat, pk T but f n = -9 ∨ (0 ≤ pk T but f n ∧ pk T but f n < n ∧ pk T but f n ≠ but) := by
  intro n
  induction n with
  | zero => exact Or.inl rfl
  | succ n ih =>
    show (if (n : Int) = but then pk T but f n else if pk T but f n = -9 then (n : Int) else if outS T (pk T but f n) (f (pk T but f n)) < outS T n (f n) then (n : Int) else pk T but f n) = -9 ∨ _
    have e : pk T but f (n + 1) = (if (n : Int) = but then pk T but f n else if pk T but f n = -9 then (n : Int) else if outS T (pk T but f n) (f (pk T but f n)) < outS T n (f n) then (n : Int) else pk T but f n) := rfl
    rw [e]
    repeat' split
    all_goals omega

/-! given: who gets the next paper -/
/-- among the first c corners, but not one: the one at which the next paper is likeliest sold -/
def pk (T : Int → Int) (but : Int) (f : Int → Int) : Nat → Int
  | 0 => -9
  | c + 1 => if (c : Int) = but then pk T but f c else if pk T but f c = -9 then (c : Int) else if outS T (pk T but f c) (f (pk T but f c)) < outS T c (f c) then (c : Int) else pk T but f c
theorem pk_rng (T : Int → Int) (but : Int) (f : Int → Int) : ∀ n : Nat, pk T but f n = -9 ∨ (0 ≤ pk T but f n ∧ pk T but f n < n ∧ pk T but f n ≠ but) := by
  intro n
  induction n with
  | zero => exact Or.inl rfl
  | succ n ih =>
    show (if (n : Int) = but then pk T but f n else if pk T but f n = -9 then (n : Int) else if outS T (pk T but f n) (f (pk T but f n)) < outS T n (f n) then (n : Int) else pk T but f n) = -9 ∨ _
    have e : pk T but f (n + 1) = (if (n : Int) = but then pk T but f n else if pk T but f n = -9 then (n : Int) else if outS T (pk T but f n) (f (pk T but f n)) < outS T n (f n) then (n : Int) else pk T but f n) := rfl
    rw [e]
    repeat' split
    all_goals omega
theorem Inv.t4 {s : SG} (h : Inv s) : s (s 0 9) 4 = s 58 0 := h.2.1.2.1 0 (by decide) (by decide)
/-- the class's choice -/
theorem l_pkC {s : SG} (h : Inv s) {n : Nat} (hn : s 58 0 = n) (but : Int) (h9 : ∀ x : Int, 0 ≤ x → x < n → 0 ≤ s 9 x ∧ s 9 x ≤ 60) : ∀ m c : Nat, c + m = n → sem 15 6 [aA 5, aA (s 0 9), aI but, aI (pk (s 58) but (s 9) c), aI (c : Int)] [] s = some (aU, if pk (s 58) but (s 9) n = -9 then s else up s 9 (pk (s 58) but (s 9) n) (s 9 (pk (s 58) but (s 9) n) + 1)) := by
  have n3 := h.tg.1
  have e4 := h.t4
  intro m
  induction m with
  | zero =>
    intro c hc
    have : c = n := by omega
    subst this
    have r := pk_rng (s 58) but (s 9) c
    rw [g15_6 h.th h.1, e4, hn, if_neg (by omega), c_isRow]
    by_cases z : pk (s 58) but (s 9) c = -9
    · rw [if_neg (show ¬ (0 ≤ pk (s 58) but (s 9) c ∧ pk (s 58) but (s 9) c < 3) by omega), bnI_some, if_pos rfl, if_pos z]
    · have r9 := h9 (pk (s 58) but (s 9) c) (by omega) (by omega)
      rw [if_pos (show 0 ≤ pk (s 58) but (s 9) c ∧ pk (s 58) but (s 9) c < 3 by omega), bnI_some, if_neg (by decide), if_neg z, g_t (by omega), w32_id (by omega) (by omega)]
  | succ m ih =>
    intro c hc
    have r := pk_rng (s 58) but (s 9) c
    have w : w32 ((c : Int) + 1) = ((c + 1 : Nat) : Int) := by rw [w32_id (by omega) (by omega)]; omega
    have e : pk (s 58) but (s 9) (c + 1) = (if (c : Int) = but then pk (s 58) but (s 9) c else if pk (s 58) but (s 9) c = -9 then (c : Int) else if outS (s 58) (pk (s 58) but (s 9) c) (s 9 (pk (s 58) but (s 9) c)) < outS (s 58) c (s 9 c) then (c : Int) else pk (s 58) but (s 9) c) := rfl
    have i := ih (c + 1) (by omega)
    rw [e] at i
    rw [g15_6 h.th h.1, e4, hn, if_pos (by omega), if_pos (by omega), w]
    by_cases q1 : (c : Int) = but
    · rw [if_pos q1] at i
      rw [if_pos q1]
      exact i
    · rw [if_neg q1] at i
      rw [if_neg q1, c_isRow]
      by_cases q2 : pk (s 58) but (s 9) c = -9
      · rw [if_pos q2] at i
        rw [if_neg (show ¬ (0 ≤ pk (s 58) but (s 9) c ∧ pk (s 58) but (s 9) c < 3) by omega), bnI_some, if_pos rfl]
        exact i
      · rw [if_neg q2] at i
        have ra := h9 (c : Int) (by omega) (by omega)
        have rb := h9 (pk (s 58) but (s 9) c) (by omega) (by omega)
        rw [if_pos (show 0 ≤ pk (s 58) but (s 9) c ∧ pk (s 58) but (s 9) c < 3 by omega), bnI_some, if_neg (by decide), g_t (by omega), c_outOf h (by omega) ra, bnL_some, g_t (by omega), c_outOf h (by omega) rb, bnL_some]
        by_cases q3 : outS (s 58) (pk (s 58) but (s 9) c) (s 9 (pk (s 58) but (s 9) c)) < outS (s 58) c (s 9 c)
        · rw [if_pos q3] at i
          rw [if_pos (cmpL_gt0.mpr q3)]
          exact i
        · rw [if_neg q3] at i
          rw [if_neg (fun z => q3 (cmpL_gt0.mp z))]
          exact i

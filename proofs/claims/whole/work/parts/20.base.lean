/-! small rows for the equations -/
theorem grd_if {α : Type} {p : Prop} [Decidable p] {x : Option α} : grd p x = if p then x else none := rfl
theorem bnI_some {α : Type} {a : Int} {s : SG} {k : Int → SG → Option α} : bnI (some (aI a, s)) k = k a s := rfl
theorem bnL_some {α : Type} {a : Int} {s : SG} {k : Int → SG → Option α} : bnL (some (aL a, s)) k = k a s := rfl
theorem bnV_some {α : Type} {s : SG} {k : SG → Option α} : bnV (some (aU, s)) k = k s := rfl
theorem up_app (s : SG) (k i v k' i' : Int) : up s k i v k' i' = if k' = k ∧ i' = i then v else s k' i' := rfl
theorem w32_id {a : Int} (h0 : -2147483648 ≤ a) (h1 : a < 2147483648) : w32 a = a := by
  unfold w32
  apply Int.bmod_eq_of_le
  · omega
  · omega
theorem w64_id {a : Int} (h0 : -9223372036854775808 ≤ a) (h1 : a < 9223372036854775808) : w64 a = a := by
  unfold w64
  apply Int.bmod_eq_of_le
  · omega
  · omega
theorem cmpL_lt0 {a b : Int} : cmpL a b < 0 ↔ a < b := by unfold cmpL; split <;> (try split) <;> omega
theorem cmpL_gt0 {a b : Int} : 0 < cmpL a b ↔ b < a := by unfold cmpL; split <;> (try split) <;> omega
theorem cmpL_eq0 {a b : Int} : cmpL a b = 0 ↔ a = b := by unfold cmpL; split <;> (try split) <;> omega
theorem cmpL_le0 {a b : Int} : cmpL a b ≤ 0 ↔ a ≤ b := by unfold cmpL; split <;> (try split) <;> omega
theorem cmpL_ge0 {a b : Int} : 0 ≤ cmpL a b ↔ b ≤ a := by unfold cmpL; split <;> (try split) <;> omega
theorem b01 {p : Prop} [Decidable p] : ((if p then (1 : Int) else 0) = 0) ↔ ¬ p := by split <;> simp [*]
theorem b10 {p : Prop} [Decidable p] : ((if p then (0 : Int) else 1) = 0) ↔ p := by split <;> simp [*]
theorem kds : kd 0 = 8 ∧ kd 1 = 5 ∧ kd 2 = 101 ∧ kd 3 = 2 ∧ kd 4 = 102 ∧ kd 5 = 0 ∧ kd 6 = 103 ∧ kd 7 = 103 ∧ kd 8 = 103 ∧ kd 9 = 101 ∧ kd 10 = 4 ∧ kd 11 = 101 ∧ kd 12 = 101 ∧ kd 13 = 7 ∧ kd 14 = 103 ∧ kd 15 = 103 ∧ kd 16 = 1 ∧ kd 17 = 101 ∧ kd 18 = 101 ∧ kd 19 = 101 ∧ kd 20 = 101 ∧ kd 21 = 101 ∧ kd 22 = 101 ∧ kd 23 = 3 ∧ kd 24 = 101 ∧ kd 25 = 101 ∧ kd 26 = 101 ∧ kd 27 = 101 ∧ kd 28 = 101 ∧ kd 29 = 101 ∧ kd 30 = 104 ∧ kd 31 = 102 ∧ kd 32 = 6 ∧ kd 33 = 101 ∧ kd 34 = 101 ∧ kd 35 = 101 ∧ kd 36 = 101 ∧ kd 37 = 6 ∧ kd 38 = 101 ∧ kd 39 = 101 ∧ kd 40 = 101 ∧ kd 41 = 101 ∧ kd 42 = 1 ∧ kd 43 = 101 ∧ kd 44 = 101 ∧ kd 45 = 101 ∧ kd 46 = 101 ∧ kd 47 = 101 ∧ kd 48 = 101 ∧ kd 49 = 1 ∧ kd 50 = 101 ∧ kd 51 = 101 ∧ kd 52 = 101 ∧ kd 53 = 101 ∧ kd 54 = 101 ∧ kd 55 = 101 ∧ kd 56 = 9 ∧ kd 57 = 101 ∧ kd 58 = 101 ∧ kd 59 = 102 ∧ kd 60 = 101 ∧ kd 61 = 101 ∧ kd 62 = 101 ∧ kd 63 = 101 ∧ kd 64 = 103 ∧ kd 65 = 103 ∧ kd 66 = 101 ∧ kd 67 = 101 ∧ kd 68 = 101 ∧ kd 69 = 101 ∧ kd 70 = 101 ∧ kd 71 = 101 ∧ kd 72 = 101 ∧ kd 73 = 101 ∧ kd 74 = 101 ∧ kd 75 = 101 ∧ kd 76 = 101 ∧ kd 77 = 101 ∧ kd 78 = 101 ∧ kd 79 = 102 ∧ kd 80 = 101 ∧ kd 81 = 101 ∧ kd 82 = 101 ∧ kd 83 = 101 ∧ kd 84 = 101 := ⟨rfl, rfl, rfl, rfl, rfl, rfl, rfl, rfl, rfl, rfl, rfl, rfl, rfl, rfl, rfl, rfl, rfl, rfl, rfl, rfl, rfl, rfl, rfl, rfl, rfl, rfl, rfl, rfl, rfl, rfl, rfl, rfl, rfl, rfl, rfl, rfl, rfl, rfl, rfl, rfl, rfl, rfl, rfl, rfl, rfl, rfl, rfl, rfl, rfl, rfl, rfl, rfl, rfl, rfl, rfl, rfl, rfl, rfl, rfl, rfl, rfl, rfl, rfl, rfl, rfl, rfl, rfl, rfl, rfl, rfl, rfl, rfl, rfl, rfl, rfl, rfl, rfl, rfl, rfl, rfl, rfl, rfl, rfl, rfl, rfl⟩
theorem kls : kl 0 = 11 ∧ kl 1 = 2 ∧ kl 2 = 64 ∧ kl 3 = 3 ∧ kl 4 = 18 ∧ kl 5 = 5 ∧ kl 6 = 183 ∧ kl 7 = 183 ∧ kl 8 = 7 ∧ kl 9 = 3 ∧ kl 10 = 3 ∧ kl 11 = 8 ∧ kl 12 = 8 ∧ kl 13 = 7 ∧ kl 14 = 2197 ∧ kl 15 = 2197 ∧ kl 16 = 11 ∧ kl 17 = 3 ∧ kl 18 = 3 ∧ kl 19 = 3 ∧ kl 20 = 6 ∧ kl 21 = 6 ∧ kl 22 = 6 ∧ kl 23 = 13 ∧ kl 24 = 18 ∧ kl 25 = 18 ∧ kl 26 = 18 ∧ kl 27 = 18 ∧ kl 28 = 3 ∧ kl 29 = 3 ∧ kl 30 = 2 ∧ kl 31 = 2 ∧ kl 32 = 8 ∧ kl 33 = 3 ∧ kl 34 = 9 ∧ kl 35 = 9 ∧ kl 36 = 3 ∧ kl 37 = 8 ∧ kl 38 = 3 ∧ kl 39 = 9 ∧ kl 40 = 9 ∧ kl 41 = 3 ∧ kl 42 = 11 ∧ kl 43 = 3 ∧ kl 44 = 3 ∧ kl 45 = 3 ∧ kl 46 = 6 ∧ kl 47 = 6 ∧ kl 48 = 6 ∧ kl 49 = 11 ∧ kl 50 = 3 ∧ kl 51 = 3 ∧ kl 52 = 3 ∧ kl 53 = 6 ∧ kl 54 = 6 ∧ kl 55 = 6 ∧ kl 56 = 45 ∧ kl 57 = 28 ∧ kl 58 = 28 ∧ kl 59 = 28 ∧ kl 60 = 64 ∧ kl 61 = 3 ∧ kl 62 = 8 ∧ kl 63 = 8 ∧ kl 64 = 2197 ∧ kl 65 = 2197 ∧ kl 66 = 3 ∧ kl 67 = 3 ∧ kl 68 = 3 ∧ kl 69 = 6 ∧ kl 70 = 6 ∧ kl 71 = 6 ∧ kl 72 = 18 ∧ kl 73 = 18 ∧ kl 74 = 18 ∧ kl 75 = 18 ∧ kl 76 = 3 ∧ kl 77 = 3 ∧ kl 78 = 3 ∧ kl 79 = 2 ∧ kl 80 = 6 ∧ kl 81 = 6 ∧ kl 82 = 6 ∧ kl 83 = 10 ∧ kl 84 = 36 := ⟨rfl, rfl, rfl, rfl, rfl, rfl, rfl, rfl, rfl, rfl, rfl, rfl, rfl, rfl, rfl, rfl, rfl, rfl, rfl, rfl, rfl, rfl, rfl, rfl, rfl, rfl, rfl, rfl, rfl, rfl, rfl, rfl, rfl, rfl, rfl, rfl, rfl, rfl, rfl, rfl, rfl, rfl, rfl, rfl, rfl, rfl, rfl, rfl, rfl, rfl, rfl, rfl, rfl, rfl, rfl, rfl, rfl, rfl, rfl, rfl, rfl, rfl, rfl, rfl, rfl, rfl, rfl, rfl, rfl, rfl, rfl, rfl, rfl, rfl, rfl, rfl, rfl, rfl, rfl, rfl, rfl, rfl, rfl, rfl, rfl⟩

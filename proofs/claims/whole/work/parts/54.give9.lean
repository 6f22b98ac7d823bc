/-! given: the reference's choice -/
def bv (T : Int → Int) (but : Int) (f : Int → Int) (c : Nat) : Int := if pk T but f c = -9 then -1 else outS T (pk T but f c) (f (pk T but f c))
theorem l_pk9 {s : SG} (hR : RefC s) (hT : TRng (s 58)) {n : Nat} (hn : s 58 0 = n) {p but j : Int} (h61 : ∀ x : Int, 0 ≤ x → x < n → 0 ≤ s 61 x ∧ s 61 x ≤ 60) : ∀ m c : Nat, c + m = n → sem 173 39 [aA 56, aI p, aI but, aI j, aI (pk (s 58) but (s 61) c), aL (bv (s 58) but (s 61) c), aU, aI (c : Int), aU, aU] [] s = sem 173 22 [aA 56, aI p, aI but, aI (w32 (j + 1)), aU, aU, aU, aU, aU, aU] [] (if pk (s 58) but (s 61) n = -9 then s else up s 61 (pk (s 58) but (s 61) n) (s 61 (pk (s 58) but (s 61) n) + 1)) := by
  have n3 := hT.1
  intro m
  induction m with
  | zero =>
    intro c hc
    have : c = n := by omega
    subst this
    have r := pk_rng (s 58) but (s 61) c
    rw [g173_39 hR, hn, if_neg (by omega)]
    by_cases z : pk (s 58) but (s 61) c = -9
    · rw [if_pos z, if_pos z]
    · have r9 := h61 (pk (s 58) but (s 61) c) (by omega) (by omega)
      rw [if_neg z, if_neg z, g_t (by omega), w32_id (a := s 61 (pk (s 58) but (s 61) c) + 1) (by omega) (by omega)]
  | succ m ih =>
    intro c hc
    have r := pk_rng (s 58) but (s 61) c
    have w : w32 ((c : Int) + 1) = ((c + 1 : Nat) : Int) := by rw [w32_id (by omega) (by omega)]; omega
    have e : pk (s 58) but (s 61) (c + 1) = (if (c : Int) = but then pk (s 58) but (s 61) c else if pk (s 58) but (s 61) c = -9 then (c : Int) else if outS (s 58) (pk (s 58) but (s 61) c) (s 61 (pk (s 58) but (s 61) c)) < outS (s 58) c (s 61 c) then (c : Int) else pk (s 58) but (s 61) c) := rfl
    have bp : -1 ≤ bv (s 58) but (s 61) c := by
      unfold bv
      split
      · omega
      · have := outS_rng hT (c := pk (s 58) but (s 61) c) (g := s 61 (pk (s 58) but (s 61) c)) (by omega)
        omega
    have i := ih (c + 1) (by omega)
    rw [g173_39 hR, hn, if_pos (by omega)]
    by_cases q1 : (c : Int) = but
    · have e2 : pk (s 58) but (s 61) (c + 1) = pk (s 58) but (s 61) c := by rw [e, if_pos q1]
      have e3 : bv (s 58) but (s 61) (c + 1) = bv (s 58) but (s 61) c := by unfold bv; rw [e2]
      have nc : ¬ (0 < cmpL (-1) (bv (s 58) but (s 61) c)) := fun z => by have := cmpL_gt0.mp z; omega
      rw [if_pos q1, g173_76 hR, if_neg nc, if_neg nc, w]
      rw [e2, e3] at i
      exact i
    · have ra := h61 (c : Int) (by omega) (by omega)
      have ro := outS_rng hT (c := (c : Int)) (g := s 61 c) (by omega)
      rw [if_neg q1, g_t (by omega), c_meanP hR hT (by omega) ra, bnL_some, mean_1, g173_76 hR, w]
      have e2 : pk (s 58) but (s 61) (c + 1) = if 0 < cmpL (outS (s 58) c (s 61 c)) (bv (s 58) but (s 61) c) then (c : Int) else pk (s 58) but (s 61) c := by
        rw [e, if_neg q1]
        unfold bv
        by_cases q2 : pk (s 58) but (s 61) c = -9
        · rw [if_pos q2, if_pos q2, if_pos (cmpL_gt0.mpr (by omega))]
        · rw [if_neg q2, if_neg q2]
          by_cases q3 : outS (s 58) (pk (s 58) but (s 61) c) (s 61 (pk (s 58) but (s 61) c)) < outS (s 58) c (s 61 c)
          · rw [if_pos q3, if_pos (cmpL_gt0.mpr q3)]
          · rw [if_neg q3, if_neg (fun z => q3 (cmpL_gt0.mp z))]
      have e3 : bv (s 58) but (s 61) (c + 1) = if 0 < cmpL (outS (s 58) c (s 61 c)) (bv (s 58) but (s 61) c) then outS (s 58) c (s 61 c) else bv (s 58) but (s 61) c := by
        by_cases z : 0 < cmpL (outS (s 58) c (s 61 c)) (bv (s 58) but (s 61) c)
        · rw [if_pos z] at e2 ⊢
          show (if pk (s 58) but (s 61) (c + 1) = -9 then -1 else outS (s 58) (pk (s 58) but (s 61) (c + 1)) (s 61 (pk (s 58) but (s 61) (c + 1)))) = _
          rw [e2, if_neg (by omega)]
        · rw [if_neg z] at e2 ⊢
          unfold bv
          rw [e2]
      rw [← e2, ← e3]
      exact i

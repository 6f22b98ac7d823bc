/-! write: the bytes -/
theorem byt_bv (b : BitVec 64) (n : Nat) (hn : n ≤ 56) : ((b >>> n).signExtend 32) &&& 255#32 = ((b.sshiftRight n) &&& 255#64).signExtend 32 := by
  have t1 : ∀ i, i < 32 → (255#32).getLsbD i = decide (i < 8) := by decide
  have t2 : ∀ i, i < 32 → (255#64).getLsbD i = decide (i < 8) := by decide
  apply BitVec.eq_of_getLsbD_eq
  intro i hi
  have h64 : i < 64 := by omega
  simp only [BitVec.getLsbD_and, BitVec.getLsbD_signExtend, BitVec.getLsbD_ushiftRight, BitVec.getLsbD_sshiftRight, t1 i hi, t2 i hi, hi, h64, decide_true, Bool.true_and, if_true]
  by_cases h8 : i < 8
  · have h5 : n + i < 64 := by omega
    have h6 : ¬ 64 ≤ i := by omega
    simp [h8, h5, h6]
  · simp [h8]
theorem byt_64 (x : Int64) (c : Nat) (hc : c ≤ 56) (u : UInt64) (w : Int64) (hu : (x.toUInt64 >>> u).toBitVec = x.toBitVec >>> c) (hw : (x >>> w).toBitVec = x.toBitVec.sshiftRight c) : (x.toUInt64 >>> u).toInt64.toInt32 &&& 255 = (x >>> w &&& 255).toInt32 := by
  apply Int32.toBitVec.inj
  rw [Int32.toBitVec_and, Int64.toBitVec_toInt32, Int64.toBitVec_toInt32, UInt64.toBitVec_toInt64, Int64.toBitVec_and, hu, hw]
  exact byt_bv x.toBitVec c hc
theorem ofInt_w32 (a : Int) : Int32.ofInt (w32 a) = Int32.ofInt a := by
  apply Int32.toInt.inj
  rw [Int32.toInt_ofInt, Int32.toInt_ofInt]
  exact Int.bmod_bmod
theorem ofInt_64 (u : Int64) : Int32.ofInt u.toInt = u.toInt32 := by
  apply Int32.toInt.inj
  rw [Int32.toInt_ofInt, Int64.toInt_toInt32]
theorem byt_eq (v k : Int) (h0 : 0 ≤ k) (h1 : k < 8) : iandA (w32 (lushrA v (w32 (8 * k)))) 255 = w32 (landA (lshrA v (w32 (8 * k))) 255) := by
  have key : ∀ (c : Nat) (u : UInt64) (w : Int64), c ≤ 56 → ((Int32.ofInt (w32 (8 * k))).toInt64.toUInt64 &&& Int64.toUInt64 63) = u → ((Int32.ofInt (w32 (8 * k))).toInt64 &&& 63) = w → (∀ x : Int64, (x.toUInt64 >>> u).toBitVec = x.toBitVec >>> c) → (∀ x : Int64, (x >>> w).toBitVec = x.toBitVec.sshiftRight c) → iandA (w32 (lushrA v (w32 (8 * k)))) 255 = w32 (landA (lshrA v (w32 (8 * k))) 255) := by
    intro c u w hc hu hw gu gw
    unfold iandA lushrA landA lshrA
    rw [hu, hw, ofInt_w32, ofInt_64, Int64.ofInt_toInt]
    have e := byt_64 (Int64.ofInt v) c hc u w (gu _) (gw _)
    show ((((Int64.ofInt v).toUInt64 >>> u).toInt64.toInt32 &&& 255)).toInt = _
    rw [e, Int64.toInt_toInt32]
    rfl
  have hk : k = 0 ∨ k = 1 ∨ k = 2 ∨ k = 3 ∨ k = 4 ∨ k = 5 ∨ k = 6 ∨ k = 7 := by omega
  rcases hk with rfl | rfl | rfl | rfl | rfl | rfl | rfl | rfl
  · exact key 0 0 0 (by decide) (by decide +kernel) (by decide +kernel) (fun x => rfl) (fun x => rfl)
  · exact key 8 8 8 (by decide) (by decide +kernel) (by decide +kernel) (fun x => rfl) (fun x => rfl)
  · exact key 16 16 16 (by decide) (by decide +kernel) (by decide +kernel) (fun x => rfl) (fun x => rfl)
  · exact key 24 24 24 (by decide) (by decide +kernel) (by decide +kernel) (fun x => rfl) (fun x => rfl)
  · exact key 32 32 32 (by decide) (by decide +kernel) (by decide +kernel) (fun x => rfl) (fun x => rfl)
  · exact key 40 40 40 (by decide) (by decide +kernel) (by decide +kernel) (fun x => rfl) (fun x => rfl)
  · exact key 48 48 48 (by decide) (by decide +kernel) (by decide +kernel) (fun x => rfl) (fun x => rfl)
  · exact key 56 56 56 (by decide) (by decide +kernel) (by decide +kernel) (fun x => rfl) (fun x => rfl)
theorem byt_rng (a : Int) : 0 ≤ iandA a 255 ∧ iandA a 255 ≤ 255 := by
  unfold iandA
  have e : (Int32.ofInt a &&& Int32.ofInt 255).toInt = ((Int32.ofInt a).toBitVec &&& 255#32).toInt := rfl
  rw [e]
  have h1 : ((Int32.ofInt a).toBitVec &&& 255#32).toNat ≤ 255 := by
    rw [BitVec.toNat_and]
    exact Nat.and_le_right
  rw [BitVec.toInt_eq_toNat_of_lt (by omega)]
  omega
/-- n bytes put behind the text of the cells kt (bytes), kc, ki (how many) -/
def putB (kt kc ki : Int) (v : Int) : Nat → SG → SG
  | 0, s => s
  | n + 1, s => putB kt kc ki v n (up (up s kt (s kc ki) (iandA (w32 (lushrA v (w32 (8 * (n : Int))))) 255)) kc ki (s kc ki + 1))
theorem putB_at {kt kc ki v : Int} (hne : kt ≠ kc) : ∀ (n : Nat) (s : SG), putB kt kc ki v n s kc ki = s kc ki + n ∧ (∀ k i, k ≠ kt → (k ≠ kc ∨ i ≠ ki) → putB kt kc ki v n s k i = s k i) ∧ ∀ i, putB kt kc ki v n s kt i = if s kc ki ≤ i ∧ i < s kc ki + n then iandA (w32 (lushrA v (w32 (8 * (s kc ki + n - 1 - i))))) 255 else s kt i := by
  intro n
  induction n with
  | zero => exact fun s => ⟨by simp [putB], fun _ _ _ _ => rfl, fun i => by rw [if_neg (by omega)]; rfl⟩
  | succ n ih =>
    intro s
    obtain ⟨h1, h2, h3⟩ := ih (up (up s kt (s kc ki) (iandA (w32 (lushrA v (w32 (8 * (n : Int))))) 255)) kc ki (s kc ki + 1))
    rw [up_at] at h1 h3
    refine ⟨?_, ?_, ?_⟩
    · show putB kt kc ki v n _ kc ki = _
      rw [h1]; omega
    · intro k i hk hki
      show putB kt kc ki v n _ k i = _
      rw [h2 k i hk hki]
      unfold up
      rw [if_neg (by omega), if_neg (by omega)]
    · intro i
      show putB kt kc ki v n _ kt i = _
      rw [h3 i, up_ne hne]
      by_cases e : i = s kc ki
      · subst e
        rw [if_neg (by omega), up_at, if_pos (by omega)]
        congr 4
        omega
      · rw [up_ni e]
        by_cases e2 : s kc ki + 1 ≤ i ∧ i < s kc ki + 1 + n
        · rw [if_pos e2, if_pos (by omega)]
          congr 5
          omega
        · rw [if_neg e2, if_neg (by omega)]
theorem c_put (v : Int) : ∀ (n : Nat) (s : SG), n ≤ 8 → RefC s → 0 ≤ s 1 1 → s 1 1 + n ≤ 64 → sem 77 5 [aA 1, aU, aL v, aU, aI ((n : Int) - 1)] [] s = some (aU, putB 2 1 1 v n s) := by
  intro n
  induction n with
  | zero =>
    intro s hn hR h0 h1
    rw [g77_5 hR]
    simp (disch := omega) only [grd_if, bnI_some, bnL_some, bnV_some, up_app, kds, kls, and_true, true_and, and_self, and_false, false_and, or_true, true_or, or_false, false_or, not_true_eq_false, not_false_eq_true, ite_true, ite_false, if_true, if_false, ↓reduceIte, Int.reduceLT, Int.reduceLE, Int.reduceEq, Int.reduceNe, Int.reduceAdd, Int.reduceSub, Int.reduceMul, Int.reduceNeg, ne_eq, Int.le_refl, Int.lt_irrefl, cmpL_lt0, cmpL_gt0, cmpL_eq0, cmpL_le0, cmpL_ge0]
    rfl
  | succ n ih =>
    intro s hn hR h0 h1
    rw [g77_5 hR]
    have q1 : ¬ ((n + 1 : Nat) : Int) - 1 < 0 := by omega
    have q2 : ((n + 1 : Nat) : Int) - 1 = (n : Int) := by omega
    have q3 : s 1 1 < 64 := by omega
    rw [q2, if_neg (by omega), if_pos q3, grd_if, if_pos ⟨h0, q3⟩, w32_id (a := s 1 1 + 1) (by omega) (by omega), w32_id (a := (n : Int) + -1) (by omega) (by omega)]
    refine (ih _ (by omega) (RefC.upd (RefC.upd hR (rcb_a (by decide))) (rcb_f (c := 5) (j := 1) rfl (by decide) (by decide))) ?_ ?_)
    · rw [up_at]; omega
    · rw [up_at]; omega
theorem c_put9 (v : Int) : ∀ (n : Nat) (s : SG), n ≤ 8 → RefC s → 0 ≤ s 56 4 → s 56 4 + n ≤ 64 → sem 155 34 [aA 56, aU, aL v, aU, aI ((n : Int) - 1)] [] s = some (aI (s 56 4 + n), putB 60 56 4 v n s) := by
  intro n
  induction n with
  | zero =>
    intro s hn hR h0 h1
    rw [g155_34 hR]
    simp (disch := omega) only [grd_if, bnI_some, bnL_some, bnV_some, up_app, kds, kls, and_true, true_and, and_self, and_false, false_and, or_true, true_or, or_false, false_or, not_true_eq_false, not_false_eq_true, ite_true, ite_false, if_true, if_false, ↓reduceIte, Int.reduceLT, Int.reduceLE, Int.reduceEq, Int.reduceNe, Int.reduceAdd, Int.reduceSub, Int.reduceMul, Int.reduceNeg, ne_eq, Int.le_refl, Int.lt_irrefl, cmpL_lt0, cmpL_gt0, cmpL_eq0, cmpL_le0, cmpL_ge0]
    rw [if_pos (by decide)]
    simp
    rfl
  | succ n ih =>
    intro s hn hR h0 h1
    rw [g155_34 hR]
    have q2 : ((n + 1 : Nat) : Int) - 1 = (n : Int) := by omega
    have q3 : s 56 4 < 64 := by omega
    rw [q2, if_neg (by omega), grd_if, if_pos ⟨h0, q3⟩, w32_id (a := s 56 4 + 1) (by omega) (by omega), w32_id (a := (n : Int) + -1) (by omega) (by omega), ← byt_eq v n (by omega) (by omega)]
    have hR' : RefC (up (up s 60 (s 56 4) (iandA (w32 (lushrA v (w32 (8 * (n : Int))))) 255)) 56 4 (s 56 4 + 1)) := RefC.upd (RefC.upd hR (rcb_a (by decide))) (rcb_f (c := 9) (j := 4) rfl (by decide) (by decide))
    refine (ih _ (by omega) hR' ?_ ?_).trans ?_
    · rw [up_at]; omega
    · rw [up_at]; omega
    · rw [up_at]
      have e9 : s 56 4 + 1 + (n : Int) = s 56 4 + ((n + 1 : Nat) : Int) := by omega
      rw [e9]
      rfl
theorem q_write {s : SG} (h : Inv s) (n v : Int) : ∃ r s1 s2, sem 103 0 [aA 0, aI n, aL v, aU] [] s = some (aI r, s1) ∧ sem 155 0 [aA 56, aI n, aL v, aU, aU] [] s1 = some (aI r, s2) ∧ Inv s2 := by
  have hR := h.1
  have hX := h.2.2.1
  have hl := hX.2.1
  by_cases q : 1 ≤ n ∧ n ≤ 8
  · have m1 : ¬ n < 1 := by omega
    have m2 : ¬ 8 < n := by omega
    have w1 : w32 (s 56 4 + n) = s 56 4 + n := w32_id (by omega) (by omega)
    have w2 : w32 (n - 1) = n - 1 := w32_id (by omega) (by omega)
    by_cases q2 : 64 < s 56 4 + n
    · refine ⟨-4, s, s, ?_, ?_, h⟩
      · rw [g103_0 hR]
        simp (disch := omega) only [grd_if, bnI_some, bnL_some, bnV_some, up_app, kds, kls, and_true, true_and, and_self, and_false, false_and, or_true, true_or, or_false, false_or, not_true_eq_false, not_false_eq_true, ite_true, ite_false, if_true, if_false, ↓reduceIte, Int.reduceLT, Int.reduceLE, Int.reduceEq, Int.reduceNe, Int.reduceAdd, Int.reduceSub, Int.reduceMul, Int.reduceNeg, ne_eq, Int.le_refl, Int.lt_irrefl, cmpL_lt0, cmpL_gt0, cmpL_eq0, cmpL_le0, cmpL_ge0, m1, m2, e76_0, hX.1, w1, q2]
      · rw [g155_0 hR]
        simp (disch := omega) only [grd_if, bnI_some, bnL_some, bnV_some, up_app, kds, kls, and_true, true_and, and_self, and_false, false_and, or_true, true_or, or_false, false_or, not_true_eq_false, not_false_eq_true, ite_true, ite_false, if_true, if_false, ↓reduceIte, Int.reduceLT, Int.reduceLE, Int.reduceEq, Int.reduceNe, Int.reduceAdd, Int.reduceSub, Int.reduceMul, Int.reduceNeg, ne_eq, Int.le_refl, Int.lt_irrefl, cmpL_lt0, cmpL_gt0, cmpL_eq0, cmpL_le0, cmpL_ge0, c_in, q, b01, w1, q2]
    · obtain ⟨N, rfl⟩ : ∃ N : Nat, n = N := ⟨n.toNat, by omega⟩
      have p1 := putB_at (kt := 2) (kc := 1) (ki := 1) (v := v) (by decide) N s
      have hR1 : RefC (putB 2 1 1 v N s) := by
        have := c_put v N s (by omega) hR (by rw [hX.1]; omega) (by rw [hX.1]; omega)
        exact RefC.sem this rfl hR
      have e4 : putB 2 1 1 v N s 56 4 = s 56 4 := p1.2.1 56 4 (by decide) (by decide)
      have p2 := putB_at (kt := 60) (kc := 56) (ki := 4) (v := v) (by decide) N (putB 2 1 1 v N s)
      refine ⟨s 56 4 + N, putB 2 1 1 v N s, putB 60 56 4 v N (putB 2 1 1 v N s), ?_, ?_, ?_⟩
      · rw [g103_0 hR]
        simp (disch := omega) only [grd_if, bnI_some, bnL_some, bnV_some, up_app, kds, kls, and_true, true_and, and_self, and_false, false_and, or_true, true_or, or_false, false_or, not_true_eq_false, not_false_eq_true, ite_true, ite_false, if_true, if_false, ↓reduceIte, Int.reduceLT, Int.reduceLE, Int.reduceEq, Int.reduceNe, Int.reduceAdd, Int.reduceSub, Int.reduceMul, Int.reduceNeg, ne_eq, Int.le_refl, Int.lt_irrefl, cmpL_lt0, cmpL_gt0, cmpL_eq0, cmpL_le0, cmpL_ge0, m1, m2, e76_0, hX.1, w1, q2]
        rw [g77_0 hR, w2, c_put v N s (by omega) hR (by rw [hX.1]; omega) (by rw [hX.1]; omega)]
        simp (disch := omega) only [grd_if, bnI_some, bnL_some, bnV_some, up_app, kds, kls, and_true, true_and, and_self, and_false, false_and, or_true, true_or, or_false, false_or, not_true_eq_false, not_false_eq_true, ite_true, ite_false, if_true, if_false, ↓reduceIte, Int.reduceLT, Int.reduceLE, Int.reduceEq, Int.reduceNe, Int.reduceAdd, Int.reduceSub, Int.reduceMul, Int.reduceNeg, ne_eq, Int.le_refl, Int.lt_irrefl, cmpL_lt0, cmpL_gt0, cmpL_eq0, cmpL_le0, cmpL_ge0, e75_0, p1.1, hX.1]
      · rw [g155_0 hR1]
        simp (disch := omega) only [grd_if, bnI_some, bnL_some, bnV_some, up_app, kds, kls, and_true, true_and, and_self, and_false, false_and, or_true, true_or, or_false, false_or, not_true_eq_false, not_false_eq_true, ite_true, ite_false, if_true, if_false, ↓reduceIte, Int.reduceLT, Int.reduceLE, Int.reduceEq, Int.reduceNe, Int.reduceAdd, Int.reduceSub, Int.reduceMul, Int.reduceNeg, ne_eq, Int.le_refl, Int.lt_irrefl, cmpL_lt0, cmpL_gt0, cmpL_eq0, cmpL_le0, cmpL_ge0, c_in, q, b01, e4, w1, q2]
        rw [w2, c_put9 v N _ (by omega) hR1 (by rw [e4]; omega) (by rw [e4]; omega), e4]
      · rw [e4] at p2
        refine h.text (fun k i h1 h2 => ?_) ?_
        · unfold Ctext at h2
          rw [p2.2.1 k i (by omega) (by omega), p1.2.1 k i (by omega) (by omega)]
        · unfold TextI at hX ⊢
          have f1 : putB 60 56 4 v N (putB 2 1 1 v N s) 1 1 = s 56 4 + N := by rw [p2.2.1 1 1 (by decide) (by decide), p1.1, hX.1]
          refine ⟨by rw [f1, p2.1], by rw [p2.1]; omega, fun i i0 i1 => ?_⟩
          rw [p2.1] at i1
          rw [p2.2.1 2 i (by decide) (Or.inl (by decide)), p1.2.2 i, p2.2.2 i, p1.2.1 60 i (by decide) (Or.inl (by decide)), hX.1]
          by_cases q5 : s 56 4 ≤ i ∧ i < s 56 4 + N
          · rw [if_pos q5, if_pos q5]
            exact ⟨rfl, byt_rng _⟩
          · rw [if_neg q5, if_neg q5]
            exact hX.2.2 i i0 (by omega)
  · refine ⟨-2, s, s, ?_, ?_, h⟩
    · rw [g103_0 hR]
      by_cases q2 : n < 1
      · simp (disch := omega) only [grd_if, bnI_some, bnL_some, bnV_some, up_app, kds, kls, and_true, true_and, and_self, and_false, false_and, or_true, true_or, or_false, false_or, not_true_eq_false, not_false_eq_true, ite_true, ite_false, if_true, if_false, ↓reduceIte, Int.reduceLT, Int.reduceLE, Int.reduceEq, Int.reduceNe, Int.reduceAdd, Int.reduceSub, Int.reduceMul, Int.reduceNeg, ne_eq, Int.le_refl, Int.lt_irrefl, cmpL_lt0, cmpL_gt0, cmpL_eq0, cmpL_le0, cmpL_ge0, q2]
      · have q3 : 8 < n := by omega
        simp (disch := omega) only [grd_if, bnI_some, bnL_some, bnV_some, up_app, kds, kls, and_true, true_and, and_self, and_false, false_and, or_true, true_or, or_false, false_or, not_true_eq_false, not_false_eq_true, ite_true, ite_false, if_true, if_false, ↓reduceIte, Int.reduceLT, Int.reduceLE, Int.reduceEq, Int.reduceNe, Int.reduceAdd, Int.reduceSub, Int.reduceMul, Int.reduceNeg, ne_eq, Int.le_refl, Int.lt_irrefl, cmpL_lt0, cmpL_gt0, cmpL_eq0, cmpL_le0, cmpL_ge0, q2, q3]
    · rw [g155_0 hR]
      simp (disch := omega) only [grd_if, bnI_some, bnL_some, bnV_some, up_app, kds, kls, and_true, true_and, and_self, and_false, false_and, or_true, true_or, or_false, false_or, not_true_eq_false, not_false_eq_true, ite_true, ite_false, if_true, if_false, ↓reduceIte, Int.reduceLT, Int.reduceLE, Int.reduceEq, Int.reduceNe, Int.reduceAdd, Int.reduceSub, Int.reduceMul, Int.reduceNeg, ne_eq, Int.le_refl, Int.lt_irrefl, cmpL_lt0, cmpL_gt0, cmpL_eq0, cmpL_le0, cmpL_ge0, c_in, q, b01]

/-! reading a text: one part -/
def mp (c : Int) : Int := if c < 3 then 1 + c else if c < 12 then 7 + c else if c < 15 then c - 5 else c - 11
def Rd (d : Int) (sC sR : SG) : Prop := Pl sC sR ∧ (∀ c, 0 ≤ c → c < 18 → sC 4 c = sR 59 (mp c) ∧ (sC 4 c = 0 ∨ sC 4 c = 1)) ∧ (∀ i, 0 ≤ i → i < 28 → tv sC d i = sR 57 i) ∧ TRng (sR 57)
def FcC (d : Int) (s s' : SG) : Prop := ∀ q i : Int, ¬ (q = 3 ∧ i = 1) → q ≠ 4 → ¬ (q = d ∧ 5 ≤ i) → ¬ (d < q ∧ q ≤ d + 4) → s' q i = s q i
def FcR (s s' : SG) : Prop := ∀ q i : Int, ¬ (q = 56 ∧ (i = 5 ∨ i = 6)) → q ≠ 57 → q ≠ 59 → s' q i = s q i
def Gw (s s' : SG) : Prop := ∃ c : Int, (0 ≤ c ∧ c < 18) ∧ s 4 c = 0 ∧ (∀ x, s' 4 x = if x = c then 1 else s 4 x) ∧ s' 3 1 = s 3 1 + (if 3 ≤ c ∧ c < 12 then 5 else 3)
def Res (d : Int) (sC sR : SG) (b : Int) (sC' sR' : SG) : Prop := FcC d sC sC' ∧ FcR sR sR' ∧ ((b = 1 ∧ Rd d sC' sR' ∧ Gw sC sC') ∨ (b = 0 ∧ sC' 3 1 = sR' 56 6 ∧ 0 ≤ sR' 56 6))
theorem FcC.rf {d : Int} {s : SG} : FcC d s s := fun _ _ _ _ _ _ => rfl
theorem FcR.u6 {s : SG} {v : Int} : FcR s (up s 56 6 v) := fun q i h1 h2 h3 => by
  rw [up_app, if_neg (by omega)]
/-- the letter is refused: both stop at its place -/
theorem Rd.stop {d : Int} {sC sR : SG} (h : Pl sC sR) : Res d sC sR 0 sC (up sR 56 6 (sR 56 5)) := by
  refine ⟨FcC.rf, FcR.u6, Or.inr ⟨rfl, ?_, ?_⟩⟩
  · rw [up_at]; exact h.2.2.1
  · rw [up_at]; exact h.2.1.2.1.2.1
/-- the corners that something may still be told of -/
def cmk (s : SG) (n : Int) : Int := msk (opn s 10 3 ≠ 0) (1 < n ∧ opn s 13 3 ≠ 0) (2 < n ∧ opn s 16 3 ≠ 0)
theorem ite_sw {a x y : Int} : (if a = 0 then x else y) = if a ≠ 0 then y else x := by
  by_cases h : a = 0 <;> simp [h]
theorem c_head {s : SG} (hR : RefC s) {n : Int} (hn : 1 ≤ n ∧ n ≤ 3) (e : s 57 0 = n) (b : Int) : sem 160 0 [aA 56, aI b, aU, aU, aU, aU, aU] [] s = if b = 75 then bnI (sem 158 0 [aA 56, aI 1, aI 3, aU, aU] [] s) fun a4 s3 => if a4 = 0 then sem 160 151 [aA 56, aI b, aI n, aI (cmk s n), aI (if b = 67 then 4 else if b = 80 then 5 else if b = 82 then 6 else (-9)), aU, aU] [] s3 else bnI (sem 158 0 [aA 56, aI 1, aI 3, aU, aU] [] (up s3 56 5 (w32 ((s3 56 5) + 1)))) fun a6 s5 => bnI (sem 157 0 [aA 56, aI a6, aU] [] s5) fun a8 s7 => grd ((0 : Int) ≤ (w32 (1 + a8)) ∧ (w32 (1 + a8)) < 28) (bnI (sem 157 0 [aA 56, aI 1022, aU] [] (up s7 59 (w32 (1 + a8)) 1)) fun a11 s10 => some (aU, up s10 57 (w32 (1 + a8)) a11)) else sem 160 151 [aA 56, aI b, aI n, aI (cmk s n), aI (if b = 67 then 4 else if b = 80 then 5 else if b = 82 then 6 else (-9)), aU, aU] [] s := by
  have k0 : w32 (10 + w32 (3 * 0)) = 10 := rfl
  have k1 : w32 (10 + w32 (3 * 1)) = 13 := rfl
  have k2 : w32 (10 + w32 (3 * 2)) = 16 := rfl
  have j0 : w32 (0 + 1) = 1 := rfl
  have j1 : w32 (1 + 1) = 2 := rfl
  have j2 : w32 (2 + 1) = 3 := rfl
  have o0 := c_open hR (f := 10) (n := 3) (by decide) (by decide)
  have o1 := c_open hR (f := 13) (n := 3) (by decide) (by decide)
  have o2 := c_open hR (f := 16) (n := 3) (by decide) (by decide)
  have h3 : n = 1 ∨ n = 2 ∨ n = 3 := by omega
  unfold cmk
  rw [g160_0 hR, e]
  rcases h3 with rfl | rfl | rfl
  · rw [g160_12 hR, if_pos (by decide), k0, o0, bnI_some, j0, g160_12 hR, if_neg (by decide), ite_sw, ior_msk1]
    simp only [Int.reduceLT, true_and, false_and]
  · rw [g160_12 hR, if_pos (by decide), k0, o0, bnI_some, j0, g160_12 hR, if_pos (by decide), k1, o1, bnI_some, j1, g160_12 hR, if_neg (by decide), ite_sw (a := opn s 10 3), ite_sw (a := opn s 13 3), ior_msk2]
    simp only [Int.reduceLT, true_and, false_and]
  · rw [g160_12 hR, if_pos (by decide), k0, o0, bnI_some, j0, g160_12 hR, if_pos (by decide), k1, o1, bnI_some, j1, g160_12 hR, if_pos (by decide), k2, o2, bnI_some, j2, g160_12 hR, if_neg (by decide), ite_sw (a := opn s 10 3), ite_sw (a := opn s 13 3), ite_sw (a := opn s 16 3), ior_msk]
    simp only [Int.reduceLT, true_and]
theorem c_none {s : SG} (hR : RefC s) : sem 160 332 [aA 56, aU, aU, aU, aI (-9), aU, aU] [] s = some (aU, up s 56 6 (s 56 5)) := by
  rw [g160_332 hR, if_pos rfl]
theorem tv_u1 {d : Int} {s : SG} {c v i : Int} (hc : 0 ≤ c ∧ c < 3) (hi : 0 ≤ i ∧ i < 28) : tv (up s (d + 1) c v) d i = if i = 1 + c then v else tv s d i := by
  unfold tv
  simp only [up_app, eq_self, true_and]
  repeat' split
  all_goals first | rfl | omega
theorem tv_u2 {d : Int} {s : SG} {c v i : Int} (hc : 0 ≤ c ∧ c < 9) (hi : 0 ≤ i ∧ i < 28) : tv (up s (d + 2) c v) d i = if i = 10 + c then v else tv s d i := by
  unfold tv
  simp only [up_app, eq_self, true_and]
  repeat' split
  all_goals first | rfl | omega
theorem tv_u3 {d : Int} {s : SG} {c v i : Int} (hc : 0 ≤ c ∧ c < 9) (hi : 0 ≤ i ∧ i < 28) : tv (up s (d + 3) c v) d i = if i = 19 + c then v else tv s d i := by
  unfold tv
  simp only [up_app, eq_self, true_and]
  repeat' split
  all_goals first | rfl | omega
theorem tv_u4 {d : Int} {s : SG} {c v i : Int} (hc : 0 ≤ c ∧ c < 3) (hi : 0 ≤ i ∧ i < 28) : tv (up s (d + 4) c v) d i = if i = 7 + c then v else tv s d i := by
  unfold tv
  simp only [up_app, eq_self, true_and]
  repeat' split
  all_goals first | rfl | omega
theorem tv_uf {d : Int} {s : SG} {c v i : Int} (hc : 5 ≤ c ∧ c ≤ 7) (hi : 0 ≤ i ∧ i < 28) : tv (up s d c v) d i = if i = c - 1 then v else tv s d i := by
  unfold tv
  simp only [up_app, eq_self, true_and]
  repeat' split
  all_goals first | rfl | omega
theorem tv_ne {d q k v i : Int} {s : SG} (hq : q < d ∨ d + 4 < q) (hi : 0 ≤ i ∧ i < 28) : tv (up s q k v) d i = tv s d i := by
  unfold tv
  simp only [up_app, eq_self, true_and]
  repeat' split
  all_goals first | rfl | omega
/-- a number of the town is told -/
theorem TRng.u {s : SG} (h : TRng (s 57)) {i v : Int} (hi : 1 ≤ i ∧ i < 28) (h1 : 1 ≤ i → i ≤ 3 → 1 ≤ v ∧ v ≤ 9) (h2 : 4 ≤ i → i ≤ 6 → 0 ≤ v ∧ v ≤ 99) (h3 : 7 ≤ i → i ≤ 9 → 0 ≤ v ∧ v < s 57 0 ∧ v ≠ i - 7) (h4 : 10 ≤ i → i ≤ 18 → 0 ≤ v ∧ v ≤ 3) (h5 : 19 ≤ i → i ≤ 27 → 0 ≤ v ∧ v ≤ 9) : TRng (up s 57 i v 57) := by
  obtain ⟨a0, a1, a2, a3, a4, a5⟩ := h
  have z0 : up s 57 i v 57 0 = s 57 0 := up_ni (by omega) _
  have key : ∀ P : Int → Prop, ∀ j, (j = i → P v) → P (s 57 j) → P (up s 57 i v 57 j) := fun P j p1 p2 => by
    by_cases e : j = i
    · rw [e, up_at]; exact p1 e
    · rw [up_ni e]; exact p2
  unfold TRng
  rw [z0]
  refine ⟨a0, fun j j0 j1 => key (fun x => 1 ≤ x ∧ x ≤ 9) j (fun e => h1 (by omega) (by omega)) (a1 j j0 j1), fun j j0 j1 => key (fun x => 0 ≤ x ∧ x ≤ 99) j (fun e => h2 (by omega) (by omega)) (a2 j j0 j1), fun j j0 j1 => key (fun x => x = -9 ∨ (0 ≤ x ∧ x < s 57 0 ∧ x ≠ j - 7)) j (fun e => Or.inr (by have := h3 (by omega) (by omega); omega)) (a3 j j0 j1), fun j j0 j1 => key (fun x => 0 ≤ x ∧ x ≤ 3) j (fun e => h4 (by omega) (by omega)) (a4 j j0 j1), fun j j0 j1 => key (fun x => 0 ≤ x ∧ x ≤ 9) j (fun e => h5 (by omega) (by omega)) (a5 j j0 j1)⟩

/-! the van: the reference's plan -/
theorem c_lesser (a b : Int) (s : SG) : sem 188 0 [aI a, aI b] [] s = some (aI (sl a b), s) := by
  rw [e188_0]
  unfold sl
  split <;> rfl
theorem c_place {a b v : Int} (ha : 0 ≤ a ∧ a ≤ 12) (hb : 0 ≤ b ∧ b ≤ 12) (hv : 0 ≤ v ∧ v ≤ 12) (s : SG) : sem 187 0 [aI a, aI b, aI v] [] s = some (aI (ix a b v), s) := by
  rw [e187_0]
  unfold ix
  rw [w32_id (a := 169 * a) (by omega) (by omega), w32_id (a := 13 * b) (by omega) (by omega), w32_id (a := 169 * a + 13 * b) (by omega) (by omega), w32_id (by omega) (by omega)]
theorem l_h9 {s : SG} (hR : RefC s) {b1 x1 b2 x2 U M P : Int} (hp : VP b1 x1 b2 x2) {F : Int → Int → Int → Int} (hF : Cl s 65 P P F) (hP : P ≤ 12) (hU : 0 ≤ U ∧ U ≤ 1000000000000) (hM : 0 ≤ M ∧ M ≤ 10000000000000000) (hr : ∀ a b v, dom P P a b v → 0 ≤ F a b v ∧ F a b v ≤ M) {a b v i j w : Int} (d : dom P P a b v) (hi : 0 ≤ i ∧ i ≤ 1) (hj : 0 ≤ j ∧ j ≤ 1) (hw : 0 ≤ w ∧ w < 4) (ei : remA w 2 = i) (ej : w32 (Int.tdiv w 2) = j) {acc : Int} (hacc : 0 ≤ acc ∧ acc ≤ 4000000000000000000) : sem 189 66 [aA 56, aU, aU, aU, aI a, aI b, aI v, aL U, aU, aI b1, aI x1, aI b2, aI x2, aL acc, aU, aI w, aU, aU, aU] [] s = sem 189 66 [aA 56, aU, aU, aU, aI a, aI b, aI v, aL U, aU, aI b1, aI x1, aI b2, aI x2, aL (acc + tm b1 x1 b2 x2 U F a b v i j), aU, aI (w + 1), aU, aU, aU] [] s := by
  obtain ⟨p1, p2, p3, p4⟩ := hp
  have d' := d
  unfold dom at d
  have s1 := sl_rng (a := a) (by omega) (w := b1 + i) (by omega)
  have s2 := sl_rng (a := b) (by omega) (w := b2 + j) (by omega)
  have dF : dom P P (a - sl a (b1 + i)) (b - sl b (b2 + j)) v := by unfold dom; omega
  have rF := hr _ _ _ dF
  have eF := hF _ _ _ dF
  obtain ⟨t1, t2⟩ := tm_rng (F := F) (U := U) (M := M) (a := a) (b := b) (v := v) (i := i) (j := j) ⟨p1, p2, p3, p4⟩ (by omega) (by omega) (by omega) hi.1 hj.1 hU.1 rF
  have cx1 := ch_rng (i := i) p2
  have cx2 := ch_rng (i := j) p4
  rw [g189_66 hR, if_pos hw.2, ei, ej, w32_id (a := 10 - x2) (by omega) (by omega), w32_id (a := 10 - x1) (by omega) (by omega)]
  obtain ⟨ci, hci⟩ : ∃ z, z = (if i = 0 then 10 - x1 else x1) := ⟨_, rfl⟩
  obtain ⟨cj, hcj⟩ : ∃ z, z = (if j = 0 then 10 - x2 else x2) := ⟨_, rfl⟩
  have mch := mul_rng (a := ci) (A := 10) (b := cj) (B := 10) (by rw [hci]; exact cx1) (by rw [hcj]; exact cx2)
  unfold tm at t2 ⊢
  rw [← hci, ← hcj] at t2 ⊢
  rw [w32_id (a := b1 + i) (by omega) (by omega), w32_id (a := b2 + j) (by omega) (by omega), c_lesser, bnI_some, c_lesser, bnI_some]
  obtain ⟨u, hu⟩ : ∃ u, u = sl a (b1 + i) := ⟨_, rfl⟩
  obtain ⟨y, hy⟩ : ∃ y, y = sl b (b2 + j) := ⟨_, rfl⟩
  rw [← hu, ← hy] at t1 t2 dF eF rF ⊢
  rw [← hu] at s1
  rw [← hy] at s2
  have rix := ix_rng (a := a - u) (b := b - y) (v := v) (by omega) (by omega) (by omega)
  rw [w32_id (a := a - u) (by omega) (by omega), w32_id (a := b - y) (by omega) (by omega), c_place (by omega) (by omega) (by omega), bnI_some, g_t rix, eF, w32_id (a := u + y) (by omega) (by omega), w32_id (a := w + 1) (by omega) (by omega), w32_id (a := ci * cj) (by omega) (by omega)]
  rw [w64_id (a := (u + y) * U) (by omega) (by omega), w64_id (a := (u + y) * U + F (a - u) (b - y) v) (by omega) (by omega)]
  rw [w64_id (a := ci * cj * ((u + y) * U + F (a - u) (b - y) v)) (by omega) (by omega), w64_id (by omega) (by omega)]
/-- the town's numbers for a kind of day at two corners -/
def TP (T : Int → Int) (one other k b1 x1 b2 x2 : Int) : Prop := T (10 + 3 * one + k) = b1 ∧ T (19 + 3 * one + k) = x1 ∧ T (10 + 3 * other + k) = b2 ∧ T (19 + 3 * other + k) = x2
theorem c_halfHour {s : SG} (hR : RefC s) {one other k b1 x1 b2 x2 U M P : Int} (h1 : 0 ≤ one ∧ one < 3) (h2 : 0 ≤ other ∧ other < 3) (hk : 0 ≤ k ∧ k < 3) (hT : TP (s 58) one other k b1 x1 b2 x2) (hp : VP b1 x1 b2 x2) {F : Int → Int → Int → Int} (hF : Cl s 65 P P F) (hP : P ≤ 12) (hU : 0 ≤ U ∧ U ≤ 1000000000000) (hM : 0 ≤ M ∧ M ≤ 10000000000000000 - 12 * U) (hr : ∀ a b v, dom P P a b v → 0 ≤ F a b v ∧ F a b v ≤ M) {a b v : Int} (d : dom P P a b v) : sem 189 0 [aA 56, aI one, aI other, aI k, aI a, aI b, aI v, aL U, aU, aU, aU, aU, aU, aU, aU, aU, aU, aU, aU] [] s = some (aL (HH b1 x1 b2 x2 U F a b v), s) := by
  have T : ∀ i j : Int, 0 ≤ i ∧ i ≤ 1 → 0 ≤ j ∧ j ≤ 1 → 0 ≤ tm b1 x1 b2 x2 U F a b v i j ∧ tm b1 x1 b2 x2 U F a b v i j ≤ 1000000000000000000 := fun i j hi hj => by
    have d' := d
    unfold dom at d
    have s1 := sl_rng (a := a) (by omega) (w := b1 + i) (by have := hp.1; omega)
    have s2 := sl_rng (a := b) (by omega) (w := b2 + j) (by have := hp.2.2.1; omega)
    have dF : dom P P (a - sl a (b1 + i)) (b - sl b (b2 + j)) v := by unfold dom; omega
    have t := (tm_rng (F := F) (U := U) (M := M) (a := a) (b := b) (v := v) (i := i) (j := j) hp (by omega) (by omega) (by omega) hi.1 hj.1 hU.1 (hr _ _ _ dF)).2
    omega
  have t0 := T 0 0 (by decide) (by decide)
  have t1 := T 0 1 (by decide) (by decide)
  have t2 := T 1 0 (by decide) (by decide)
  have t3 := T 1 1 (by decide) (by decide)
  have hM' : 0 ≤ M ∧ M ≤ 10000000000000000 := by omega
  have L := fun (i j w : Int) (hi : 0 ≤ i ∧ i ≤ 1) (hj : 0 ≤ j ∧ j ≤ 1) (hw : 0 ≤ w ∧ w < 4) (ei : remA w 2 = i) (ej : w32 (Int.tdiv w 2) = j) (acc : Int) (hacc : 0 ≤ acc ∧ acc ≤ 4000000000000000000) => l_h9 hR hp hF hP hU hM' hr d hi hj hw ei ej hacc
  have wi : ∀ q c : Int, 0 ≤ q ∧ q ≤ 19 → 0 ≤ c ∧ c < 3 → w32 (w32 (q + w32 (3 * c)) + k) = q + 3 * c + k := fun q c hq hc => by
    rw [w32_id (a := 3 * c) (by omega) (by omega), w32_id (a := q + 3 * c) (by omega) (by omega), w32_id (by omega) (by omega)]
  obtain ⟨T1, T2, T3, T4⟩ := hT
  rw [g189_0 hR, wi 10 one (by decide) h1, wi 19 one (by decide) h1, wi 10 other (by decide) h2, wi 19 other (by decide) h2, g_t (by omega), g_t (by omega), g_t (by omega), g_t (by omega), T1, T2, T3, T4]
  rw [L 0 0 0 (by decide) (by decide) (by decide) rfl rfl 0 (by decide), show (0 : Int) + 1 = 1 from rfl, Int.zero_add, L 1 0 1 (by decide) (by decide) (by decide) rfl rfl _ (by omega), show (1 : Int) + 1 = 2 from rfl, L 0 1 2 (by decide) (by decide) (by decide) rfl rfl _ (by omega), show (2 : Int) + 1 = 3 from rfl, L 1 1 3 (by decide) (by decide) (by decide) rfl rfl _ (by omega), show (3 : Int) + 1 = 4 from rfl, g189_66 hR, if_neg (by decide)]
  unfold HH
  rw [Int.add_right_comm (tm b1 x1 b2 x2 U F a b v 0 0)]
def Vg (s s' : SG) : Prop := ∀ k i, ¬ (k = 56 ∧ i = 14) → s' k i = s k i
theorem ru5614 {s : SG} (h : RefC s) (v : Int) : RefC (up s 56 14 v) := RefC.upd h (rcb_f (c := 9) (j := 14) rfl (by decide) (by decide))
theorem mx_cmp (x y : Int) : (if 0 < cmpL y x then y else x) = max x y := by
  by_cases q : x < y
  · rw [if_pos (cmpL_gt0.mpr q)]; omega
  · rw [if_neg (fun z => q (cmpL_gt0.mp z))]; omega
theorem l_lg {one other k b1 x1 b2 x2 U M P : Int} (h1 : 0 ≤ one ∧ one < 3) (h2 : 0 ≤ other ∧ other < 3) (hk : 0 ≤ k ∧ k < 3) (hp : VP b1 x1 b2 x2) {F : Int → Int → Int → Int} (hP : P ≤ 12) (hU : 0 ≤ U ∧ U ≤ 1000000000000) (hM : 0 ≤ M ∧ M ≤ 10000000000000000 - 12 * U) (hr : ∀ a b v, dom P P a b v → 0 ≤ F a b v ∧ F a b v ≤ M) {a b : Int} {v : Nat} (d : dom P P a b v) : ∀ (n m : Nat) (s : SG), m + n = v → RefC s → TP (s 58) one other k b1 x1 b2 x2 → Cl s 65 P P F → s 56 14 = fg (HH b1 x1 b2 x2 U F) a b v m → ∃ s', sem 190 25 [aA 56, aI one, aI other, aI k, aI a, aI b, aI (v : Int), aL U, aU, aL (Gf (HH b1 x1 b2 x2 U F) a b v m), aU, aI ((m + 1 : Nat) : Int), aU, aU, aU, aU] [] s = some (aL (Gf (HH b1 x1 b2 x2 U F) a b v v), s') ∧ RefC s' ∧ s' 56 14 = fg (HH b1 x1 b2 x2 U F) a b v v ∧ Vg s s' := by
  have d' := d
  unfold dom at d
  obtain ⟨H, hH⟩ : ∃ H, H = HH b1 x1 b2 x2 U F := ⟨_, rfl⟩
  intro n
  induction n with
  | zero =>
    intro m s hm hR hT hF hg
    have : m = v := by omega
    subst this
    rw [g190_25 hR, if_pos (by omega)]
    exact ⟨s, rfl, hR, hg, fun _ _ _ => rfl⟩
  | succ n ih =>
    intro m s hm hR hT hF hg
    obtain ⟨q, hq⟩ : ∃ q : Int, q = ((m + 1 : Nat) : Int) := ⟨_, rfl⟩
    have dA : dom P P (a + q) b ((v : Int) - q) := by unfold dom; omega
    have dB : dom P P a (b + q) ((v : Int) - q) := by unfold dom; omega
    have e : Gf H a b v (m + 1) = max (max (Gf H a b v m) (H (a + ((m + 1 : Nat) : Int)) b ((v : Int) - ((m + 1 : Nat) : Int)))) (H a (b + ((m + 1 : Nat) : Int)) ((v : Int) - ((m + 1 : Nat) : Int))) := rfl
    have e2 : fg H a b v (m + 1) = if max (Gf H a b v m) (H (a + ((m + 1 : Nat) : Int)) b ((v : Int) - ((m + 1 : Nat) : Int))) < H a (b + ((m + 1 : Nat) : Int)) ((v : Int) - ((m + 1 : Nat) : Int)) then 100 + ((m + 1 : Nat) : Int) else if Gf H a b v m < H (a + ((m + 1 : Nat) : Int)) b ((v : Int) - ((m + 1 : Nat) : Int)) then ((m + 1 : Nat) : Int) else fg H a b v m := rfl
    rw [← hq] at e e2
    have i := ih (m + 1)
    have eA : ∀ z, RefC z → z 58 = s 58 → z 65 = s 65 → sem 189 0 [aA 56, aI one, aI other, aI k, aI (a + q), aI b, aI ((v : Int) - q), aL U, aU, aU, aU, aU, aU, aU, aU, aU, aU, aU, aU] [] z = some (aL (HH b1 x1 b2 x2 U F (a + q) b ((v : Int) - q)), z) := fun z hz z58 z65 => c_halfHour hz h1 h2 hk (by rw [z58]; exact hT) hp (by unfold Cl; rw [z65]; exact hF) hP hU hM hr dA
    have eB : ∀ z, RefC z → z 58 = s 58 → z 65 = s 65 → sem 189 0 [aA 56, aI one, aI other, aI k, aI a, aI (b + q), aI ((v : Int) - q), aL U, aU, aU, aU, aU, aU, aU, aU, aU, aU, aU, aU] [] z = some (aL (HH b1 x1 b2 x2 U F a (b + q) ((v : Int) - q)), z) := fun z hz z58 z65 => c_halfHour hz h1 h2 hk (by rw [z58]; exact hT) hp (by unfold Cl; rw [z65]; exact hF) hP hU hM hr dB
    rw [← hH] at eA eB i hg ⊢
    obtain ⟨A, hA⟩ : ∃ A, A = H (a + q) b ((v : Int) - q) := ⟨_, rfl⟩
    obtain ⟨B, hB⟩ : ∃ B, B = H a (b + q) ((v : Int) - q) := ⟨_, rfl⟩
    rw [← hA, ← hB] at e e2
    rw [← hA] at eA
    rw [← hB] at eB
    obtain ⟨g1, hg1⟩ : ∃ g1, g1 = if Gf H a b v m < A then q else fg H a b v m := ⟨_, rfl⟩
    have hR1 := ru5614 hR g1
    have f58 : ∀ x y, up (up s 56 14 x) 56 14 y 58 = s 58 := fun x y => by rw [up_k (by decide), up_k (by decide)]
    have f65 : ∀ x y, up (up s 56 14 x) 56 14 y 65 = s 65 := fun x y => by rw [up_k (by decide), up_k (by decide)]
    have w1 : w32 (q + 1) = ((m + 1 + 1 : Nat) : Int) := by rw [w32_id (by omega) (by omega)]; omega
    have first : sem 190 25 [aA 56, aI one, aI other, aI k, aI a, aI b, aI (v : Int), aL U, aU, aL (Gf H a b v m), aU, aI q, aU, aU, aU, aU] [] s = sem 190 73 [aA 56, aI one, aI other, aI k, aI a, aI b, aI (v : Int), aL U, aU, aL (Gf H a b v m), aU, aI q, aL A, aU, aU, aU] [aI g1, aA 56] s := by
      rw [g190_25 hR, if_neg (by omega), w32_id (a := a + q) (by omega) (by omega), w32_id (a := (v : Int) - q) (by omega) (by omega), eA s hR rfl rfl, bnL_some, hg, hg1]
      by_cases y : Gf H a b v m < A
      · rw [if_pos (cmpL_gt0.mpr y), if_pos y]
      · rw [if_neg (fun u => y (cmpL_gt0.mp u)), if_neg y]
    have second : ∃ g2, g2 = fg H a b v (m + 1) ∧ sem 190 73 [aA 56, aI one, aI other, aI k, aI a, aI b, aI (v : Int), aL U, aU, aL (Gf H a b v m), aU, aI q, aL A, aU, aU, aU] [aI g1, aA 56] s = sem 190 25 [aA 56, aI one, aI other, aI k, aI a, aI b, aI (v : Int), aL U, aU, aL (Gf H a b v (m + 1)), aU, aI ((m + 1 + 1 : Nat) : Int), aU, aU, aU, aU] [] (up (up s 56 14 g1) 56 14 g2) := by
      rw [g190_73 hR, w32_id (a := b + q) (by omega) (by omega), w32_id (a := (v : Int) - q) (by omega) (by omega), eB (up s 56 14 g1) hR1 (up_k (by decide)) (up_k (by decide)), bnL_some, mx_cmp, mx_cmp, w1, ← e, w32_id (a := 100 + q) (by omega) (by omega)]
      by_cases y : max (Gf H a b v m) A < B
      · rw [if_pos (cmpL_gt0.mpr y)]
        exact ⟨100 + q, by rw [e2, if_pos y], rfl⟩
      · rw [if_neg (fun u => y (cmpL_gt0.mp u))]
        exact ⟨up s 56 14 g1 56 14, by rw [e2, if_neg y, up_at, hg1], rfl⟩
    obtain ⟨g2, hg2, second⟩ := second
    obtain ⟨s', i1, i2, i3, i4⟩ := i (up (up s 56 14 g1) 56 14 g2) (by omega) (ru5614 hR1 g2) (by rw [f58]; exact hT) (by unfold Cl; rw [f65]; exact hF) (by rw [up_at, hg2])
    refine ⟨s', ?_, i2, i3, fun p j hj => by rw [i4 p j hj, up_app, if_neg hj, up_app, if_neg hj]⟩
    rw [← hq, first, second]
    exact i1
theorem c_layGift {s : SG} (hR : RefC s) {one other k b1 x1 b2 x2 U M P : Int} (h1 : 0 ≤ one ∧ one < 3) (h2 : 0 ≤ other ∧ other < 3) (hk : 0 ≤ k ∧ k < 3) (hT : TP (s 58) one other k b1 x1 b2 x2) (hp : VP b1 x1 b2 x2) {F : Int → Int → Int → Int} (hF : Cl s 65 P P F) (hP : P ≤ 12) (hU : 0 ≤ U ∧ U ≤ 1000000000000) (hM : 0 ≤ M ∧ M ≤ 10000000000000000 - 12 * U) (hr : ∀ a b v, dom P P a b v → 0 ≤ F a b v ∧ F a b v ≤ M) {a b v : Int} (d : dom P P a b v) : ∃ s', sem 190 0 [aA 56, aI one, aI other, aI k, aI a, aI b, aI v, aL U, aU, aU, aU, aU, aU, aU, aU, aU] [] s = some (aL (Gf (HH b1 x1 b2 x2 U F) a b v v.toNat), s') ∧ RefC s' ∧ s' 56 14 = fg (HH b1 x1 b2 x2 U F) a b v v.toNat ∧ Vg s s' := by
  obtain ⟨n, hn⟩ : ∃ n : Nat, v = n := ⟨v.toNat, by unfold dom at d; omega⟩
  subst hn
  obtain ⟨s', i1, i2, i3, i4⟩ := l_lg h1 h2 hk hp hP hU hM hr d n 0 (up s 56 14 0) (by omega) (ru5614 hR 0) (by rw [up_k (by decide)]; exact hT) (by unfold Cl; rw [up_k (by decide)]; exact hF) (by rw [up_at]; rfl)
  rw [Int.toNat_natCast]
  refine ⟨s', ?_, i2, i3, fun p j hj => by rw [i4 p j hj, up_app, if_neg hj]⟩
  rw [g190_0 hR, c_halfHour hR h1 h2 hk hT hp hF hP hU hM hr d, bnL_some]
  exact i1

/-! the van: the class's plan -/
theorem c_cell {a b v : Int} (ha : 0 ≤ a ∧ a ≤ 12) (hb : 0 ≤ b ∧ b ≤ 12) (hv : 0 ≤ v ∧ v ≤ 12) (s : SG) : sem 93 0 [aI a, aI b, aI v, aU] [] s = some (aI (ix a b v), s) := by
  have w : w32 (w32 (w32 (w32 (a * 13) + b) * 13) + v) = ix a b v := by
    unfold ix
    rw [w32_id (a := a * 13) (by omega) (by omega), w32_id (a := a * 13 + b) (by omega) (by omega), w32_id (a := (a * 13 + b) * 13) (by omega) (by omega), w32_id (by omega) (by omega)]
    omega
  rw [e93_0, w]
  unfold ix
  rw [if_neg (by omega), if_pos (by omega)]
theorem ix_rng {a b v : Int} (ha : 0 ≤ a ∧ a ≤ 12) (hb : 0 ≤ b ∧ b ≤ 12) (hv : 0 ≤ v ∧ v ≤ 12) : 0 ≤ ix a b v ∧ ix a b v < 2197 := by
  unfold ix
  omega
def VC (s : SG) (b1 x1 b2 x2 U : Int) : Prop := s 13 3 = b1 ∧ s 13 4 = b2 ∧ s 13 5 = x1 ∧ s 13 6 = x2 ∧ s 13 2 = U
def Cl (s : SG) (q P V : Int) (F : Int → Int → Int → Int) : Prop := ∀ a b v, dom P V a b v → s q (ix a b v) = F a b v
theorem min_sl (a w : Int) : min a w = sl a w := by
  unfold sl
  rw [Int.min_def]
  repeat' split
  all_goals omega
/-- one of the four ways of a half hour -/
theorem l_vm {s : SG} (hR : RefC s) {b1 x1 b2 x2 U M P V : Int} (hp : VP b1 x1 b2 x2) (hc : VC s b1 x1 b2 x2 U) {F : Int → Int → Int → Int} (hF : Cl s 14 P V F) (hP : P ≤ 12) (hV : V ≤ 12) (hU : 0 ≤ U ∧ U ≤ 1000000000000) (hM : 0 ≤ M ∧ M ≤ 10000000000000000) (hr : ∀ a b v, dom P V a b v → 0 ≤ F a b v ∧ F a b v ≤ M) {a b v i j : Int} (d : dom P V a b v) (hi : 0 ≤ i ∧ i ≤ 1) (hj : 0 ≤ j ∧ j ≤ 1) {acc : Int} (hacc : 0 ≤ acc ∧ acc ≤ 4000000000000000000) : sem 99 15 [aA 13, aI a, aI b, aI v, aL acc, aU, aI i, aI j, aU, aU, aU, aU, aU] [] s = sem 99 15 [aA 13, aI a, aI b, aI v, aL (acc + tm b1 x1 b2 x2 U F a b v i j), aU, aI i, aI (j + 1), aU, aU, aU, aU, aU] [] s := by
  obtain ⟨c1, c2, c3, c4, c5⟩ := hc
  obtain ⟨p1, p2, p3, p4⟩ := hp
  have d' := d
  unfold dom at d
  have s1 := sl_rng (a := a) (by omega) (w := b1 + i) (by omega)
  have s2 := sl_rng (a := b) (by omega) (w := b2 + j) (by omega)
  have dF : dom P V (a - sl a (b1 + i)) (b - sl b (b2 + j)) v := by unfold dom; omega
  have rF := hr _ _ _ dF
  have eF := hF _ _ _ dF
  obtain ⟨t1, t2⟩ := tm_rng (F := F) (U := U) (M := M) (a := a) (b := b) (v := v) (i := i) (j := j) ⟨p1, p2, p3, p4⟩ (by omega) (by omega) (by omega) hi.1 hj.1 hU.1 rF
  have e1 : sem 99 15 [aA 13, aI a, aI b, aI v, aL acc, aU, aI i, aI j, aU, aU, aU, aU, aU] [] s = sem 99 61 [aA 13, aI a, aI b, aI v, aL acc, aU, aI i, aI j, aU, aU, aU, aU, aU] [aI (if j = 0 then 10 - x2 else x2), aI (if i = 0 then 10 - x1 else x1)] s := by
    rw [g99_15 hR, if_neg (by omega), c3, c4, w32_id (a := 10 - x2) (by omega) (by omega), w32_id (a := 10 - x1) (by omega) (by omega)]
    by_cases q1 : i = 1
    · rw [if_pos q1, if_neg (show ¬ i = 0 by omega)]
      by_cases q2 : j = 1
      · rw [if_pos q2, if_neg (show ¬ j = 0 by omega)]
      · rw [if_neg q2, if_pos (show j = 0 by omega)]
    · rw [if_neg q1, if_pos (show i = 0 by omega)]
      by_cases q2 : j = 1
      · rw [if_pos q2, if_neg (show ¬ j = 0 by omega)]
      · rw [if_neg q2, if_pos (show j = 0 by omega)]
  have cx1 := ch_rng (i := i) p2
  have cx2 := ch_rng (i := j) p4
  obtain ⟨ci, hci⟩ : ∃ z, z = (if i = 0 then 10 - x1 else x1) := ⟨_, rfl⟩
  obtain ⟨cj, hcj⟩ : ∃ z, z = (if j = 0 then 10 - x2 else x2) := ⟨_, rfl⟩
  have mch := mul_rng (a := ci) (A := 10) (b := cj) (B := 10) (by rw [hci]; exact cx1) (by rw [hcj]; exact cx2)
  unfold tm at t2 ⊢
  rw [← hci, ← hcj] at e1
  rw [← hci, ← hcj] at t2 ⊢
  rw [e1, g99_61 hR, c1, c2, w32_id (a := b1 + i) (by omega) (by omega), w32_id (a := b2 + j) (by omega) (by omega), min_sl, min_sl]
  obtain ⟨u, hu⟩ : ∃ u, u = sl a (b1 + i) := ⟨_, rfl⟩
  obtain ⟨w, hw⟩ : ∃ w, w = sl b (b2 + j) := ⟨_, rfl⟩
  rw [← hu, ← hw] at t1 t2 dF eF rF ⊢
  rw [← hu] at s1
  rw [← hw] at s2
  have rix := ix_rng (a := a - u) (b := b - w) (v := v) (by omega) (by omega) (by omega)
  rw [w32_id (a := a - u) (by omega) (by omega), w32_id (a := b - w) (by omega) (by omega), c_cell (by omega) (by omega) (by omega), bnI_some, g_t rix, c5, eF, w32_id (a := u + w) (by omega) (by omega), w32_id (a := j + 1) (by omega) (by omega), w32_id (a := ci * cj) (by omega) (by omega)]
  rw [w64_id (a := (u + w) * U) (by omega) (by omega), w64_id (a := (u + w) * U + F (a - u) (b - w) v) (by omega) (by omega)]
  rw [w64_id (a := ci * cj * ((u + w) * U + F (a - u) (b - w) v)) (by omega) (by omega), w64_id (by omega) (by omega)]
theorem c_vmean {s : SG} (hR : RefC s) {b1 x1 b2 x2 U M P V : Int} (hp : VP b1 x1 b2 x2) (hc : VC s b1 x1 b2 x2 U) {F : Int → Int → Int → Int} (hF : Cl s 14 P V F) (hP : P ≤ 12) (hV : V ≤ 12) (hU : 0 ≤ U ∧ U ≤ 1000000000000) (hM : 0 ≤ M ∧ M ≤ 10000000000000000 - 12 * U) (hr : ∀ a b v, dom P V a b v → 0 ≤ F a b v ∧ F a b v ≤ M) {a b v : Int} (d : dom P V a b v) : sem 99 0 [aA 13, aI a, aI b, aI v, aU, aU, aU, aU, aU, aU, aU, aU, aU] [] s = some (aL (HH b1 x1 b2 x2 U F a b v), s) := by
  have T : ∀ i j : Int, 0 ≤ i ∧ i ≤ 1 → 0 ≤ j ∧ j ≤ 1 → 0 ≤ tm b1 x1 b2 x2 U F a b v i j ∧ tm b1 x1 b2 x2 U F a b v i j ≤ 1000000000000000000 := fun i j hi hj => by
    have d' := d
    unfold dom at d
    have s1 := sl_rng (a := a) (by omega) (w := b1 + i) (by have := hp.1; omega)
    have s2 := sl_rng (a := b) (by omega) (w := b2 + j) (by have := hp.2.2.1; omega)
    have dF : dom P V (a - sl a (b1 + i)) (b - sl b (b2 + j)) v := by unfold dom; omega
    have t := (tm_rng (F := F) (U := U) (M := M) (a := a) (b := b) (v := v) (i := i) (j := j) hp (by omega) (by omega) (by omega) hi.1 hj.1 hU.1 (hr _ _ _ dF)).2
    omega
  have t0 := T 0 0 (by decide) (by decide)
  have t1 := T 0 1 (by decide) (by decide)
  have t2 := T 1 0 (by decide) (by decide)
  have t3 := T 1 1 (by decide) (by decide)
  have hM' : 0 ≤ M ∧ M ≤ 10000000000000000 := by omega
  have L := fun (i j : Int) (hi : 0 ≤ i ∧ i ≤ 1) (hj : 0 ≤ j ∧ j ≤ 1) (acc : Int) (hacc : 0 ≤ acc ∧ acc ≤ 4000000000000000000) => l_vm hR hp hc hF hP hV hU hM' hr d hi hj hacc
  rw [g99_0 hR, g99_6 hR, if_neg (by decide), L 0 0 (by decide) (by decide) 0 (by decide), show (0 : Int) + 1 = 1 from rfl, Int.zero_add, L 0 1 (by decide) (by decide) _ (by omega), g99_15 hR, if_pos (by decide), show w32 (0 + 1) = 1 from rfl, g99_6 hR, if_neg (by decide), L 1 0 (by decide) (by decide) _ (by omega), show (0 : Int) + 1 = 1 from rfl, L 1 1 (by decide) (by decide) _ (by omega), g99_15 hR, if_pos (by decide), show w32 (1 + 1) = 2 from rfl, g99_6 hR, if_pos (by decide)]
  rfl
theorem l_bo {s : SG} (hR : RefC s) {P V : Int} {H : Int → Int → Int → Int} (hH : Cl s 15 P V H) (hP : P ≤ 12) (hV : V ≤ 12) {a b : Int} {v : Nat} (d : dom P V a b v) : ∀ n m : Nat, m + n = v → sem 100 16 [aA 13, aI a, aI b, aI (v : Int), aL (Gf H a b v m), aU, aI ((m + 1 : Nat) : Int)] [] s = some (aL (Gf H a b v v), s) := by
  intro n
  have d' := d
  unfold dom at d
  induction n with
  | zero =>
    intro m hm
    have : m = v := by omega
    subst this
    rw [g100_16 hR, if_pos (by omega)]
  | succ n ih =>
    intro m hm
    have i := ih (m + 1) (by omega)
    obtain ⟨k, hk⟩ : ∃ k : Int, k = ((m + 1 : Nat) : Int) := ⟨_, rfl⟩
    have dA : dom P V (a + k) b ((v : Int) - k) := by unfold dom; omega
    have dB : dom P V a (b + k) ((v : Int) - k) := by unfold dom; omega
    have e : Gf H a b v (m + 1) = max (max (Gf H a b v m) (H (a + ((m + 1 : Nat) : Int)) b ((v : Int) - ((m + 1 : Nat) : Int)))) (H a (b + ((m + 1 : Nat) : Int)) ((v : Int) - ((m + 1 : Nat) : Int))) := rfl
    rw [e, ← hk] at i
    rw [← hk, g100_16 hR, if_neg (by omega), w32_id (a := a + k) (by omega) (by omega), w32_id (a := (v : Int) - k) (by omega) (by omega), w32_id (a := b + k) (by omega) (by omega), w32_id (a := k + 1) (by omega) (by omega)]
    rw [c_cell (by omega) (by omega) (by omega), bnI_some, g_t (ix_rng (by omega) (by omega) (by omega)), c_cell (by omega) (by omega) (by omega), bnI_some, g_t (ix_rng (by omega) (by omega) (by omega)), hH _ _ _ dA, hH _ _ _ dB]
    have : k + 1 = ((m + 1 + 1 : Nat) : Int) := by omega
    rw [this]
    exact i
theorem c_bestOf {s : SG} (hR : RefC s) {P V : Int} {H : Int → Int → Int → Int} (hH : Cl s 15 P V H) (hP : P ≤ 12) (hV : V ≤ 12) {a b v : Int} (d : dom P V a b v) : sem 100 0 [aA 13, aI a, aI b, aI v, aU, aU, aU] [] s = some (aL (Gf H a b v v.toNat), s) := by
  have d' := d
  unfold dom at d
  obtain ⟨n, hn⟩ : ∃ n : Nat, v = n := ⟨v.toNat, by omega⟩
  subst hn
  rw [g100_0 hR, c_cell (by omega) (by omega) (by omega), bnI_some, g_t (ix_rng (by omega) (by omega) (by omega)), hH _ _ _ d', Int.toNat_natCast]
  exact l_bo hR hH hP hV d' n 0 (by omega)
theorem Gf_mono (H : Int → Int → Int → Int) (a b v : Int) : ∀ (k m : Nat), Gf H a b v m ≤ Gf H a b v (m + k) := by
  intro k
  induction k with
  | zero => intro m; exact Int.le_refl _
  | succ k ih =>
    intro m
    have i := ih m
    have e : Gf H a b v (m + (k + 1)) = max (max (Gf H a b v (m + k)) (H (a + ((m + k + 1 : Nat) : Int)) b (v - ((m + k + 1 : Nat) : Int)))) (H a (b + ((m + k + 1 : Nat) : Int)) (v - ((m + k + 1 : Nat) : Int))) := rfl
    rw [e]
    omega
theorem fg_stay (H : Int → Int → Int → Int) (a b v : Int) : ∀ (k m : Nat), Gf H a b v m = Gf H a b v (m + k) → fg H a b v (m + k) = fg H a b v m := by
  intro k
  induction k with
  | zero => intro m _; rfl
  | succ k ih =>
    intro m hm
    have m1 := Gf_mono H a b v k m
    have e : Gf H a b v (m + (k + 1)) = max (max (Gf H a b v (m + k)) (H (a + ((m + k + 1 : Nat) : Int)) b (v - ((m + k + 1 : Nat) : Int)))) (H a (b + ((m + k + 1 : Nat) : Int)) (v - ((m + k + 1 : Nat) : Int))) := rfl
    have e2 : fg H a b v (m + (k + 1)) = if max (Gf H a b v (m + k)) (H (a + ((m + k + 1 : Nat) : Int)) b (v - ((m + k + 1 : Nat) : Int))) < H a (b + ((m + k + 1 : Nat) : Int)) (v - ((m + k + 1 : Nat) : Int)) then 100 + ((m + k + 1 : Nat) : Int) else if Gf H a b v (m + k) < H (a + ((m + k + 1 : Nat) : Int)) b (v - ((m + k + 1 : Nat) : Int)) then ((m + k + 1 : Nat) : Int) else fg H a b v (m + k) := rfl
    rw [e2, if_neg (by omega), if_neg (by omega)]
    exact ih m (by omega)
theorem l_fm {s : SG} (hR : RefC s) {P V : Int} {H : Int → Int → Int → Int} (hH : Cl s 15 P V H) (hP : P ≤ 12) (hV : V ≤ 12) {a b : Int} {v : Nat} (d : dom P V a b v) : ∀ n m : Nat, m + n = v → Gf H a b v m < Gf H a b v v → sem 101 31 [aA 13, aI a, aI b, aI (v : Int), aL (Gf H a b v v), aU, aI ((m + 1 : Nat) : Int)] [] s = some (aI (fg H a b v v), s) := by
  intro n
  have d' := d
  unfold dom at d
  induction n with
  | zero =>
    intro m hm hl
    have : m = v := by omega
    subst this
    omega
  | succ n ih =>
    intro m hm hl
    have i := ih (m + 1) (by omega)
    have mo := Gf_mono H a b v n (m + 1)
    have ev : m + 1 + n = v := by omega
    have st := fg_stay H a b v n (m + 1)
    rw [ev] at mo st
    obtain ⟨k, hk⟩ : ∃ k : Int, k = ((m + 1 : Nat) : Int) := ⟨_, rfl⟩
    have dA : dom P V (a + k) b ((v : Int) - k) := by unfold dom; omega
    have dB : dom P V a (b + k) ((v : Int) - k) := by unfold dom; omega
    have e : Gf H a b v (m + 1) = max (max (Gf H a b v m) (H (a + ((m + 1 : Nat) : Int)) b ((v : Int) - ((m + 1 : Nat) : Int)))) (H a (b + ((m + 1 : Nat) : Int)) ((v : Int) - ((m + 1 : Nat) : Int))) := rfl
    have e2 : fg H a b v (m + 1) = if max (Gf H a b v m) (H (a + ((m + 1 : Nat) : Int)) b ((v : Int) - ((m + 1 : Nat) : Int))) < H a (b + ((m + 1 : Nat) : Int)) ((v : Int) - ((m + 1 : Nat) : Int)) then 100 + ((m + 1 : Nat) : Int) else if Gf H a b v m < H (a + ((m + 1 : Nat) : Int)) b ((v : Int) - ((m + 1 : Nat) : Int)) then ((m + 1 : Nat) : Int) else fg H a b v m := rfl
    rw [← hk] at e e2
    rw [← hk, g101_31 hR, if_neg (by omega), w32_id (a := a + k) (by omega) (by omega), w32_id (a := (v : Int) - k) (by omega) (by omega), w32_id (a := b + k) (by omega) (by omega), w32_id (a := k + 1) (by omega) (by omega), w32_id (a := 100 + k) (by omega) (by omega)]
    rw [c_cell (by omega) (by omega) (by omega), bnI_some, g_t (ix_rng (by omega) (by omega) (by omega)), hH _ _ _ dA]
    obtain ⟨A, hA⟩ : ∃ A, A = H (a + k) b ((v : Int) - k) := ⟨_, rfl⟩
    obtain ⟨B, hB⟩ : ∃ B, B = H a (b + k) ((v : Int) - k) := ⟨_, rfl⟩
    obtain ⟨G, hG⟩ : ∃ G, G = Gf H a b v v := ⟨_, rfl⟩
    obtain ⟨G0, hG0⟩ : ∃ G0, G0 = Gf H a b v m := ⟨_, rfl⟩
    rw [← hA, ← hB, ← hG0] at e e2
    rw [← hG] at hl mo st i ⊢
    rw [← hG0] at hl
    rw [← hA]
    by_cases q1 : A = G
    · rw [if_pos (cmpL_eq0.mpr q1), st (by omega), e2, if_neg (by omega), if_pos (by omega)]
    · rw [if_neg (fun y => q1 (cmpL_eq0.mp y)), c_cell (by omega) (by omega) (by omega), bnI_some, g_t (ix_rng (by omega) (by omega) (by omega)), hH _ _ _ dB, ← hB]
      by_cases q2 : B = G
      · rw [if_pos (cmpL_eq0.mpr q2), st (by omega), e2, if_pos (by omega)]
      · rw [if_neg (fun y => q2 (cmpL_eq0.mp y))]
        have : k + 1 = ((m + 1 + 1 : Nat) : Int) := by omega
        rw [this]
        exact i (by omega)
theorem c_firstMove {s : SG} (hR : RefC s) {P V : Int} {H : Int → Int → Int → Int} (hH : Cl s 15 P V H) (hP : P ≤ 12) (hV : V ≤ 12) {a b v : Int} (d : dom P V a b v) : sem 101 0 [aA 13, aI a, aI b, aI v, aU, aU, aU] [] s = some (aI (fg H a b v v.toNat), s) := by
  have d' := d
  unfold dom at d
  obtain ⟨n, hn⟩ : ∃ n : Nat, v = n := ⟨v.toNat, by omega⟩
  subst hn
  have m0 := Gf_mono H a b n n 0
  have st := fg_stay H a b n n 0
  rw [Nat.zero_add] at m0 st
  have e0 : Gf H a b n 0 = H a b n := rfl
  rw [g101_0 hR, c_bestOf hR hH hP hV d', bnL_some, c_cell (by omega) (by omega) (by omega), bnI_some, g_t (ix_rng (by omega) (by omega) (by omega)), hH _ _ _ d', Int.toNat_natCast]
  by_cases q : H a b n = Gf H a b n n
  · rw [if_pos (cmpL_eq0.mpr q), st (e0.trans q)]
    rfl
  · rw [if_neg (fun y => q (cmpL_eq0.mp y))]
    exact l_fm hR hH hP hV d' n 0 (by omega) (by omega)

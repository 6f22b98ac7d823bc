/-! the van: what is reckoned, from the last half hour back -/
def sl (a w : Int) : Int := if a < w then a else w
def tm (b1 x1 b2 x2 U : Int) (F : Int → Int → Int → Int) (a b v i j : Int) : Int := ((if i = 0 then 10 - x1 else x1) * (if j = 0 then 10 - x2 else x2)) * ((sl a (b1 + i) + sl b (b2 + j)) * U + F (a - sl a (b1 + i)) (b - sl b (b2 + j)) v)
def HH (b1 x1 b2 x2 U : Int) (F : Int → Int → Int → Int) (a b v : Int) : Int := tm b1 x1 b2 x2 U F a b v 0 0 + tm b1 x1 b2 x2 U F a b v 0 1 + tm b1 x1 b2 x2 U F a b v 1 0 + tm b1 x1 b2 x2 U F a b v 1 1
/-- the most of what stands there when up to m are given -/
def Gf (H : Int → Int → Int → Int) (a b v : Int) : Nat → Int
  | 0 => H a b v
  | m + 1 => max (max (Gf H a b v m) (H (a + ((m + 1 : Nat) : Int)) b (v - ((m + 1 : Nat) : Int)))) (H a (b + ((m + 1 : Nat) : Int)) (v - ((m + 1 : Nat) : Int)))
def fg (H : Int → Int → Int → Int) (a b v : Int) : Nat → Int
  | 0 => 0
  | m + 1 => if max (Gf H a b v m) (H (a + ((m + 1 : Nat) : Int)) b (v - ((m + 1 : Nat) : Int))) < H a (b + ((m + 1 : Nat) : Int)) (v - ((m + 1 : Nat) : Int)) then 100 + ((m + 1 : Nat) : Int) else if Gf H a b v m < H (a + ((m + 1 : Nat) : Int)) b (v - ((m + 1 : Nat) : Int)) then ((m + 1 : Nat) : Int) else fg H a b v m
def Bh (b1 x1 b2 x2 : Int) : Nat → Int → Int → Int → Int
  | 0 => fun _ _ _ => 0
  | j + 1 => HH b1 x1 b2 x2 (100 ^ j) (fun a b v => Gf (Bh b1 x1 b2 x2 j) a b v v.toNat)
def Bf (b1 x1 b2 x2 : Int) (j : Nat) : Int → Int → Int → Int := fun a b v => Gf (Bh b1 x1 b2 x2 j) a b v v.toNat
theorem Bh_succ (b1 x1 b2 x2 : Int) (j : Nat) : Bh b1 x1 b2 x2 (j + 1) = HH b1 x1 b2 x2 (100 ^ j) (Bf b1 x1 b2 x2 j) := rfl
def Mb : Nat → Int
  | 0 => 0
  | j + 1 => 400 * (12 * 100 ^ j + Mb j)
theorem Mb_l : ∀ j : Fin 7, 0 ≤ Mb j.val ∧ Mb j.val ≤ 1000000000000000000 ∧ 0 ≤ (100 : Int) ^ j.val ∧ (100 : Int) ^ j.val ≤ 1000000000000 ∧ 1 ≤ (100 : Int) ^ j.val := by decide +kernel
theorem Mb_rng {j : Nat} (hj : j ≤ 6) : (0 ≤ Mb j ∧ Mb j ≤ 1000000000000000000) ∧ (1 ≤ (100 : Int) ^ j ∧ (100 : Int) ^ j ≤ 1000000000000) := by
  have := Mb_l ⟨j, by omega⟩
  exact ⟨⟨this.1, this.2.1⟩, this.2.2.2.2, this.2.2.2.1⟩
def VP (b1 x1 b2 x2 : Int) : Prop := (0 ≤ b1 ∧ b1 ≤ 3) ∧ (0 ≤ x1 ∧ x1 ≤ 9) ∧ (0 ≤ b2 ∧ b2 ≤ 3) ∧ (0 ≤ x2 ∧ x2 ≤ 9)
theorem sl_rng {a w : Int} (ha : 0 ≤ a) (hw : 0 ≤ w) : 0 ≤ sl a w ∧ sl a w ≤ a := by
  unfold sl
  split <;> omega
theorem ch_rng {i x : Int} (hx : 0 ≤ x ∧ x ≤ 9) : 0 ≤ (if i = 0 then 10 - x else x) ∧ (if i = 0 then 10 - x else x) ≤ 10 := by split <;> omega
theorem tm_rng {b1 x1 b2 x2 U M : Int} (hp : VP b1 x1 b2 x2) {F : Int → Int → Int → Int} {a b v i j : Int} (ha : 0 ≤ a) (hb : 0 ≤ b) (hab : a + b ≤ 12) (hi : 0 ≤ i) (hj : 0 ≤ j) (hU : 0 ≤ U) (hF : 0 ≤ F (a - sl a (b1 + i)) (b - sl b (b2 + j)) v ∧ F (a - sl a (b1 + i)) (b - sl b (b2 + j)) v ≤ M) : (0 ≤ (sl a (b1 + i) + sl b (b2 + j)) * U ∧ (sl a (b1 + i) + sl b (b2 + j)) * U ≤ 12 * U) ∧ (0 ≤ tm b1 x1 b2 x2 U F a b v i j ∧ tm b1 x1 b2 x2 U F a b v i j ≤ 100 * (12 * U + M)) := by
  obtain ⟨p1, p2, p3, p4⟩ := hp
  have s1 := sl_rng ha (w := b1 + i) (by omega)
  have s2 := sl_rng hb (w := b2 + j) (by omega)
  have m1 := mul_rng (a := sl a (b1 + i) + sl b (b2 + j)) (A := 12) (b := U) (B := U) (by omega) (by omega)
  have m2 := mul_rng (ch_rng (i := i) p2) (ch_rng (i := j) p4)
  refine ⟨m1, ?_⟩
  unfold tm
  exact mul_rng m2 (by omega)
theorem Gf_rng {H : Int → Int → Int → Int} {M : Int} (hH : ∀ a b v : Int, 0 ≤ a → 0 ≤ b → 0 ≤ v → a + b + v ≤ 12 → 0 ≤ H a b v ∧ H a b v ≤ M) {a b v : Int} (ha : 0 ≤ a) (hb : 0 ≤ b) (hv : a + b + v ≤ 12) : ∀ m : Nat, (m : Int) ≤ v → 0 ≤ Gf H a b v m ∧ Gf H a b v m ≤ M := by
  intro m
  induction m with
  | zero => intro h0; exact hH a b v ha hb (by omega) hv
  | succ m ih =>
    intro h0
    have i := ih (by omega)
    have h1 := hH (a + ((m + 1 : Nat) : Int)) b (v - ((m + 1 : Nat) : Int)) (by omega) hb (by omega) (by omega)
    have h2 := hH a (b + ((m + 1 : Nat) : Int)) (v - ((m + 1 : Nat) : Int)) ha (by omega) (by omega) (by omega)
    have e : Gf H a b v (m + 1) = max (max (Gf H a b v m) (H (a + ((m + 1 : Nat) : Int)) b (v - ((m + 1 : Nat) : Int)))) (H a (b + ((m + 1 : Nat) : Int)) (v - ((m + 1 : Nat) : Int))) := rfl
    rw [e]
    omega
theorem Bh_rng {b1 x1 b2 x2 : Int} (hp : VP b1 x1 b2 x2) : ∀ j : Nat, j ≤ 6 → ∀ a b v : Int, 0 ≤ a → 0 ≤ b → 0 ≤ v → a + b + v ≤ 12 → 0 ≤ Bh b1 x1 b2 x2 j a b v ∧ Bh b1 x1 b2 x2 j a b v ≤ Mb j := by
  intro j
  induction j with
  | zero => intro _ a b v _ _ _ _; exact ⟨Int.le_refl 0, Int.le_refl 0⟩
  | succ j ih =>
    intro hj a b v ha hb hv hs
    have i := ih (by omega)
    have r := Mb_rng (j := j) (by omega)
    have hF : ∀ x y : Int, 0 ≤ x → 0 ≤ y → x + y + v ≤ 12 → 0 ≤ Bf b1 x1 b2 x2 j x y v ∧ Bf b1 x1 b2 x2 j x y v ≤ Mb j := fun x y hx hy hs => Gf_rng i hx hy hs v.toNat (by omega)
    have T : ∀ p q : Int, 0 ≤ p → 0 ≤ q → 0 ≤ tm b1 x1 b2 x2 (100 ^ j) (Bf b1 x1 b2 x2 j) a b v p q ∧ tm b1 x1 b2 x2 (100 ^ j) (Bf b1 x1 b2 x2 j) a b v p q ≤ 100 * (12 * 100 ^ j + Mb j) := fun p q h0 h1 => by
      have s1 := sl_rng ha (w := b1 + p) (by have := hp.1; omega)
      have s2 := sl_rng hb (w := b2 + q) (by have := hp.2.2.1; omega)
      exact (tm_rng hp ha hb (by omega) h0 h1 (by omega) (hF _ _ (by omega) (by omega) (by omega))).2
    have t0 := T 0 0 (by decide) (by decide)
    have t1 := T 0 1 (by decide) (by decide)
    have t2 := T 1 0 (by decide) (by decide)
    have t3 := T 1 1 (by decide) (by decide)
    rw [Bh_succ]
    unfold HH
    show _ ∧ _ ≤ 400 * (12 * 100 ^ j + Mb j)
    omega
theorem Bf_rng {b1 x1 b2 x2 : Int} (hp : VP b1 x1 b2 x2) {j : Nat} (hj : j ≤ 6) {a b v : Int} (ha : 0 ≤ a) (hb : 0 ≤ b) (hv : 0 ≤ v) (hs : a + b + v ≤ 12) : 0 ≤ Bf b1 x1 b2 x2 j a b v ∧ Bf b1 x1 b2 x2 j a b v ≤ Mb j := Gf_rng (Bh_rng hp j hj) ha hb hs v.toNat (by omega)
theorem Gf_zero (a b v : Int) : ∀ m : Nat, Gf (fun _ _ _ => 0) a b v m = 0 := by
  intro m
  induction m with
  | zero => rfl
  | succ m ih =>
    show max (max (Gf (fun _ _ _ => 0) a b v m) 0) 0 = 0
    rw [ih]
    rfl
/-- cells -/
def ix (a b v : Int) : Int := 169 * a + 13 * b + v
def dom (P V a b v : Int) : Prop := 0 ≤ a ∧ 0 ≤ b ∧ 0 ≤ v ∧ v ≤ V ∧ a + b + v ≤ P
/-- three loops that fill the cells of a domain -/
theorem fill3 {α : Type} (q P V : Int) (val : Int → Int → Int → Int) (Good : SG → Prop) (L1 : Int → SG → α) (L2 : Int → Int → SG → α) (L3 : Int → Int → Int → SG → α) (dn : SG → α) (hP : 0 ≤ P ∧ P ≤ 12) (hV : 0 ≤ V ∧ V ≤ 12)
    (h1 : ∀ a s, Good s → 0 ≤ a → a ≤ P + 1 → L1 a s = if P < a then dn s else L2 a 0 s)
    (h2 : ∀ a b s, Good s → 0 ≤ a → 0 ≤ b → a ≤ P → a + b ≤ P + 1 → L2 a b s = if P < a + b then L1 (a + 1) s else L3 a b 0 s)
    (h3 : ∀ a b v s, Good s → 0 ≤ a → 0 ≤ b → a + b ≤ P → 0 ≤ v → v ≤ 13 → ¬ dom P V a b v → L3 a b v s = L2 a (b + 1) s)
    (h4 : ∀ a b v s, Good s → dom P V a b v → ∃ s', L3 a b v s = L3 a b (v + 1) s' ∧ Good s' ∧ ∀ i, s' q i = if i = ix a b v then val a b v else s q i) :
    ∀ s, Good s → ∃ s', L1 0 s = dn s' ∧ Good s' ∧ ∀ a b v, dom P V a b v → s' q (ix a b v) = val a b v := by
  have A : ∀ (n : Nat) (a b v : Int) (s : SG), Good s → 0 ≤ a → 0 ≤ b → a + b ≤ P → 0 ≤ v → v + n = 13 → ∃ s', L3 a b v s = L2 a (b + 1) s' ∧ Good s' ∧ (∀ w, v ≤ w → dom P V a b w → s' q (ix a b w) = val a b w) ∧ ∀ i, (∀ w, v ≤ w → dom P V a b w → i ≠ ix a b w) → s' q i = s q i := by
    intro n
    induction n with
    | zero =>
      intro a b v s hG ha hb hab hv hn
      refine ⟨s, h3 a b v s hG ha hb hab hv (by omega) (fun d => by unfold dom at d; omega), hG, fun w hw d => ?_, fun _ _ => rfl⟩
      unfold dom at d
      omega
    | succ n ih =>
      intro a b v s hG ha hb hab hv hn
      by_cases d : dom P V a b v
      · obtain ⟨s1, e1, e2, e3⟩ := h4 a b v s hG d
        obtain ⟨s', i1, i2, i3, i4⟩ := ih a b (v + 1) s1 e2 ha hb hab (by omega) (by omega)
        refine ⟨s', e1.trans i1, i2, fun w hw dw => ?_, fun i hi => ?_⟩
        · by_cases z : w = v
          · subst z
            rw [i4 _ (fun u hu _ => by unfold ix; omega), e3, if_pos rfl]
          · exact i3 w (by omega) dw
        · rw [i4 i (fun w hw dw => hi w (by omega) dw), e3, if_neg (hi v (Int.le_refl v) d)]
      · refine ⟨s, h3 a b v s hG ha hb hab hv (by omega) d, hG, fun w hw dw => ?_, fun _ _ => rfl⟩
        unfold dom at d dw
        omega
  have B : ∀ (n : Nat) (a b : Int) (s : SG), Good s → 0 ≤ a → 0 ≤ b → a ≤ P → a + b + n = P + 1 → ∃ s', L2 a b s = L1 (a + 1) s' ∧ Good s' ∧ (∀ y w, b ≤ y → dom P V a y w → s' q (ix a y w) = val a y w) ∧ ∀ i, (∀ y w, b ≤ y → dom P V a y w → i ≠ ix a y w) → s' q i = s q i := by
    intro n
    induction n with
    | zero =>
      intro a b s hG ha hb haP hn
      refine ⟨s, ?_, hG, fun y w hy d => ?_, fun _ _ => rfl⟩
      · rw [h2 a b s hG ha hb haP (by omega), if_pos (by omega)]
      · unfold dom at d
        omega
    | succ n ih =>
      intro a b s hG ha hb haP hn
      obtain ⟨s1, e1, e2, e3, e4⟩ := A 13 a b 0 s hG ha hb (by omega) (Int.le_refl 0) (by decide)
      obtain ⟨s', i1, i2, i3, i4⟩ := ih a (b + 1) s1 e2 ha (by omega) haP (by omega)
      refine ⟨s', ?_, i2, fun y w hy d => ?_, fun i hi => ?_⟩
      · rw [h2 a b s hG ha hb haP (by omega), if_neg (by omega), e1, i1]
      · by_cases z : y = b
        · subst z
          rw [i4 _ (fun y' w' hy' d' => by unfold dom at d d'; unfold ix; omega)]
          exact e3 w (by unfold dom at d; omega) d
        · exact i3 y w (by omega) d
      · rw [i4 i (fun y w hy d => hi y w (by omega) d)]
        exact e4 i (fun w hw d => hi b w (Int.le_refl b) d)
  have C : ∀ (n : Nat) (a : Int) (s : SG), Good s → 0 ≤ a → a + n = P + 1 → ∃ s', L1 a s = dn s' ∧ Good s' ∧ (∀ x y w, a ≤ x → dom P V x y w → s' q (ix x y w) = val x y w) ∧ ∀ i, (∀ x y w, a ≤ x → dom P V x y w → i ≠ ix x y w) → s' q i = s q i := by
    intro n
    induction n with
    | zero =>
      intro a s hG ha hn
      refine ⟨s, ?_, hG, fun x y w hx d => ?_, fun _ _ => rfl⟩
      · rw [h1 a s hG ha (by omega), if_pos (by omega)]
      · unfold dom at d
        omega
    | succ n ih =>
      intro a s hG ha hn
      obtain ⟨s1, e1, e2, e3, e4⟩ := B (P + 1 - a).toNat a 0 s hG ha (Int.le_refl 0) (by omega) (by omega)
      obtain ⟨s', i1, i2, i3, i4⟩ := ih (a + 1) s1 e2 (by omega) (by omega)
      refine ⟨s', ?_, i2, fun x y w hx d => ?_, fun i hi => ?_⟩
      · rw [h1 a s hG ha (by omega), if_neg (by omega), e1, i1]
      · by_cases z : x = a
        · subst z
          rw [i4 _ (fun x' y' w' hx' d' => by unfold dom at d d'; unfold ix; omega)]
          exact e3 y w (by unfold dom at d; omega) d
        · exact i3 x y w (by omega) d
      · rw [i4 i (fun x y w hx d => hi x y w (by omega) d)]
        exact e4 i (fun y w hy d => hi a y w (Int.le_refl a) d)
  intro s hG
  obtain ⟨s', e1, e2, e3, e4⟩ := C (P + 1).toNat 0 s hG (Int.le_refl 0) (by omega)
  exact ⟨s', e1, e2, fun a b v d => e3 a b v d.1 d⟩

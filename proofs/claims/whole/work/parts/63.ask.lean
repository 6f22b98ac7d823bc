/-! ask -/
abbrev eqp (s : SG) (c o k : Int) : Prop := 0 < Wt s o ∧ s 58 (10 + 3 * c + o) = s 58 (10 + 3 * c + k) ∧ s 58 (19 + 3 * c + o) = s 58 (19 + 3 * c + k)
abbrev fr0 (s : SG) : Prop := 0 < Wt s 0
abbrev fr1 (s : SG) (c : Int) : Prop := 0 < Wt s 1 ∧ ¬ eqp s c 0 1
abbrev fr2 (s : SG) (c : Int) : Prop := 0 < Wt s 2 ∧ ¬ eqp s c 0 2 ∧ ¬ eqp s c 1 2
/-- how many kinds that weigh are unlike each other at a corner -/
def Un (s : SG) (c : Int) : Int := (if fr0 s then 1 else 0) + (if fr1 s c then 1 else 0) + (if fr2 s c then 1 else 0)
theorem Un_rng (s : SG) (c : Int) : 0 ≤ Un s c ∧ Un s c ≤ 3 := by
  unfold Un
  repeat' split
  all_goals omega
theorem l_like {s : SG} (h : Inv s) {c o k : Int} (hc : 0 ≤ c ∧ c < 3) (hk : 0 ≤ k ∧ k < 3) (ho : 0 ≤ o ∧ o < k) : sem 73 3 [aA 10, aA (s 0 9), aI c, aI k, aI o] [] s = if eqp s c o k then some (aI 1, s) else sem 73 3 [aA 10, aA (s 0 9), aI c, aI k, aI (o + 1)] [] s := by
  rw [g73_3 h.th h.1, if_pos ho.2, c_weightC h (by omega), bnL_some, w32_id (a := o + 1) (by omega) (by omega)]
  by_cases q1 : 0 < Wt s o
  · rw [if_pos (cmpL_gt0.mpr q1), h.coI hc (by omega), bnI_some, h.coI hc hk, bnI_some]
    by_cases q2 : s 58 (10 + 3 * c + o) = s 58 (10 + 3 * c + k)
    · rw [if_pos q2, h.teI hc (by omega), bnI_some, h.teI hc hk, bnI_some]
      by_cases q3 : s 58 (19 + 3 * c + o) = s 58 (19 + 3 * c + k)
      · rw [if_pos q3, if_pos ⟨q1, q2, q3⟩]
      · rw [if_neg q3, if_neg (fun y => q3 y.2.2)]
    · rw [if_neg q2, if_neg (fun y => q2 y.2.1)]
  · rw [if_neg (fun u => q1 (cmpL_gt0.mp u)), if_neg (fun y => q1 y.1)]
theorem l_likee {s : SG} (h : Inv s) (c k : Int) : sem 73 3 [aA 10, aA (s 0 9), aI c, aI k, aI k] [] s = some (aI 0, s) := by
  rw [g73_3 h.th h.1, if_neg (by omega)]
theorem l_unl {s : SG} (h : Inv s) {c k n : Int} {p : Prop} [Decidable p] (hk : 0 ≤ k ∧ k < 3) (hn : 0 ≤ n ∧ n < 9) (hl : sem 73 0 [aA 10, aA (s 0 9), aI c, aI k, aU] [] s = some (aI (if p then 1 else 0), s)) : sem 72 5 [aA 10, aA (s 0 9), aI c, aI n, aI k] [] s = sem 72 5 [aA 10, aA (s 0 9), aI c, aI (n + if 0 < Wt s k ∧ ¬ p then 1 else 0), aI (k + 1)] [] s := by
  rw [g72_5 h.th h.1, if_pos hk.2, c_weightC h hk, bnL_some, w32_id (a := k + 1) (by omega) (by omega), w32_id (a := n + 1) (by omega) (by omega)]
  by_cases q1 : 0 < Wt s k
  · rw [if_pos (cmpL_gt0.mpr q1), hl, bnI_some]
    by_cases q2 : p
    · rw [if_pos q2, if_neg (by decide), if_neg (fun y => y.2 q2), Int.add_zero]
    · rw [if_neg q2, if_pos rfl, if_pos ⟨q1, q2⟩]
  · rw [if_neg (fun u => q1 (cmpL_gt0.mp u)), if_neg (fun y => q1 y.1), Int.add_zero]
theorem c_unlikeAt {s : SG} (h : Inv s) {c : Int} (hc : 0 ≤ c ∧ c < 3) : sem 72 0 [aA 10, aA (s 0 9), aI c, aU, aU] [] s = some (aI (Un s c), s) := by
  have l0 : sem 73 0 [aA 10, aA (s 0 9), aI c, aI 0, aU] [] s = some (aI (if False then 1 else 0), s) := by
    rw [g73_0 h.th h.1, l_likee h]
    rfl
  have l1 : sem 73 0 [aA 10, aA (s 0 9), aI c, aI 1, aU] [] s = some (aI (if eqp s c 0 1 then 1 else 0), s) := by
    rw [g73_0 h.th h.1, l_like h hc (by decide) (by decide), show (0 : Int) + 1 = 1 from rfl, l_likee h]
    by_cases y : eqp s c 0 1
    · rw [if_pos y, if_pos y]
    · rw [if_neg y, if_neg y]
  have l2 : sem 73 0 [aA 10, aA (s 0 9), aI c, aI 2, aU] [] s = some (aI (if eqp s c 0 2 ∨ eqp s c 1 2 then 1 else 0), s) := by
    rw [g73_0 h.th h.1, l_like h hc (by decide) (by decide), show (0 : Int) + 1 = 1 from rfl, l_like h hc (by decide) (by decide), show (1 : Int) + 1 = 2 from rfl, l_likee h]
    by_cases y : eqp s c 0 2
    · rw [if_pos y, if_pos (Or.inl y)]
    · rw [if_neg y]
      by_cases x : eqp s c 1 2
      · rw [if_pos x, if_pos (Or.inr x)]
      · rw [if_neg x, if_neg (fun u => u.elim y x)]
  have r0 : 0 ≤ (if 0 < Wt s 0 ∧ ¬ False then 1 else 0 : Int) ∧ (if 0 < Wt s 0 ∧ ¬ False then 1 else 0 : Int) ≤ 1 := by split <;> decide
  have r1 : 0 ≤ (if 0 < Wt s 1 ∧ ¬ eqp s c 0 1 then 1 else 0 : Int) ∧ (if 0 < Wt s 1 ∧ ¬ eqp s c 0 1 then 1 else 0 : Int) ≤ 1 := by split <;> decide
  rw [g72_0 h.th h.1, l_unl h (by decide) (by decide) l0, show (0 : Int) + 1 = 1 from rfl, l_unl h (by decide) (by omega) l1, show (1 : Int) + 1 = 2 from rfl, l_unl h (by decide) (by omega) l2, g72_5 h.th h.1, if_neg (by decide)]
  have e0 : (if 0 < Wt s 0 ∧ ¬ False then 1 else 0 : Int) = if fr0 s then 1 else 0 := by
    by_cases y : 0 < Wt s 0
    · rw [if_pos ⟨y, id⟩, if_pos y]
    · rw [if_neg (fun u => y u.1), if_neg y]
  have e2 : (if 0 < Wt s 2 ∧ ¬ (eqp s c 0 2 ∨ eqp s c 1 2) then 1 else 0 : Int) = if fr2 s c then 1 else 0 := by
    by_cases y : fr2 s c
    · rw [if_pos y, if_pos ⟨y.1, fun u => u.elim y.2.1 y.2.2⟩]
    · rw [if_neg y, if_neg (fun u => y ⟨u.1, fun v => u.2 (Or.inl v), fun v => u.2 (Or.inr v)⟩)]
  rw [e0, e2, Int.zero_add]
  rfl
theorem c_pair {s : SG} (h : Inv s) {c k : Int} (hc : 0 ≤ c ∧ c < 3) (hk : 0 ≤ k ∧ k < 3) : sem 185 0 [aA 56, aI c, aI k] [] s = some (aI (10 * s 58 (10 + 3 * c + k) + s 58 (19 + 3 * c + k)), s) := by
  obtain ⟨rb, rx⟩ := h.bI hc hk
  have wb : w32 (w32 (10 + w32 (3 * c)) + k) = 10 + 3 * c + k := by
    rw [w32_id (a := 3 * c) (by omega) (by omega), w32_id (a := 10 + 3 * c) (by omega) (by omega), w32_id (by omega) (by omega)]
  have wx : w32 (w32 (19 + w32 (3 * c)) + k) = 19 + 3 * c + k := by
    rw [w32_id (a := 3 * c) (by omega) (by omega), w32_id (a := 19 + 3 * c) (by omega) (by omega), w32_id (by omega) (by omega)]
  rw [g185_0 h.1, wb, wx, g_t (by omega), g_t (by omega), w32_id (a := 10 * s 58 (10 + 3 * c + k)) (by omega) (by omega), w32_id (by omega) (by omega)]
/-- one earlier kind o, in the reference -/
theorem l_ask61 {s : SG} (h : Inv s) {c o k a b n : Int} {p : Prop} [Decidable p] (hc : 0 ≤ c ∧ c < 3) (hk : 0 ≤ k ∧ k < 3) (ho : 0 ≤ o ∧ o < k) : sem 186 61 [aA 56, aI a, aI b, aI c, aI n, aI k, aI (if p then 1 else 0), aI o] [] s = sem 186 61 [aA 56, aI a, aI b, aI c, aI n, aI k, aI (if p ∧ ¬ eqp s c o k then 1 else 0), aI (o + 1)] [] s := by
  have rw0 := Wt_rng h (k := o) (by omega)
  obtain ⟨rb, rx⟩ := h.bI hc hk
  obtain ⟨rb', rx'⟩ := h.bI hc (k := o) (by omega)
  rw [g186_61 h.1, if_pos ho.2, w32_id (a := o + 1) (by omega) (by omega)]
  by_cases q1 : p
  · rw [if_pos q1, if_neg (by decide), c_weight9 h (by omega), bnL_some]
    by_cases q2 : Wt s o = 0
    · rw [if_pos (cmpL_eq0.mpr q2), if_pos ⟨q1, fun y => by have := y.1; omega⟩]
    · rw [if_neg (fun u => q2 (cmpL_eq0.mp u)), c_pair h hc (by omega), bnI_some, c_pair h hc hk, bnI_some]
      by_cases q3 : s 58 (10 + 3 * c + o) = s 58 (10 + 3 * c + k) ∧ s 58 (19 + 3 * c + o) = s 58 (19 + 3 * c + k)
      · rw [if_pos (by omega), if_neg (fun y => y.2 ⟨by omega, q3⟩)]
      · rw [if_neg (by omega), if_pos ⟨q1, fun y => q3 y.2⟩]
  · rw [if_neg q1, if_pos rfl, if_neg (fun y => q1 y.1)]
theorem l_ask61e {s : SG} (h : Inv s) {c k a b n : Int} {p : Prop} [Decidable p] (hk : 0 ≤ k ∧ k < 3) (hn : 0 ≤ n ∧ n < 9) : sem 186 61 [aA 56, aI a, aI b, aI c, aI n, aI k, aI (if p then 1 else 0), aI k] [] s = sem 186 34 [aA 56, aI a, aI b, aI c, aI (n + if p then 1 else 0), aI (k + 1), aU, aU] [] s := by
  rw [g186_61 h.1, if_neg (by omega), w32_id (a := k + 1) (by omega) (by omega)]
  by_cases q1 : p
  · rw [if_pos q1, if_neg (by decide), w32_id (by omega) (by omega)]
  · rw [if_neg q1, if_pos rfl, w32_id (by omega) (by omega)]
theorem l_ask34 {s : SG} (h : Inv s) {c k a b n : Int} (hk : 0 ≤ k ∧ k < 3) : sem 186 34 [aA 56, aI a, aI b, aI c, aI n, aI k, aU, aU] [] s = sem 186 61 [aA 56, aI a, aI b, aI c, aI n, aI k, aI (if 0 < Wt s k then 1 else 0), aI 0] [] s := by
  rw [g186_34 h.1, if_pos hk.2, c_weight9 h hk, bnL_some]
  by_cases q : 0 < Wt s k
  · rw [if_pos q, if_pos (cmpL_gt0.mpr q)]
  · rw [if_neg q, if_neg (fun u => q (cmpL_gt0.mp u))]
theorem l_askN {s : SG} (h : Inv s) {c a b : Int} (hc : 0 ≤ c ∧ c < 3) : sem 186 34 [aA 56, aI a, aI b, aI c, aI 0, aI 0, aU, aU] [] s = sem 186 18 [aA 56, aI (if b < Un s c then c else a), aI (if b < Un s c then Un s c else b), aI (c + 1), aU, aU, aU, aU] [] s := by
  have r0 : 0 ≤ (if fr0 s then 1 else 0 : Int) ∧ (if fr0 s then 1 else 0 : Int) ≤ 1 := by split <;> decide
  have r1 : 0 ≤ (if fr1 s c then 1 else 0 : Int) ∧ (if fr1 s c then 1 else 0 : Int) ≤ 1 := by split <;> decide
  have e2 : (if (0 < Wt s 2 ∧ ¬ eqp s c 0 2) ∧ ¬ eqp s c 1 2 then 1 else 0 : Int) = if fr2 s c then 1 else 0 := by
    by_cases y : fr2 s c
    · rw [if_pos y, if_pos ⟨⟨y.1, y.2.1⟩, y.2.2⟩]
    · rw [if_neg y, if_neg (fun u => y ⟨u.1.1, u.1.2, u.2⟩)]
  rw [l_ask34 h (by decide), l_ask61e h (p := 0 < Wt s 0) (by decide) (by decide), show (0 : Int) + 1 = 1 from rfl]
  rw [l_ask34 h (by decide), l_ask61 h (p := 0 < Wt s 1) hc (by decide) (by decide), show (0 : Int) + 1 = 1 from rfl, l_ask61e h (p := 0 < Wt s 1 ∧ ¬ eqp s c 0 1) (by decide) (by omega), show (1 : Int) + 1 = 2 from rfl]
  rw [l_ask34 h (by decide), l_ask61 h (p := 0 < Wt s 2) hc (by decide) (by decide), show (0 : Int) + 1 = 1 from rfl, l_ask61 h (p := 0 < Wt s 2 ∧ ¬ eqp s c 0 2) hc (by decide) (by decide), show (1 : Int) + 1 = 2 from rfl, l_ask61e h (p := (0 < Wt s 2 ∧ ¬ eqp s c 0 2) ∧ ¬ eqp s c 1 2) (by decide) (by omega), show (2 : Int) + 1 = 3 from rfl]
  rw [g186_34 h.1, if_neg (by decide), e2, Int.zero_add, w32_id (a := c + 1) (by omega) (by omega)]
  rfl
def bU (s : SG) : Nat → Int
  | 0 => 0
  | c + 1 => if Un s (bU s c) < Un s ((c + 1 : Nat) : Int) then ((c + 1 : Nat) : Int) else bU s c
theorem bU_rng (s : SG) : ∀ c : Nat, 0 ≤ bU s c ∧ bU s c ≤ c := by
  intro c
  induction c with
  | zero => exact ⟨Int.le_refl 0, Int.le_refl 0⟩
  | succ c ih =>
    show 0 ≤ (if Un s (bU s c) < Un s ((c + 1 : Nat) : Int) then ((c + 1 : Nat) : Int) else bU s c) ∧ (if Un s (bU s c) < Un s ((c + 1 : Nat) : Int) then ((c + 1 : Nat) : Int) else bU s c) ≤ ((c + 1 : Nat) : Int)
    split <;> omega
theorem l_muC {s : SG} (h : Inv s) {n : Nat} (hn : s 58 0 = ((n + 1 : Nat) : Int)) : ∀ (m c : Nat), c + m = n → sem 71 4 [aA 10, aA (s 0 9), aI (bU s c), aI ((c + 1 : Nat) : Int)] [] s = some (aI (bU s n), s) := by
  have n3 := h.tg.1
  have e4 := h.t4
  intro m
  induction m with
  | zero =>
    intro c hc
    have : c = n := by omega
    subst this
    rw [g71_4 h.th h.1, e4, hn, if_neg (by omega)]
  | succ m ih =>
    intro c hc
    have r := bU_rng s c
    have w : w32 (((c + 1 : Nat) : Int) + 1) = ((c + 1 + 1 : Nat) : Int) := by rw [w32_id (by omega) (by omega)]; omega
    have i := ih (c + 1) (by omega)
    have e : bU s (c + 1) = if Un s (bU s c) < Un s ((c + 1 : Nat) : Int) then ((c + 1 : Nat) : Int) else bU s c := rfl
    rw [g71_4 h.th h.1, e4, hn, if_pos (by omega), c_unlikeAt h (by omega), bnI_some, c_unlikeAt h (by omega), bnI_some, w]
    by_cases q : Un s (bU s c) < Un s ((c + 1 : Nat) : Int)
    · rw [if_pos q]
      rw [e, if_pos q] at i
      exact i
    · rw [if_neg q]
      rw [e, if_neg q] at i
      exact i
theorem l_mu9 {s : SG} (h : Inv s) {n : Nat} (hn : s 58 0 = ((n + 1 : Nat) : Int)) : ∀ (m c : Nat), c + m = n → sem 186 18 [aA 56, aI (bU s c), aI (Un s (bU s c)), aI ((c + 1 : Nat) : Int), aU, aU, aU, aU] [] s = some (aI (bU s n), s) := by
  have n3 := h.tg.1
  intro m
  induction m with
  | zero =>
    intro c hc
    have : c = n := by omega
    subst this
    rw [g186_18 h.1, hn, if_neg (by omega)]
  | succ m ih =>
    intro c hc
    have r := bU_rng s c
    have i := ih (c + 1) (by omega)
    have e : bU s (c + 1) = if Un s (bU s c) < Un s ((c + 1 : Nat) : Int) then ((c + 1 : Nat) : Int) else bU s c := rfl
    rw [g186_18 h.1, hn, if_pos (by omega), l_askN h (by omega), show ((c + 1 : Nat) : Int) + 1 = ((c + 1 + 1 : Nat) : Int) from by omega]
    by_cases q : Un s (bU s c) < Un s ((c + 1 : Nat) : Int)
    · rw [if_pos q, if_pos q]
      rw [e, if_pos q] at i
      exact i
    · rw [if_neg q, if_neg q]
      rw [e, if_neg q] at i
      exact i
theorem q_ask {s : SG} (h : Inv s) : ∃ r s1 s2, sem 119 0 [aA 0] [] s = some (aI r, s1) ∧ sem 186 0 [aA 56, aU, aU, aU, aU, aU, aU, aU] [] s1 = some (aI r, s2) ∧ Inv s2 := by
  have n3 := h.tg.1
  by_cases z : aW s = 0
  · refine ⟨-3, s, s, ?_, ?_, h⟩
    · rw [g119_0 h.th h.1 h.tw, c_allWC h, bnL_some, if_pos (cmpL_eq0.mpr z)]
    · rw [g186_0 h.1, c_allW9 h, bnL_some, if_pos (cmpL_eq0.mpr z)]
  · obtain ⟨n, hn⟩ : ∃ n : Nat, s 58 0 = ((n + 1 : Nat) : Int) := ⟨(s 58 0 - 1).toNat, by omega⟩
    have c1 := l_muC h hn n 0 (by omega)
    have c2 := l_mu9 h hn n 0 (by omega)
    have u := Un_rng s 0
    refine ⟨bU s n, s, s, ?_, ?_, h⟩
    · rw [g119_0 h.th h.1 h.tw, c_allWC h, bnL_some, if_neg (fun y => z (cmpL_eq0.mp y)), g71_0 h.th h.1]
      have c1' : sem 71 4 [aA 10, aA (s 0 9), aI 0, aI 1] [] s = _ := c1
      rw [c1', bnI_some]
    · have c2' : sem 186 18 [aA 56, aI 0, aI (Un s 0), aI 1, aU, aU, aU, aU] [] s = _ := c2
      rw [g186_0 h.1, c_allW9 h, bnL_some, if_neg (fun y => z (cmpL_eq0.mp y)), g186_18 h.1, if_pos (by omega), l_askN h (by decide), show (0 : Int) + 1 = 1 from rfl]
      by_cases y : 0 < Un s 0
      · rw [if_pos y, if_pos y]
        exact c2'
      · have : Un s 0 = 0 := by omega
        rw [if_neg y, if_neg y]
        rw [this] at c2'
        exact c2'

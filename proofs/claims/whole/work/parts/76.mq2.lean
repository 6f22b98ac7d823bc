/-! mornings: sums; ended -/
def sN (f : Int → Int) : Nat → Int
  | 0 => 0
  | c + 1 => sN f c + f (c : Int)
theorem sN_rng {f : Int → Int} {M : Int} {n : Nat} (h : ∀ x : Int, 0 ≤ x → x < n → 0 ≤ f x ∧ f x ≤ M) : ∀ c : Nat, c ≤ n → 0 ≤ sN f c ∧ sN f c ≤ M * c := by
  intro c
  induction c with
  | zero => intro _; exact ⟨Int.le_refl 0, by show (0 : Int) ≤ M * ((0 : Nat) : Int); rw [show ((0 : Nat) : Int) = 0 from rfl, Int.mul_zero]; exact Int.le_refl 0⟩
  | succ c ih =>
    intro hc
    have i := ih (by omega)
    have r := h (c : Int) (by omega) (by omega)
    have e : sN f (c + 1) = sN f c + f (c : Int) := rfl
    have e2 : M * ((c + 1 : Nat) : Int) = M * (c : Int) + M := by
      rw [show ((c + 1 : Nat) : Int) = (c : Int) + 1 from by omega, Int.mul_add, Int.mul_one]
    rw [e, e2]
    omega
theorem sN_r3 {f : Int → Int} {M : Int} {n : Nat} (hn : n ≤ 3) (hM : 0 ≤ M) (h : ∀ x : Int, 0 ≤ x → x < n → 0 ≤ f x ∧ f x ≤ M) {c : Nat} (hc : c ≤ n) : 0 ≤ sN f c ∧ sN f c ≤ 3 * M := by
  have r := sN_rng h c hc
  have m := mul_rng (a := M) (A := M) (b := (c : Int)) (B := 3) (by omega) (by omega)
  omega
theorem sN_cg {f g : Int → Int} {n : Nat} (h : ∀ x : Int, 0 ≤ x → x < n → f x = g x) : ∀ c : Nat, c ≤ n → sN f c = sN g c := by
  intro c
  induction c with
  | zero => intro _; rfl
  | succ c ih =>
    intro hc
    show sN f c + f (c : Int) = sN g c + g (c : Int)
    rw [ih (by omega), h (c : Int) (by omega) (by omega)]
theorem sm3_sN {n : Nat} (hn : n ≤ 3) (f : Int → Int) : sm3 n f = sN f n := by
  have : n = 0 ∨ n = 1 ∨ n = 2 ∨ n = 3 := by omega
  unfold sm3
  rcases this with rfl | rfl | rfl | rfl
  · rw [if_neg (by decide), if_neg (by decide), if_neg (by decide)]
    rfl
  · rw [if_pos (by decide), if_neg (by decide), if_neg (by decide)]
    show f 0 + 0 + 0 = 0 + f 0
    omega
  · rw [if_pos (by decide), if_pos (by decide), if_neg (by decide)]
    show f 0 + f 1 + 0 = 0 + f 0 + f 1
    omega
  · rw [if_pos (by decide), if_pos (by decide), if_pos (by decide)]
    show f 0 + f 1 + f 2 = 0 + f 0 + f 1 + f 2
    omega
theorem c_soldInAll {s : SG} (hR : RefC s) {n : Nat} (hn : n ≤ 3) (h6 : s 23 6 = n) (hr : ∀ x : Int, 0 ≤ x → x < n → 0 ≤ s 29 x ∧ s 29 x ≤ 100000) : sem 59 0 [aA 23, aU, aU] [] s = some (aI (sN (s 29) n), s) := by
  have L : ∀ (m c : Nat), c + m = n → sem 59 4 [aA 23, aI (sN (s 29) c), aI (c : Int)] [] s = some (aI (sN (s 29) n), s) := by
    intro m
    induction m with
    | zero =>
      intro c hc
      have : c = n := by omega
      subst this
      rw [g59_4 hR, h6, if_neg (Int.lt_irrefl _)]
    | succ m ih =>
      intro c hc
      have cn : (c : Int) < n := by omega
      have c3 : 0 ≤ (c : Int) ∧ (c : Int) < 3 := by omega
      have r := sN_r3 hn (by decide) hr (c := c + 1) (by omega)
      have e : sN (s 29) (c + 1) = sN (s 29) c + s 29 (c : Int) := rfl
      have i := ih (c + 1) (by omega)
      rw [e] at r i
      have w1 : w32 (sN (s 29) c + s 29 (c : Int)) = sN (s 29) c + s 29 (c : Int) := w32_id (by omega) (by omega)
      have w2 : w32 ((c : Int) + 1) = ((c + 1 : Nat) : Int) := by clear w1; rw [w32_id (by omega) (by omega)]; omega
      rw [g59_4 hR, h6, if_pos cn, if_pos c3.2, g_t c3, w1, w2]
      exact i
  rw [g59_0 hR]
  exact L n 0 (by omega)
theorem c_leftAtCorners {s : SG} (hR : RefC s) {n : Nat} (hn : n ≤ 3) (h6 : s 23 6 = n) (hr : ∀ x : Int, 0 ≤ x → x < n → 0 ≤ s 28 x ∧ s 28 x ≤ 100000) : sem 60 0 [aA 23, aU, aU] [] s = some (aI (sN (s 28) n), s) := by
  have L : ∀ (m c : Nat), c + m = n → sem 60 4 [aA 23, aI (sN (s 28) c), aI (c : Int)] [] s = some (aI (sN (s 28) n), s) := by
    intro m
    induction m with
    | zero =>
      intro c hc
      have : c = n := by omega
      subst this
      rw [g60_4 hR, h6, if_neg (Int.lt_irrefl _)]
    | succ m ih =>
      intro c hc
      have cn : (c : Int) < n := by omega
      have c3 : 0 ≤ (c : Int) ∧ (c : Int) < 3 := by omega
      have r := sN_r3 hn (by decide) hr (c := c + 1) (by omega)
      have e : sN (s 28) (c + 1) = sN (s 28) c + s 28 (c : Int) := rfl
      have i := ih (c + 1) (by omega)
      rw [e] at r i
      have w1 : w32 (sN (s 28) c + s 28 (c : Int)) = sN (s 28) c + s 28 (c : Int) := w32_id (by omega) (by omega)
      have w2 : w32 ((c : Int) + 1) = ((c + 1 : Nat) : Int) := by clear w1; rw [w32_id (by omega) (by omega)]; omega
      rw [g60_4 hR, h6, if_pos cn, if_pos c3.2, g_t c3, w1, w2]
      exact i
  rw [g60_0 hR]
  exact L n 0 (by omega)
theorem c_allSold {s : SG} (hR : RefC s) {n : Nat} (hn : n ≤ 3) (h6 : s 58 0 = n) (hr : ∀ x : Int, 0 ≤ x → x < n → 0 ≤ s 73 (6 * x + 5) ∧ s 73 (6 * x + 5) ≤ 100000) : sem 208 0 [aA 56, aU, aU] [] s = some (aI (sN (fun x => s 73 (6 * x + 5)) n), s) := by
  have L : ∀ (m c : Nat), c + m = n → sem 208 4 [aA 56, aI (sN (fun x => s 73 (6 * x + 5)) c), aI (c : Int)] [] s = some (aI (sN (fun x => s 73 (6 * x + 5)) n), s) := by
    intro m
    induction m with
    | zero =>
      intro c hc
      have : c = n := by omega
      subst this
      rw [g208_4 hR, h6, if_neg (Int.lt_irrefl _)]
    | succ m ih =>
      intro c hc
      have cn : (c : Int) < n := by omega
      have r18 : 0 ≤ 6 * (c : Int) + 5 ∧ 6 * (c : Int) + 5 < 18 := by omega
      have r := sN_r3 (f := fun x => s 73 (6 * x + 5)) hn (by decide) hr (c := c + 1) (by omega)
      have e : sN (fun x => s 73 (6 * x + 5)) (c + 1) = sN (fun x => s 73 (6 * x + 5)) c + s 73 (6 * (c : Int) + 5) := rfl
      have i := ih (c + 1) (by omega)
      rw [e] at r i
      have w1 : w32 (sN (fun x => s 73 (6 * x + 5)) c + s 73 (6 * (c : Int) + 5)) = sN (fun x => s 73 (6 * x + 5)) c + s 73 (6 * (c : Int) + 5) := w32_id (by omega) (by omega)
      have w2 : w32 ((c : Int) + 1) = ((c + 1 : Nat) : Int) := by clear w1; rw [w32_id (by omega) (by omega)]; omega
      have w3 : w32 (w32 (6 * (c : Int)) + 5) = 6 * (c : Int) + 5 := by clear w1 w2; rw [w32_id (a := 6 * (c : Int)) (by omega) (by omega), w32_id (by omega) (by omega)]
      rw [g208_4 hR, h6, if_pos cn, w3, g_t r18, w1, w2]
      exact i
  rw [g208_0 hR]
  exact L n 0 (by omega)
theorem l_ended8 {s : SG} (hR : RefC s) {n : Nat} {w : Int} (hn : n ≤ 3) (h6 : s 58 0 = n) (hr : ∀ x : Int, 0 ≤ x → x < n → 0 ≤ s 72 (6 * x + 5) ∧ s 72 (6 * x + 5) ≤ 100000) : ∀ (m c : Nat), c + m = n → sem 210 8 [aA 56, aI w, aI (sN (fun x => s 72 (6 * x + 5)) c), aI (c : Int)] [] s = sem 210 8 [aA 56, aI w, aI (sN (fun x => s 72 (6 * x + 5)) n), aI (n : Int)] [] s := by
  intro m
  induction m with
  | zero =>
    intro c hc
    have : c = n := by omega
    subst this
    rfl
  | succ m ih =>
    intro c hc
    have cn : (c : Int) < n := by omega
    have r18 : 0 ≤ 6 * (c : Int) + 5 ∧ 6 * (c : Int) + 5 < 18 := by omega
    have r := sN_r3 (f := fun x => s 72 (6 * x + 5)) hn (by decide) hr (c := c + 1) (by omega)
    have e : sN (fun x => s 72 (6 * x + 5)) (c + 1) = sN (fun x => s 72 (6 * x + 5)) c + s 72 (6 * (c : Int) + 5) := rfl
    have i := ih (c + 1) (by omega)
    rw [e] at r i
    have w1 : w32 (sN (fun x => s 72 (6 * x + 5)) c + s 72 (6 * (c : Int) + 5)) = sN (fun x => s 72 (6 * x + 5)) c + s 72 (6 * (c : Int) + 5) := w32_id (by omega) (by omega)
    have w2 : w32 ((c : Int) + 1) = ((c + 1 : Nat) : Int) := by clear w1; rw [w32_id (by omega) (by omega)]; omega
    have w3 : w32 (w32 (6 * (c : Int)) + 5) = 6 * (c : Int) + 5 := by clear w1 w2; rw [w32_id (a := 6 * (c : Int)) (by omega) (by omega), w32_id (by omega) (by omega)]
    rw [g210_8 hR, h6, if_pos cn, w3, g_t r18, w1, w2]
    exact i
/-- what two runs that are alike have sold and left -/
theorem HR.sums {a b : SG} {n : Nat} (hA : RefC a) (hB : RefC b) (hn : n ≤ 3) (h58 : b 58 0 = n) (h : HR a b 6 n 480) : sem 59 0 [aA 23, aU, aU] [] a = some (aI (sN (a 29) n), a) ∧ sem 60 0 [aA 23, aU, aU] [] a = some (aI (sN (a 28) n), a) ∧ sem 208 0 [aA 56, aU, aU] [] b = some (aI (sN (a 29) n), b) ∧ (0 ≤ sN (a 29) n ∧ sN (a 29) n ≤ 18000) ∧ (0 ≤ sN (a 28) n ∧ sN (a 28) n ≤ 1440) ∧ (∀ x : Int, 0 ≤ x → x < n → 0 ≤ b 72 (6 * x + 5) ∧ b 72 (6 * x + 5) ≤ 100000) ∧ sN (fun x => b 72 (6 * x + 5)) n = sN (a 28) n ∧ (a 23 7 = b 56 33 ∧ 0 ≤ a 23 7 ∧ a 23 7 ≤ 60) := by
  have h6 : a 23 6 = n := h.1.2.2.2.trans h58
  have v := h.1.2.2.1
  have E := fun (x : Int) (x0 : 0 ≤ x) (x1 : x < n) => h.end ⟨x0, x1⟩
  have r28 : ∀ x : Int, 0 ≤ x → x < n → 0 ≤ a 28 x ∧ a 28 x ≤ 480 := fun x x0 x1 => by
    obtain ⟨o1, o2, o3⟩ := h.1.1 x x0 (by rw [h58]; exact x1)
    omega
  have r29 : ∀ x : Int, 0 ≤ x → x < n → 0 ≤ a 29 x ∧ a 29 x ≤ 6000 := fun x x0 x1 => (E x x0 x1).2.1
  have c1 := c_soldInAll hA hn h6 (fun x x0 x1 => by have := r29 x x0 x1; omega)
  have c2 := c_leftAtCorners hA hn h6 (fun x x0 x1 => by have := r28 x x0 x1; omega)
  have c3 := c_allSold hB hn h58 (fun x x0 x1 => by rw [← (E x x0 x1).1]; have := r29 x x0 x1; omega)
  rw [sN_cg (f := fun x => b 73 (6 * x + 5)) (g := a 29) (fun x x0 x1 => (E x x0 x1).1.symm) n (Nat.le_refl n)] at c3
  refine ⟨c1, c2, c3, sN_r3 hn (by decide) r29 (Nat.le_refl n), sN_r3 hn (by decide) r28 (Nat.le_refl n), fun x x0 x1 => by rw [← (E x x0 x1).2.2]; have := r28 x x0 x1; omega, sN_cg (f := fun x => b 72 (6 * x + 5)) (g := a 28) (fun x x0 x1 => (E x x0 x1).2.2.symm) n (Nat.le_refl n), h.1.2.1, v⟩
theorem q_ended {s : SG} (h : Inv s) (w : Int) : ∃ r s1 s2, sem 129 0 [aA 0, aI w] [] s = some (aI r, s1) ∧ sem 210 0 [aA 56, aI w, aU, aU] [] s1 = some (aI r, s2) ∧ Inv s2 := by
  have n3 := h.tg.1
  obtain ⟨n, hn⟩ : ∃ n : Nat, s 58 0 = n := ⟨(s 58 0).toNat, by omega⟩
  have hn3 : n ≤ 3 := by omega
  obtain ⟨s1, s2, e1, e2, I1, I2, e3, e4, e5⟩ := l_plainQ h hn
  have e58 : s1 58 = s 58 := funext fun i => e4 58 i (by omega)
  have f58 : s2 58 = s 58 := e5.k58.trans e58
  have n58 : s2 58 0 = n := by rw [f58]; exact hn
  obtain ⟨u1, u2, u3, u4, u5, u6, u7, u8⟩ := e3.sums I1.1 I2.1 hn3 n58
  have cr := l_ended8 (w := w) I2.1 hn3 n58 u6 n 0 (by omega)
  rw [u7] at cr
  have g9 : sem 209 0 [aA 56] [] s2 = _ := g209_0 I2.1
  by_cases q : 0 ≤ w ∧ w ≤ 4
  · have key : ∃ r, sem 129 0 [aA 0, aI w] [] s = some (aI r, s1) ∧ sem 210 8 [aA 56, aI w, aI (sN (s1 28) n), aI (n : Int)] [] s2 = some (aI r, s2) := by
      rw [g129_0 h.th h.1 h.tw, if_neg (by omega), if_neg (by omega), e1, bnV_some, g210_8 I2.1, n58, if_neg (Int.lt_irrefl _), u3, bnI_some, g9, bnI_some]
      have : w = 0 ∨ w = 1 ∨ w = 2 ∨ w = 3 ∨ w = 4 := by omega
      rcases this with rfl | rfl | rfl | rfl | rfl
      · refine ⟨sN (s1 29) n, ?_, ?_⟩
        · rw [if_pos rfl, u1, bnI_some]
        · rw [if_pos rfl, u3, bnI_some]
      · refine ⟨sN (s1 28) n, ?_, ?_⟩
        · rw [if_neg (by decide), if_pos rfl, u2, bnI_some]
        · rw [if_neg (by decide), if_pos rfl]
      · refine ⟨s1 23 7, ?_, ?_⟩
        · rw [if_neg (by decide), if_neg (by decide), if_pos rfl, g61_0 I1.1, bnI_some]
        · rw [if_neg (by decide), if_neg (by decide), if_pos rfl, u8.1]
      · refine ⟨s1 23 8, ?_, ?_⟩
        · rw [if_neg (by decide), if_neg (by decide), if_neg (by decide), if_pos rfl, g62_0 I1.1, bnI_some]
        · rw [if_neg (by decide), if_neg (by decide), if_neg (by decide), if_pos rfl, e3.2.1.1]
      · have t9 : s 0 9 = s1 0 9 := e4.k09.symm
        have go := c_givenOut (k := 16) (Or.inl rfl) I1.1
        rw [show (16 : Int) + 1 = 17 from rfl, e4 17 0 (by omega), e4 17 1 (by omega), e4 17 2 (by omega)] at go
        obtain ⟨m1, m2, m3, m4, m5⟩ := h.mo.2.2.2
        have g0 := m2 0 (by decide) (by decide)
        have g1 := m2 1 (by decide) (by decide)
        have g2 := m2 2 (by decide) (by decide)
        rw [g0.1, g1.1, g2.1] at go
        have k66 : s2 66 = s 66 := funext fun i => (e5 66 i (by omega)).trans (e4 66 i (by omega))
        have k19 : s2 56 19 = s 56 19 := (e5 56 19 (by omega)).trans (e4 56 19 (by omega))
        have k167 : s1 16 7 = s 56 19 := (e4 16 7 (by omega)).trans m3.1
        have wg : w32 (w32 (s 66 0 + s 66 1) + s 66 2) = s 66 0 + s 66 1 + s 66 2 := by
          rw [w32_id (a := s 66 0 + s 66 1) (by omega) (by omega), w32_id (by omega) (by omega)]
        rw [wg] at go
        have rG : 0 ≤ s 66 0 + s 66 1 + s 66 2 ∧ s 66 0 + s 66 1 + s 66 2 ≤ 180 := by clear wg go g9; omega
        obtain ⟨G, hG⟩ : ∃ G, G = s 66 0 + s 66 1 + s 66 2 := ⟨_, rfl⟩
        rw [← hG] at rG wg go
        clear hG g0 g1 g2
        have t5 := I1.t567
        rw [← t9, e58] at t5
        have r4 := h.tg.2.2.1 4 (by decide) (by decide)
        have r5 := h.tg.2.2.1 5 (by decide) (by decide)
        have r6 := h.tg.2.2.1 6 (by decide) (by decide)
        obtain ⟨S, hS⟩ : ∃ S, S = sN (s1 29) n := ⟨_, rfl⟩
        obtain ⟨L, hL⟩ : ∃ L, L = sN (s1 28) n := ⟨_, rfl⟩
        obtain ⟨V, hV⟩ : ∃ V, V = s1 23 7 := ⟨_, rfl⟩
        rw [← hS] at u1 u3 u4
        rw [← hL] at u2 u5
        rw [← hV] at u8
        have p1 := mul_rng u4 r5
        have p2 := mul_rng (a := L + V) (A := 1500) (by omega) r6
        have p3 := mul_rng (a := G + s 56 19) (A := 240) (by omega) r4
        have v1 : w32 (S * s 58 5) = S * s 58 5 := w32_id (by omega) (by omega)
        have v2 : w32 (L + V) = L + V := by clear v1 wg; exact w32_id (by omega) (by omega)
        have v3 : w32 ((L + V) * s 58 6) = (L + V) * s 58 6 := by clear v1 v2 wg; exact w32_id (by omega) (by omega)
        have v4 : w32 (G + s 56 19) = G + s 56 19 := by clear v1 v2 v3 wg; exact w32_id (by omega) (by omega)
        have v5 : w32 ((G + s 56 19) * s 58 4) = (G + s 56 19) * s 58 4 := by clear v1 v2 v3 v4 wg; exact w32_id (by omega) (by omega)
        have v6 : w32 (S * s 58 5 + (L + V) * s 58 6) = S * s 58 5 + (L + V) * s 58 6 := by clear v1 v2 v3 v4 v5 wg; exact w32_id (by omega) (by omega)
        have v7 : w32 (S * s 58 5 + (L + V) * s 58 6 - (G + s 56 19) * s 58 4) = S * s 58 5 + (L + V) * s 58 6 - (G + s 56 19) * s 58 4 := by clear v1 v2 v3 v4 v5 v6 wg; exact w32_id (by omega) (by omega)
        have v8 : w32 (100000 + S * s 58 5) = 100000 + S * s 58 5 := by clear v1 v2 v3 v4 v5 v6 v7 wg; exact w32_id (by omega) (by omega)
        have v9 : w32 (100000 + S * s 58 5 + (L + V) * s 58 6) = 100000 + S * s 58 5 + (L + V) * s 58 6 := by clear v1 v2 v3 v4 v5 v6 v7 v8 wg; exact w32_id (by omega) (by omega)
        refine ⟨w32 (S * s 58 5 + (L + V) * s 58 6 - (G + s 56 19) * s 58 4 + 100000), ?_, ?_⟩
        · rw [if_neg (by decide), if_neg (by decide), if_neg (by decide), if_neg (by decide), g63_0 h.th I1.1, u2, bnI_some, go, bnI_some, u1, bnI_some, t5.1, t5.2.1, t5.2.2, k167, ← hV, bnI_some, v1, v2, v3, v4, v5, v6, v7]
        · rw [if_neg (by decide), if_neg (by decide), if_neg (by decide), if_neg (by decide), if_pos rfl, ← hL, ← hS, ← u8.1, k66, k19, f58, wg, v1, v2, v3, v4, v5, v8, v9]
          have : 100000 + S * s 58 5 + (L + V) * s 58 6 - (G + s 56 19) * s 58 4 = S * s 58 5 + (L + V) * s 58 6 - (G + s 56 19) * s 58 4 + 100000 := by
            clear v1 v2 v3 v4 v5 v6 v7 v8 v9 wg
            omega
          rw [this]
    obtain ⟨r, k1, k2⟩ := key
    refine ⟨r, s1, s2, k1, ?_, I2⟩
    rw [g210_0 I1.1, e2, bnV_some]
    exact cr.trans k2
  · obtain ⟨a1, b1, -, d2, -, -, d5, -, d7, -⟩ := l_plain h.mo hn
    have J := h.wr d7
    have nb : b1 58 0 = n := by rw [d7.k58]; exact hn
    have E := fun (x : Int) (x0 : 0 ≤ x) (x1 : x < n) => d5.end ⟨x0, x1⟩
    have r28 : ∀ x : Int, 0 ≤ x → x < n → 0 ≤ b1 72 (6 * x + 5) ∧ b1 72 (6 * x + 5) ≤ 100000 := fun x x0 x1 => by
      obtain ⟨o1, o2, o3⟩ := d5.1.1 x x0 (by rw [nb]; exact x1)
      have v := d5.1.2.2.1
      rw [← (E x x0 x1).2.2]
      omega
    have c3 := c_allSold J.1 hn3 nb (fun x x0 x1 => by rw [← (E x x0 x1).1]; have := (E x x0 x1).2.1; omega)
    have cr := l_ended8 (w := w) J.1 hn3 nb r28 n 0 (by omega)
    refine ⟨-2, s, b1, ?_, ?_, J⟩
    · rw [g129_0 h.th h.1 h.tw]
      by_cases z : w < 0
      · rw [if_pos z]
      · rw [if_neg z, if_pos (by omega)]
    · rw [g210_0 h.1, d2, bnV_some]
      refine cr.trans ?_
      rw [g210_8 J.1, nb, if_neg (Int.lt_irrefl _), c3, bnI_some, g209_0 J.1, bnI_some, if_neg (by omega), if_neg (by omega), if_neg (by omega), if_neg (by omega), if_neg (by omega)]

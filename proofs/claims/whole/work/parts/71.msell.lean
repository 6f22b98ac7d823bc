/-! mornings: a corner in a half hour -/
def gs (b : SG) (j y : Int) : Nat → Int
  | 0 => 0
  | f + 1 => gs b j y f + if b 58 (7 + (f : Int)) = y then b 75 (6 * (f : Int) + j) else 0
def WB (j : Int) : Int := if j ≤ 0 then 5 else if j = 1 then 20 else if j = 2 then 65 else if j = 3 then 200 else if j = 4 then 605 else 1820
theorem WB_rng (j : Int) : 5 ≤ WB j ∧ WB j ≤ 1820 := by
  unfold WB
  repeat' split
  all_goals omega
theorem WB_stp {j : Int} (h : 1 ≤ j ∧ j ≤ 5) : 5 + 3 * WB (j - 1) ≤ WB j := by
  have : j = 1 ∨ j = 2 ∨ j = 3 ∨ j = 4 ∨ j = 5 := by omega
  rcases this with rfl | rfl | rfl | rfl | rfl <;> decide
def RowI (a b : SG) (x j : Int) : Prop := a 24 (6 * x + j) = b 72 (6 * x + j) ∧ a 25 (6 * x + j) = b 73 (6 * x + j) ∧ a 26 (6 * x + j) = b 74 (6 * x + j) ∧ a 27 (6 * x + j) = b 75 (6 * x + j) ∧ (0 ≤ b 75 (6 * x + j) ∧ b 75 (6 * x + j) ≤ WB j)
def HM (a b : SG) (h : Int) (c n : Nat) (B : Int) : Prop := GR a b B ∧ (a 23 8 = b 56 34 ∧ 0 ≤ a 23 8 ∧ a 23 8 ≤ 6000 * h + 2000 * (c : Int)) ∧ (∀ x j : Int, 0 ≤ x → x < (n : Int) → 0 ≤ j → (j < h ∨ (j = h ∧ x < (c : Int))) → RowI a b x j) ∧ (∀ x : Int, 0 ≤ x → x < (n : Int) → a 29 x = (if x < (c : Int) then b 73 (6 * x + h) else if h = 0 then 0 else b 73 (6 * x + h - 1)) ∧ 0 ≤ a 29 x ∧ a 29 x ≤ 1000 * h + (if x < (c : Int) then 1000 else 0)) ∧ (∀ x : Int, 0 ≤ x → x < (c : Int) → a 28 x = b 72 (6 * x + h)) ∧ (∀ y : Int, 0 ≤ y → y < 3 → b 78 y = if h = 5 then 0 else gs b h y c) ∧ (∀ y : Int, 0 ≤ y → y < 3 → (h = 0 → b 77 y = 0) ∧ (0 < h → b 77 y = gs b (h - 1) y n))
theorem gs_cg {b b' : SG} {j y : Int} (h58 : b' 58 = b 58) : ∀ f : Nat, (∀ x : Nat, x < f → b' 75 (6 * (x : Int) + j) = b 75 (6 * (x : Int) + j)) → gs b' j y f = gs b j y f := by
  intro f
  induction f with
  | zero => intro _; rfl
  | succ f ih =>
    intro h
    show gs b' j y f + (if b' 58 (7 + (f : Int)) = y then b' 75 (6 * (f : Int) + j) else 0) = gs b j y f + (if b 58 (7 + (f : Int)) = y then b 75 (6 * (f : Int) + j) else 0)
    rw [ih (fun x hx => h x (by omega)), h58, h f (by omega)]
theorem gs_rng {b : SG} {j y M : Int} (hM : 0 ≤ M) : ∀ f : Nat, (∀ x : Nat, x < f → 0 ≤ b 75 (6 * (x : Int) + j) ∧ b 75 (6 * (x : Int) + j) ≤ M) → 0 ≤ gs b j y f ∧ gs b j y f ≤ M * f := by
  intro f
  induction f with
  | zero => intro _; exact ⟨Int.le_refl 0, by show (0 : Int) ≤ M * ((0 : Nat) : Int); rw [show ((0 : Nat) : Int) = 0 from rfl, Int.mul_zero]; exact Int.le_refl 0⟩
  | succ f ih =>
    intro h
    have i := ih (fun x hx => h x (by omega))
    have r := h f (by omega)
    have e : gs b j y (f + 1) = gs b j y f + if b 58 (7 + (f : Int)) = y then b 75 (6 * (f : Int) + j) else 0 := rfl
    have e2 : M * ((f + 1 : Nat) : Int) = M * (f : Int) + M := by
      rw [show ((f + 1 : Nat) : Int) = (f : Int) + 1 from by omega, Int.mul_add, Int.mul_one]
    rw [e, e2]
    split <;> omega
theorem up_same (s : SG) (q i : Int) : up s q i (s q i) = s := by
  funext k j
  rw [up_app]
  split
  · next y => rw [y.1, y.2]
  · rfl
theorem l_comeOn {a b : SG} {h B : Int} {n c : Nat} (hM : Mo a b) (hn : b 58 0 = n) (hH : HM a b h c n B) (hc : c < n) (hh : 0 ≤ h ∧ h ≤ 5) : sem 54 0 [aA 23, aA (a 0 9), aI (c : Int), aI h, aU, aU] [] a = some (aI (b 77 c), a) ∧ 0 ≤ b 77 c ∧ b 77 c + 5 ≤ WB h := by
  have n3 := hM.tg.1
  obtain ⟨h1, h2, h3, h4, h5, h6, h7⟩ := hH
  have e6 : a 23 6 = n := h1.2.2.2.trans hn
  obtain ⟨k0, k1⟩ := h7 (c : Int) (by omega) (by omega)
  rw [g54_0 hM.th hM.1]
  by_cases q : h = 0
  · rw [g54_6 hM.th hM.1, e6, if_pos (by omega), if_neg (by omega), k0 q]
    have := WB_rng h
    exact ⟨rfl, Int.le_refl 0, by omega⟩
  · have kk := k1 (by omega)
    have n3' : (n : Int) ≤ 3 := by omega
    have hj : 0 ≤ h - 1 ∧ h - 1 < 6 := by omega
    have h0 : 0 < h := by omega
    have ws := WB_stp (j := h) (by omega)
    have wb := WB_rng (h - 1)
    clear k0 k1 h2 h4 h5 h6 h7
    have hr : ∀ x : Nat, x < n → 0 ≤ b 75 (6 * (x : Int) + (h - 1)) ∧ b 75 (6 * (x : Int) + (h - 1)) ≤ WB (h - 1) ∧ a 27 (6 * (x : Int) + (h - 1)) = b 75 (6 * (x : Int) + (h - 1)) := fun x hx => by
      obtain ⟨r1, r2, r3, r4, r5⟩ := h3 (x : Int) (h - 1) (by omega) (by omega) (by omega) (Or.inl (by omega))
      exact ⟨r5.1, r5.2, r4⟩
    have gr3 : ∀ f : Nat, f ≤ n → 0 ≤ gs b (h - 1) c f ∧ gs b (h - 1) c f ≤ 3 * WB (h - 1) := fun f hf => by
      have m := mul_rng (a := WB (h - 1)) (A := WB (h - 1)) (b := (f : Int)) (B := 3) (by omega) (by omega)
      have g := gs_rng (b := b) (j := h - 1) (y := (c : Int)) (M := WB (h - 1)) (by omega) f (fun x hx => ⟨(hr x (by omega)).1, (hr x (by omega)).2.1⟩)
      exact ⟨g.1, Int.le_trans g.2 (by omega)⟩
    have L : ∀ (m f : Nat), f + m = n → sem 54 6 [aA 23, aA (a 0 9), aI (c : Int), aI h, aI (gs b (h - 1) c f), aI (f : Int)] [] a = some (aI (gs b (h - 1) c n), a) := by
      intro m
      induction m with
      | zero =>
        intro f hf
        have : f = n := by omega
        subst this
        rw [g54_6 hM.th hM.1, e6, if_neg (Int.lt_irrefl _)]
      | succ m ih =>
        intro f hf
        have fn : (f : Int) < n := by omega
        have f3 : 0 ≤ (f : Int) ∧ (f : Int) < 3 := by omega
        have f58 : 0 ≤ (f : Int) ∧ (f : Int) < b 58 0 := by omega
        have r18 : 0 ≤ 6 * (f : Int) + (h - 1) ∧ 6 * (f : Int) + (h - 1) < 18 := by omega
        have i := ih (f + 1) (by omega)
        obtain ⟨r1, r2, r3⟩ := hr f (by omega)
        have g1 := gr3 (f + 1) (by omega)
        obtain ⟨G, hG⟩ : ∃ G, G = gs b (h - 1) c (f + 1) := ⟨_, rfl⟩
        rw [← hG] at i g1
        have w : w32 ((f : Int) + 1) = ((f + 1 : Nat) : Int) := by rw [w32_id (by omega) (by omega)]; omega
        have wh : w32 (h - 1) = h - 1 := by clear w; exact w32_id (by omega) (by omega)
        have wG : w32 G = G := by clear w wh; exact w32_id (by omega) (by omega)
        have e : G = gs b (h - 1) c f + if b 58 (7 + (f : Int)) = c then b 75 (6 * (f : Int) + (h - 1)) else 0 := hG
        rw [g54_6 hM.th hM.1, e6, if_pos fn, if_pos h0, hM.nx f58, bnI_some, w, wh]
        by_cases z : b 58 (7 + (f : Int)) = c
        · rw [if_pos z] at e
          rw [if_pos z, c_row f3 hj, bnI_some, g_t r18, r3, ← e, wG]
          exact i
        · rw [if_neg z, Int.add_zero] at e
          rw [if_neg z, ← e]
          exact i
    have l := L n 0 (by omega)
    have g := gr3 n (Nat.le_refl n)
    rw [kk]
    exact ⟨l, g.1, by omega⟩
/-- who comes in all -/
def cm (b : SG) (c h : Int) : Int := cbh (b 68 c) (b 58 (10 + 3 * c + b 56 15)) + (if c = b 56 38 then 1 else iandA (ishrA (b 67 c) h) 1) + b 77 c
theorem l_sell1 {a b : SG} {h B : Int} {n c : Nat} (hM : Mo a b) (hn : b 58 0 = n) (hH : HM a b h c n B) (hc : c < n) (hh : 0 ≤ h ∧ h ≤ 5) (hcr : (c : Int) = a 23 9 ↔ (c : Int) = b 56 38) : sem 53 0 [aA 23, aA (a 0 9), aA 16, aI (c : Int), aI h, aU, aU, aU] [] a = sem 53 54 [aA 23, aA (a 0 9), aU, aI (c : Int), aI h, aI (cm b c h), aU, aU] [] a ∧ (0 ≤ cm b c h ∧ cm b c h ≤ WB h) := by
  have n3 := hM.tg.1
  obtain ⟨o1, o2, o3⟩ := l_comeOn hM hn hH hc hh
  have c3 : 0 ≤ (c : Int) ∧ (c : Int) < 3 := by omega
  have k3 := hM.2.2.2.1
  obtain ⟨m1, m2, m3, -⟩ := hM.2.2.2.2.1 (c : Int) c3.1 c3.2
  have rb := hM.cr c3 (k := b 56 15) (by omega)
  have rh := cbh_rng (hb := b 68 (c : Int)) rb
  have ww := WB_rng h
  have wb := bit_rng (ishrA (b 67 (c : Int)) h)
  obtain ⟨bt, hbt⟩ : ∃ z, z = iandA (ishrA (b 67 (c : Int)) h) 1 := ⟨_, rfl⟩
  obtain ⟨cb, hcb⟩ : ∃ z, z = cbh (b 68 (c : Int)) (b 58 (10 + 3 * (c : Int) + b 56 15)) := ⟨_, rfl⟩
  unfold cm
  rw [← hcb] at rh ⊢
  rw [← hbt] at wb ⊢
  constructor
  · rw [g53_0 hM.th hM.1, c_isRow, if_pos c3, bnI_some, if_neg (by decide), k3.1, hM.co c3 (by omega), bnI_some, c_comeByHabit hM.1 c3 rb, bnI_some, m2, ← hcb, o1, bnI_some]
    by_cases q : (c : Int) = a 23 9
    · rw [if_pos q, if_pos (hcr.mp q), w32_id (a := cb + b 77 c) (by omega) (by omega), w32_id (by omega) (by omega), show cb + b 77 c + 1 = cb + 1 + b 77 c from by omega]
    · rw [if_neg q, if_neg (fun y => q (hcr.mpr y)), c_isMoreTold hM.1 c3 (by omega), bnI_some, m3, ← hbt, w32_id (a := cb + b 77 c) (by omega) (by omega)]
      rcases wb with e | e
      · rw [e, if_pos rfl, Int.add_zero]
      · rw [e, if_neg (by decide), w32_id (by omega) (by omega), show cb + b 77 c + 1 = cb + 1 + b 77 c from by omega]
  · split <;> omega
theorem l_sell2 {a b : SG} {h w : Int} {c : Nat} (hM : Mo a b) (hc : (c : Int) < b 58 0) (hh : 0 ≤ h ∧ h ≤ 5) (hw : 0 ≤ w ∧ w ≤ 5000) (h28 : 0 ≤ a 28 c ∧ a 28 c ≤ 5000) (h29 : 0 ≤ a 29 c ∧ a 29 c ≤ 10000) (h8 : 0 ≤ a 23 8 ∧ a 23 8 ≤ 100000) {y v u no r : Int} (hy : y = sl w (a 28 c)) (hv : v = a 28 c - y) (hu : u = a 29 c + y) (hno : no = w - y) (hr : r = 6 * (c : Int) + h) : sem 53 54 [aA 23, aA (a 0 9), aU, aI (c : Int), aI h, aI w, aU, aU] [] a = some (aU, up (up (up (up (up (up (up a 28 c v) 29 c u) 24 r v) 25 r u) 26 r w) 27 r no) 23 8 (a 23 8 + if h = 5 ∨ b 58 (7 + (c : Int)) = -9 then no else 0)) ∧ RefC (up (up (up (up (up (up (up a 28 c v) 29 c u) 24 r v) 25 r u) 26 r w) 27 r no) 23 8 (a 23 8 + if h = 5 ∨ b 58 (7 + (c : Int)) = -9 then no else 0)) := by
  have n3 := hM.tg.1
  have ry : 0 ≤ y ∧ y ≤ a 28 c ∧ y ≤ w := by
    rw [hy]
    unfold sl
    split <;> omega
  obtain ⟨a1, ha1⟩ : ∃ z, z = up (up a 28 c v) 29 c u := ⟨_, rfl⟩
  obtain ⟨a2, ha2⟩ : ∃ z, z = up (up (up (up a1 24 r v) 25 r u) 26 r w) 27 r no := ⟨_, rfl⟩
  have R1 : RefC a1 := by rw [ha1]; exact RefC.upd (RefC.upd hM.1 (rcb_a (by decide))) (rcb_a (by decide))
  have R2 : RefC a2 := by rw [ha2]; exact RefC.upd (RefC.upd (RefC.upd (RefC.upd R1 (rcb_a (by decide))) (rcb_a (by decide))) (rcb_a (by decide))) (rcb_a (by decide))
  have W2 : WC a a2 := fun k i hk => by
    rw [ha2, up_app, if_neg (by omega), up_app, if_neg (by omega), up_app, if_neg (by omega), up_app, if_neg (by omega), ha1, up_app, if_neg (by omega), up_app, if_neg (by omega)]
  have M2 := hM.fa R2 W2
  have e28 : a1 28 c = v := by rw [ha1, up_ne (by decide), up_at]
  have e29 : a1 29 c = u := by rw [ha1, up_at]
  have e238 : a1 23 8 = a 23 8 := by rw [ha1, up_ne (by decide), up_ne (by decide)]
  have f238 : a2 23 8 = a 23 8 := by rw [ha2, up_ne (by decide), up_ne (by decide), up_ne (by decide), up_ne (by decide), e238]
  have e09 : a 0 9 = a2 0 9 := W2.k09.symm
  rw [← ha1, ← ha2]
  refine ⟨?_, RefC.upd R2 (rcb_f (c := 3) (j := 8) rfl (by decide) (by decide))⟩
  rw [g53_54 hM.th hM.1, g_t (by omega), min_sl, ← hy, w32_id (a := a 28 c - y) (by omega) (by omega), w32_id (a := a 29 c + y) (by omega) (by omega), w32_id (a := w - y) (by omega) (by omega), ← hv, ← hu, ← hno, ← ha1, c_row (by omega) (by omega), bnI_some, ← hr, g_t (by omega), e28, e29, e238, w32_id (a := a 23 8 + no) (by omega) (by omega), ← ha2]
  by_cases q : h = 5
  · rw [if_pos q, if_pos (Or.inl q)]
  · rw [if_neg q, e09, M2.nx (by omega), bnI_some]
    by_cases z : b 58 (7 + (c : Int)) = -9
    · rw [if_pos z, if_pos (Or.inr z), f238, w32_id (a := a 23 8 + no) (by omega) (by omega)]
    · rw [if_neg z, if_neg (fun x => x.elim q z), Int.add_zero, ← f238, up_same]
def pvf (b : SG) (c h : Int) : Int := if h = 0 then 0 else b 73 (6 * c + h - 1)
def zf (b : SG) (c h : Int) : Int := if h = 5 ∨ b 58 (7 + c) = -9 then 0 else b 58 (7 + c)
theorem l_sell9 {a b : SG} {h : Int} {c : Nat} (hM : Mo a b) (hc : (c : Int) < b 58 0) (hh : 0 ≤ h ∧ h ≤ 5) (h77 : 0 ≤ b 77 c ∧ b 77 c ≤ 5000) (h76 : 0 ≤ b 76 c ∧ b 76 c ≤ 5000) (h8 : 0 ≤ b 56 34 ∧ b 56 34 ≤ 100000) (h78 : ∀ z, 0 ≤ z → z < 3 → 0 ≤ b 78 z ∧ b 78 z ≤ 100000) {pv w y v u no r z : Int} (hpv : pv = pvf b c h) (rpv : 0 ≤ pv ∧ pv ≤ 10000) (hw : w = cm b c h) (hy : y = sl w (b 76 c)) (hv : v = b 76 c - y) (hu : u = pv + y) (hno : no = w - y) (hr : r = 6 * (c : Int) + h) (hz : z = zf b c h) : sem 204 0 [aA 56, aI (c : Int), aI h, aU, aU, aU, aU, aU] [] b = some (aU, up (up (up (up (up (up (up b 76 c v) 72 r v) 73 r u) 74 r w) 75 r no) 56 34 (b 56 34 + if h = 5 ∨ b 58 (7 + (c : Int)) = -9 then no else 0)) 78 z (b 78 z + if h = 5 ∨ b 58 (7 + (c : Int)) = -9 then 0 else no)) ∧ RefC (up (up (up (up (up (up (up b 76 c v) 72 r v) 73 r u) 74 r w) 75 r no) 56 34 (b 56 34 + if h = 5 ∨ b 58 (7 + (c : Int)) = -9 then no else 0)) 78 z (b 78 z + if h = 5 ∨ b 58 (7 + (c : Int)) = -9 then 0 else no)) := by
  have n3 := hM.tg.1
  have c3 : 0 ≤ (c : Int) ∧ (c : Int) < 3 := by omega
  have k3 := hM.2.2.2.1
  have k15 : 0 ≤ b 56 15 ∧ b 56 15 < 3 := by omega
  clear k3
  have rb := hM.cr c3 k15
  have rh := cbh_rng (hb := b 68 (c : Int)) rb
  have i28 : 0 ≤ 10 + 3 * (c : Int) + b 56 15 ∧ 10 + 3 * (c : Int) + b 56 15 < 28 := by
    clear hpv hw hy hv hu hno hr hz
    omega
  have r18 : 0 ≤ r ∧ r < 18 := by
    clear hpv hw hy hv hu hno hz
    omega
  have i7 : 0 ≤ 7 + (c : Int) ∧ 7 + (c : Int) < 28 := by
    clear hpv hw hy hv hu hno hr hz
    omega
  have wi : w32 (w32 (10 + w32 (3 * (c : Int))) + b 56 15) = 10 + 3 * (c : Int) + b 56 15 := by
    clear hpv hw hy hv hu hno hr hz
    rw [w32_id (a := 3 * (c : Int)) (by omega) (by omega), w32_id (a := 10 + 3 * (c : Int)) (by omega) (by omega), w32_id (by omega) (by omega)]
  have wr : w32 (w32 (6 * (c : Int)) + h) = r := by
    clear wi hpv hw hy hv hu hno hz
    rw [w32_id (a := 6 * (c : Int)) (by omega) (by omega), w32_id (by omega) (by omega), hr]
  have w7 : w32 (7 + (c : Int)) = 7 + (c : Int) := by
    clear wi wr hpv hw hy hv hu hno hr hz
    exact w32_id (by omega) (by omega)
  obtain ⟨bs, hbs⟩ : ∃ z, z = b 58 (10 + 3 * (c : Int) + b 56 15) := ⟨_, rfl⟩
  obtain ⟨cb, hcb⟩ : ∃ z, z = cbh (b 68 (c : Int)) (b 58 (10 + 3 * (c : Int) + b 56 15)) := ⟨_, rfl⟩
  rw [← hcb] at rh
  have s1 : ∃ ad, bs + ad = cb ∧ (-1 ≤ ad ∧ ad ≤ 1) ∧ sem 204 0 [aA 56, aI (c : Int), aI h, aU, aU, aU, aU, aU] [] b = sem 204 52 [aA 56, aI (c : Int), aI h, aU, aU, aU, aU, aU] [aI ad, aI bs] b := by
    clear hpv hw hy hv hu hno hr hz wr w7 i7 r18 h77 h76 h8 rpv
    rw [g204_0 hM.2.1, wi, g_t i28, g_t c3, hcb, ← hbs]
    rw [← hbs] at rb
    clear wi i28 hbs hcb n3 rh
    unfold cbh
    by_cases q : 7 < b 68 (c : Int)
    · rw [if_pos q, if_neg (by omega), if_pos q]
      exact ⟨1, rfl, by decide, rfl⟩
    · rw [if_neg q, if_neg q]
      refine ⟨_, ?_, ?_, rfl⟩
      · repeat' split
        all_goals omega
      · repeat' split
        all_goals omega
  obtain ⟨ad, a1, a2, a3⟩ := s1
  have wad : w32 (bs + ad) = bs + ad := by
    rw [a1]
    exact w32_id (Int.le_trans (by decide) rh.1) (Int.lt_of_le_of_lt rh.2 (by decide))
  obtain ⟨bt, hbt⟩ : ∃ z, z = if (c : Int) = b 56 38 then 1 else iandA (ishrA (b 67 (c : Int)) h) 1 := ⟨_, rfl⟩
  have rbt : 0 ≤ bt ∧ bt ≤ 1 := by
    have wb := bit_rng (ishrA (b 67 (c : Int)) h)
    rw [hbt]
    split
    · decide
    · rcases wb with e | e <;> rw [e] <;> decide
  have ew : w = cb + bt + b 77 c := by rw [hw, hcb, hbt]; rfl
  have s2 : sem 204 52 [aA 56, aI (c : Int), aI h, aU, aU, aU, aU, aU] [aI ad, aI bs] b = sem 204 77 [aA 56, aI (c : Int), aI h, aU, aU, aU, aU, aU] [aI bt, aI cb] b := by
    rw [g204_52 hM.2.1, wad, a1, hbt]
    by_cases q : (c : Int) = b 56 38
    · rw [if_pos q, if_pos q]
    · rw [if_neg q, if_neg q, g_t c3]
  clear hw hbt hcb hbs a1 a2 rb wad
  have rw' : 0 ≤ w ∧ w ≤ 5005 := by
    clear hpv hy hv hu hno hr hz
    omega
  have ry : 0 ≤ y ∧ y ≤ b 76 c ∧ y ≤ w := by
    clear hpv hv hu hno hr hz ew
    rw [hy]
    unfold sl
    split <;> omega
  have w1 : w32 (cb + bt) = cb + bt := by
    clear hpv hy hv hu hno hr hz
    exact w32_id (by omega) (by omega)
  have w2 : w32 (cb + bt + b 77 c) = w := by
    rw [← ew]
    exact w32_id (Int.le_trans (by decide) rw'.1) (Int.lt_of_le_of_lt rw'.2 (by decide))
  have w3 : w32 (w - y) = no := by
    clear hpv hy hv hu hr hz ew
    rw [hno]
    exact w32_id (by omega) (by omega)
  have w4 : w32 (b 76 c - y) = v := by
    clear hpv hy hno hu hr hz ew
    rw [hv]
    exact w32_id (by omega) (by omega)
  have w5 : w32 (y + pv) = u := by
    clear hpv hy hno hv hr hz ew
    rw [hu, Int.add_comm pv y]
    exact w32_id (by omega) (by omega)
  have rno : 0 ≤ no ∧ no ≤ 5005 := by
    clear hpv hy hv hu hr hz ew
    omega
  have w6 : w32 (b 56 34 + no) = b 56 34 + no := by
    clear hpv hy hv hu hr hz ew hno
    exact w32_id (by omega) (by omega)
  obtain ⟨b1, hb1⟩ : ∃ z, z = up (up b 76 c v) 72 r v := ⟨_, rfl⟩
  have s3 : sem 204 77 [aA 56, aI (c : Int), aI h, aU, aU, aU, aU, aU] [aI bt, aI cb] b = sem 204 168 [aA 56, aI (c : Int), aI h, aU, aI w, aU, aI no, aU] [aI pv, aI y, aI r, aA 73] b1 := by
    rw [g204_77 hM.2.1, g_t c3, w1, w2, c_lesser, bnI_some, ← hy, wr, g_t r18, w3, w4, ← hb1, hpv]
    unfold pvf
    by_cases q : h = 0
    · rw [if_neg (by clear hpv hy hv hu hr hz ew hno w1 w2 w3 w4 w5 w6 wr w7 wi; omega), if_pos q]
    · have q1 : 0 < h := by
        clear hpv hy hv hu hr hz ew hno w1 w2 w3 w4 w5 w6 wr w7 wi
        omega
      have q2 : 0 ≤ r - 1 ∧ r - 1 < 18 := by
        clear hpv hy hv hu hz ew hno w1 w2 w3 w4 w5 w6 wr w7 wi
        omega
      have q3 : w32 (r - 1) = r - 1 := w32_id (Int.le_trans (by decide) q2.1) (Int.lt_trans q2.2 (by decide))
      rw [if_pos q1, q3, g_t q2, if_neg q, hr]
  obtain ⟨b2, hb2⟩ : ∃ z, z = up (up (up b1 73 r u) 74 r w) 75 r no := ⟨_, rfl⟩
  have R1 : RefC b1 := by rw [hb1]; exact RefC.upd (RefC.upd hM.2.1 (rcb_a (by decide))) (rcb_a (by decide))
  have R2 : RefC b2 := by rw [hb2]; exact RefC.upd (RefC.upd (RefC.upd R1 (rcb_a (by decide))) (rcb_a (by decide))) (rcb_a (by decide))
  have e58 : b1 58 = b 58 := by rw [hb1, up_k (by decide), up_k (by decide)]
  have e56 : b1 56 = b 56 := by rw [hb1, up_k (by decide), up_k (by decide)]
  have e78 : b1 78 = b 78 := by rw [hb1, up_k (by decide), up_k (by decide)]
  have f56 : b2 56 = b 56 := by rw [hb2, up_k (by decide), up_k (by decide), up_k (by decide), e56]
  have f78 : b2 78 = b 78 := by rw [hb2, up_k (by decide), up_k (by decide), up_k (by decide), e78]
  have rn := hM.nr c3
  rw [← hb1, ← hb2]
  refine ⟨?_, RefC.upd (RefC.upd R2 (rcb_f (c := 9) (j := 34) rfl (by decide) (by decide))) (rcb_a (by decide))⟩
  rw [a3, s2, s3, g204_168 R1, g_t r18, wr, g_t r18, w7, g_t i7, e58, e56, e78, w5, ← hb2, w6]
  have same : ∀ H, up (up b2 56 34 H) 78 0 (b 78 0 + 0) = up b2 56 34 H := fun H => by
    have : b 78 0 + 0 = up b2 56 34 H 78 0 := by rw [up_ne (by decide), f78, Int.add_zero]
    rw [this, up_same]
  unfold zf at hz
  clear hy hv hu hno hr hpv ew w1 w2 w3 w4 w5 w6 wr w7 wi i28 rh rbt s3 s2 a3
  by_cases q : b 58 (7 + (c : Int)) = -9
  · have g : h = 5 ∨ b 58 (7 + (c : Int)) = -9 := Or.inr q
    rw [if_pos g] at hz
    rw [if_pos q, if_pos g, if_pos g, hz, same]
  · by_cases q5 : h = 5
    · have g : h = 5 ∨ b 58 (7 + (c : Int)) = -9 := Or.inl q5
      rw [if_pos g] at hz
      rw [if_neg q, if_pos q5, if_pos g, if_pos g, hz, same]
    · have g : ¬ (h = 5 ∨ b 58 (7 + (c : Int)) = -9) := fun x => x.elim q5 q
      rw [if_neg g] at hz
      have rn2 : 0 ≤ b 58 (7 + (c : Int)) ∧ b 58 (7 + (c : Int)) < 3 := by
        clear hz g q5
        omega
      have r78 := h78 (b 58 (7 + (c : Int))) rn2.1 rn2.2
      have w8 : w32 (b 78 (b 58 (7 + (c : Int))) + no) = b 78 (b 58 (7 + (c : Int))) + no := by
        clear hz g q5 q rn
        exact w32_id (by omega) (by omega)
      rw [if_neg q, if_neg q5, g_t rn2, if_neg g, if_neg g, hz, w8]
      have : up b2 56 34 (b 56 34 + 0) = b2 := by
        rw [Int.add_zero, ← f56, up_same]
      rw [this]

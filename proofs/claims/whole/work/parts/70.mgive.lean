/-! mornings: what the van gives -/
def GR (a b : SG) (B : Int) : Prop := (∀ c, 0 ≤ c → c < b 58 0 → a 28 c = b 76 c ∧ 0 ≤ a 28 c ∧ a 28 c + a 23 7 ≤ B) ∧ a 23 7 = b 56 33 ∧ (0 ≤ a 23 7 ∧ a 23 7 ≤ 60) ∧ a 23 6 = b 58 0
def sm3 (n : Int) (f : Int → Int) : Int := (if 0 < n then f 0 else 0) + (if 1 < n then f 1 else 0) + (if 2 < n then f 2 else 0)
def FgC (a a' : SG) : Prop := ∀ k i, ¬ (k = 28 ∨ (k = 23 ∧ i = 7)) → a' k i = a k i
def FgR (b b' : SG) : Prop := ∀ k i, ¬ (k = 76 ∨ (k = 56 ∧ i = 33)) → b' k i = b k i
theorem FgC.c {a a' : SG} (h : FgC a a') : FC a a' := fun k i hk => h k i (by omega)
theorem FgR.r {b b' : SG} (h : FgR b b') : FR b b' := fun k i hk => h k i (by omega)
def GS (a b a' b' : SG) (B : Int) : Prop := RefC a' ∧ RefC b' ∧ GR a' b' B ∧ FgC a a' ∧ FgR b b' ∧ sm3 (b 58 0) (a' 28) + a' 23 7 = sm3 (b 58 0) (a 28) + a 23 7
theorem GS.rf {a b : SG} {B : Int} (h : Mo a b) (g : GR a b B) : GS a b a b B := ⟨h.1, h.2.1, g, fun _ _ _ => rfl, fun _ _ _ => rfl, rfl⟩
theorem GS.tr {a b a1 b1 a2 b2 : SG} {B : Int} (h : GS a b a1 b1 B) (g : GS a1 b1 a2 b2 B) : GS a b a2 b2 B := by
  obtain ⟨h1, h2, h3, h4, h5, h6⟩ := h
  obtain ⟨g1, g2, g3, g4, g5, g6⟩ := g
  have e : b1 58 0 = b 58 0 := h5 58 0 (by omega)
  rw [e] at g6
  exact ⟨g1, g2, g3, fun k i hk => (g4 k i hk).trans (h4 k i hk), fun k i hk => (g5 k i hk).trans (h5 k i hk), g6.trans h6⟩
theorem GS.mo {a b a1 b1 : SG} {B : Int} (h : GS a b a1 b1 B) (m : Mo a b) : Mo a1 b1 := (m.fa h.1 h.2.2.2.1.c.w).fb h.2.1 h.2.2.2.2.1.r.w
theorem sm3_up {n c y : Int} {f f' : Int → Int} (hn : n ≤ 3) (hc : 0 ≤ c ∧ c < n) (h : ∀ x, f' x = if x = c then f x + y else f x) : sm3 n f' = sm3 n f + y := by
  have c3 : c = 0 ∨ c = 1 ∨ c = 2 := by omega
  have h0 := h 0
  have h1 := h 1
  have h2 := h 2
  unfold sm3
  rcases c3 with rfl | rfl | rfl
  · rw [if_pos rfl] at h0
    rw [if_neg (by decide)] at h1 h2
    rw [h0, h1, h2]
    repeat' split
    all_goals omega
  · rw [if_pos rfl] at h1
    rw [if_neg (by decide)] at h0 h2
    rw [h0, h1, h2]
    repeat' split
    all_goals omega
  · rw [if_pos rfl] at h2
    rw [if_neg (by decide)] at h0 h1
    rw [h0, h1, h2]
    repeat' split
    all_goals omega
theorem l_hand {a b : SG} {B c m : Int} (h : Mo a b) (g : GR a b B) (hB : B ≤ 1000) (hc : 0 ≤ c ∧ c < b 58 0) (hm : 0 ≤ m ∧ m ≤ 60) : ∃ a' b', sem 51 0 [aA 23, aI c, aI m, aU] [] a = some (aU, a') ∧ sem 202 0 [aA 56, aI c, aI m, aU] [] b = some (aU, b') ∧ GS a b a' b' B ∧ a' 23 7 = a 23 7 - sl m (a 23 7) := by
  have n3 := h.tg.1
  obtain ⟨g1, g2, g3, g4⟩ := g
  obtain ⟨c1, c2, c3⟩ := g1 c hc.1 hc.2
  obtain ⟨y, hy⟩ : ∃ y, y = sl m (a 23 7) := ⟨_, rfl⟩
  have ry : 0 ≤ y ∧ y ≤ a 23 7 := by
    rw [hy]
    unfold sl
    split <;> omega
  have RA : RefC (up (up a 28 c (a 28 c + y)) 23 7 (a 23 7 - y)) := RefC.upd (RefC.upd h.1 (rcb_a (by decide))) (rcb_f (c := 3) (j := 7) rfl (by decide) (by decide))
  have RB : RefC (up (up b 76 c (b 76 c + y)) 56 33 (b 56 33 - y)) := RefC.upd (RefC.upd h.2.1 (rcb_a (by decide))) (rcb_f (c := 9) (j := 33) rfl (by decide) (by decide))
  have A28 : ∀ x, up (up a 28 c (a 28 c + y)) 23 7 (a 23 7 - y) 28 x = if x = c then a 28 x + y else a 28 x := fun x => by
    rw [up_ne (by decide), up_i]
    by_cases z : x = c
    · rw [if_pos z, if_pos z, z]
    · rw [if_neg z, if_neg z]
  have A23 : up (up a 28 c (a 28 c + y)) 23 7 (a 23 7 - y) 23 7 = a 23 7 - y := up_at _ _ _ _
  refine ⟨up (up a 28 c (a 28 c + y)) 23 7 (a 23 7 - y), up (up b 76 c (b 76 c + y)) 56 33 (b 56 33 - y), ?_, ?_, ⟨RA, RB, ⟨fun x x0 x1 => ?_, ?_, ?_, ?_⟩, fun k i hk => by rw [up_app, if_neg (by omega), up_app, if_neg (by omega)], fun k i hk => by rw [up_app, if_neg (by omega), up_app, if_neg (by omega)], ?_⟩, by rw [A23, hy]⟩
  · rw [g51_0 h.1, c_isRow, if_pos (by omega), bnI_some, if_neg (by decide), g_t (by omega), min_sl, ← hy, w32_id (by omega) (by omega), w32_id (by omega) (by omega)]
  · rw [g202_0 h.2.1, ← g2, c_lesser, bnI_some, ← hy, g_t (by omega), ← c1, ← g2, w32_id (by omega) (by omega), w32_id (by omega) (by omega)]
  · rw [up_ne (by decide), up_ne (by decide)] at x1
    obtain ⟨x2, x3, x4⟩ := g1 x x0 x1
    rw [A28, A23, up_ne (by decide), up_i]
    by_cases z : x = c
    · rw [if_pos z, if_pos z, x2, z]
      rw [z] at x2 x3 x4
      omega
    · rw [if_neg z, if_neg z]
      omega
  · rw [A23, up_at, g2]
  · rw [A23]
    omega
  · rw [up_ni (by decide), up_ne (by decide), up_ne (by decide), up_ne (by decide)]
    exact g4
  · rw [A23, sm3_up (f := a 28) (y := y) (c := c) (by omega) hc A28]
    omega
theorem l_orders {h B : Int} (hB : B ≤ 1000) {n : Nat} (hn : n ≤ 6) : ∀ (m i : Nat) (a b : SG), i + m = n → Mo a b → GR a b B → b 56 22 = n → ∃ a' b', sem 49 2 [aA 23, aA 16, aI h, aI (i : Int)] [] a = some (aU, a') ∧ sem 203 2 [aA 56, aI h, aI (i : Int)] [] b = sem 203 44 [aA 56, aI h, aI 0] [] b' ∧ GS a b a' b' B := by
  intro m
  induction m with
  | zero =>
    intro i a b hi hM hG hc
    have : i = n := by omega
    subst this
    rw [g49_2 hM.1, g203_2 hM.2.1, hM.2.2.2.2.2.2.2.1.1, hc, if_neg (by omega), if_neg (by omega)]
    exact ⟨a, b, rfl, rfl, GS.rf hM hG⟩
  | succ m ih =>
    intro i a b hi hM hG hc
    have w : w32 ((i : Int) + 1) = ((i + 1 : Nat) : Int) := by rw [w32_id (by omega) (by omega)]; omega
    obtain ⟨⟨o1, o2, o3⟩, o4⟩ := hM.2.2.2.2.2.2.2.2 (i : Int) (by omega) (by omega)
    obtain ⟨p1, p2, p3⟩ := o4 (by omega)
    by_cases q : b 69 (i : Int) = h
    · obtain ⟨a1, b1, e1, e2, e3, -⟩ := l_hand hM hG hB (c := b 70 (i : Int)) (m := b 71 (i : Int)) p2 (by omega)
      have k22 : b1 56 22 = b 56 22 := e3.2.2.2.2.1 56 22 (by omega)
      obtain ⟨a2, b2, f1, f2, f3⟩ := ih (i + 1) a1 b1 (by omega) (e3.mo hM) e3.2.2.1 (k22.trans hc)
      refine ⟨a2, b2, ?_, ?_, e3.tr f3⟩
      · rw [g49_2 hM.1, hM.2.2.2.2.2.2.2.1.1, hc, if_pos (by omega), if_pos (by omega), g_t (by omega), o1, if_pos q, o2, o3, w, e1, bnV_some]
        exact f1
      · rw [g203_2 hM.2.1, hc, if_pos (by omega), g_t (by omega), if_pos q, w, e2, bnV_some]
        exact f2
    · obtain ⟨a2, b2, f1, f2, f3⟩ := ih (i + 1) a b (by omega) hM hG hc
      refine ⟨a2, b2, ?_, ?_, f3⟩
      · rw [g49_2 hM.1, hM.2.2.2.2.2.2.2.1.1, hc, if_pos (by omega), if_pos (by omega), g_t (by omega), o1, if_neg q, w]
        exact f1
      · rw [g203_2 hM.2.1, hc, if_pos (by omega), g_t (by omega), if_neg q, w]
        exact f2
theorem l_ring {h B : Int} (hB : B ≤ 1000) (hh : 0 < h) {n : Nat} (hn3 : n ≤ 3) : ∀ (m c : Nat) (a b : SG), c + m = n → Mo a b → GR a b B → b 58 0 = n → b 56 20 = 1 → ∃ a' b', sem 50 14 [aA 23, aA 16, aI h, aI (c : Int), aU] [] a = sem 50 51 [aA 23, aA 16, aI h, aU, aU] [] a' ∧ sem 203 44 [aA 56, aI h, aI (c : Int)] [] b = sem 203 92 [aA 56, aI h, aI 0] [] b' ∧ GS a b a' b' B := by
  intro m
  induction m with
  | zero =>
    intro c a b hi hM hG hn hr
    have : c = n := by omega
    subst this
    rw [g50_14 hM.1, g203_44 hM.2.1, hG.2.2.2, hn, if_neg (by omega), if_neg (by omega)]
    exact ⟨a, b, rfl, rfl, GS.rf hM hG⟩
  | succ m ih =>
    intro c a b hi hM hG hn hr
    have w : w32 ((c : Int) + 1) = ((c + 1 : Nat) : Int) := by rw [w32_id (by omega) (by omega)]; omega
    obtain ⟨c1, c2, c3⟩ := hG.1 (c : Int) (by omega) (by omega)
    obtain ⟨r1, r2, r3⟩ := hM.2.2.2.2.2.2.1
    have rr : 0 ≤ b 56 21 ∧ b 56 21 ≤ 60 := by
      unfold RuleI at r3
      omega
    by_cases q : b 76 (c : Int) = 0
    · obtain ⟨a1, b1, e1, e2, e3, -⟩ := l_hand hM hG hB (c := (c : Int)) (m := b 56 21) (by omega) rr
      have k20 : b1 56 20 = b 56 20 := e3.2.2.2.2.1 56 20 (by omega)
      have k58 : b1 58 0 = b 58 0 := e3.2.2.2.2.1 58 0 (by omega)
      obtain ⟨a2, b2, f1, f2, f3⟩ := ih (c + 1) a1 b1 (by omega) (e3.mo hM) e3.2.2.1 (k58.trans hn) (k20.trans hr)
      refine ⟨a2, b2, ?_, ?_, e3.tr f3⟩
      · rw [g50_14 hM.1, hG.2.2.2, hn, if_pos (by omega), if_pos (by omega), g_t (by omega), c1, if_pos q, r2, w, e1, bnV_some]
        exact f1
      · rw [g203_44 hM.2.1, hn, hr, if_pos (by omega), if_pos rfl, if_pos hh, g_t (by omega), if_pos q, w, e2, bnV_some]
        exact f2
    · obtain ⟨a2, b2, f1, f2, f3⟩ := ih (c + 1) a b (by omega) hM hG hn hr
      refine ⟨a2, b2, ?_, ?_, f3⟩
      · rw [g50_14 hM.1, hG.2.2.2, hn, if_pos (by omega), if_pos (by omega), g_t (by omega), c1, if_neg q, w]
        exact f1
      · rw [g203_44 hM.2.1, hn, hr, if_pos (by omega), if_pos rfl, if_pos hh, g_t (by omega), if_neg q, w]
        exact f2
theorem rem_nx {n i : Int} (hn : 1 ≤ n ∧ n ≤ 3) (hi : 0 ≤ i) (hi2 : i ≤ 100) : (0 ≤ remA i n ∧ remA i n < n) ∧ remA (w32 (remA i n + 1)) n = remA (i + 1) n := by
  have e : ∀ x : Int, 0 ≤ x → remA x n = x % n := fun x hx => Int.tmod_eq_emod_of_nonneg hx
  rw [e i hi, e (i + 1) (by omega)]
  have c3 : n = 1 ∨ n = 2 ∨ n = 3 := by omega
  rcases c3 with rfl | rfl | rfl
  · rw [w32_id (by omega) (by omega), e _ (by omega)]
    omega
  · rw [w32_id (by omega) (by omega), e _ (by omega)]
    omega
  · rw [w32_id (by omega) (by omega), e _ (by omega)]
    omega
theorem l_share {h B : Int} (hB : B ≤ 1000) {all : Nat} (ha : all ≤ 60) : ∀ (m i : Nat) (a b : SG), i + m = all → Mo a b → GR a b B → a 23 7 = m → b 56 20 = 2 → h = b 56 21 → ∃ a' b', sem 50 75 [aA 23, aU, aU, aI (all : Int), aI (i : Int)] [] a = some (aU, a') ∧ sem 203 92 [aA 56, aI h, aI (remA (i : Int) (b 58 0))] [] b = some (aU, b') ∧ GS a b a' b' B := by
  intro m
  induction m with
  | zero =>
    intro i a b hi hM hG hv hr hh
    have : i = all := by omega
    subst this
    have v0 : b 56 33 = 0 := by rw [← hG.2.1, hv]; rfl
    rw [g50_75 hM.1, g203_92 hM.2.1, if_neg (by omega), if_pos hr, if_pos hh, v0, if_neg (by decide)]
    exact ⟨a, b, rfl, rfl, GS.rf hM hG⟩
  | succ m ih =>
    intro i a b hi hM hG hv hr hh
    have n3 := hM.tg.1
    have w : w32 ((i : Int) + 1) = ((i + 1 : Nat) : Int) := by rw [w32_id (by omega) (by omega)]; omega
    obtain ⟨x1, x2⟩ := rem_nx (n := b 58 0) (i := (i : Int)) n3 (by omega) (by omega)
    obtain ⟨a1, b1, e1, e2, e3, e4⟩ := l_hand hM hG hB (c := remA (i : Int) (b 58 0)) (m := 1) x1 (by decide)
    have k20 : b1 56 20 = b 56 20 := e3.2.2.2.2.1 56 20 (by omega)
    have k21 : b1 56 21 = b 56 21 := e3.2.2.2.2.1 56 21 (by omega)
    have k58 : b1 58 0 = b 58 0 := e3.2.2.2.2.1 58 0 (by omega)
    have v1 : 0 < b 56 33 := by rw [← hG.2.1, hv]; omega
    have hv' : a1 23 7 = (m : Int) := by
      rw [e4, hv]
      unfold sl
      split <;> omega
    obtain ⟨a2, b2, f1, f2, f3⟩ := ih (i + 1) a1 b1 (by omega) (e3.mo hM) e3.2.2.1 hv' (k20.trans hr) (hh.trans k21.symm)
    rw [g50_75 hM.1, g203_92 hM.2.1, if_pos (by omega), hG.2.2.2, if_pos (by omega), g_t (by omega), e1, bnV_some, w, if_pos hr, if_pos hh, if_pos v1, e2, bnV_some, k58, g_t (by omega), x2]
    rw [k58] at f2
    exact ⟨a2, b2, f1, f2, e3.tr f3⟩
theorem l_give {a b : SG} {h B : Int} (hM : Mo a b) (hG : GR a b B) (hB : B ≤ 1000) : ∃ a1 a' b', sem 49 0 [aA 23, aA 16, aI h, aU] [] a = some (aU, a1) ∧ sem 50 0 [aA 23, aA 16, aI h, aU, aU] [] a1 = some (aU, a') ∧ sem 203 0 [aA 56, aI h, aU] [] b = some (aU, b') ∧ GS a b a' b' B := by
  have n3 := hM.tg.1
  obtain ⟨n6, hn6⟩ : ∃ n : Nat, b 56 22 = n := ⟨(b 56 22).toNat, by have := hM.2.2.2.2.2.2.2.1; omega⟩
  obtain ⟨n, hn⟩ : ∃ n : Nat, b 58 0 = n := ⟨(b 58 0).toNat, by omega⟩
  obtain ⟨a1, b1, e1, e2, e3⟩ := l_orders (h := h) hB (n := n6) (by have := hM.2.2.2.2.2.2.2.1; omega) n6 0 a b (by omega) hM hG hn6
  have M1 := e3.mo hM
  have k58 : b1 58 0 = b 58 0 := e3.2.2.2.2.1 58 0 (by omega)
  have r8 := M1.2.2.2.2.2.2.1
  have key : ∃ a2 b2, sem 50 0 [aA 23, aA 16, aI h, aU, aU] [] a1 = sem 50 51 [aA 23, aA 16, aI h, aU, aU] [] a2 ∧ sem 203 44 [aA 56, aI h, aI 0] [] b1 = sem 203 92 [aA 56, aI h, aI 0] [] b2 ∧ GS a1 b1 a2 b2 B := by
    by_cases q : b1 56 20 = 1 ∧ 0 < h
    · obtain ⟨a2, b2, f1, f2, f3⟩ := l_ring hB q.2 (n := n) (by omega) n 0 a1 b1 (by omega) M1 e3.2.2.1 (k58.trans hn) q.1
      refine ⟨a2, b2, ?_, f2, f3⟩
      rw [g50_0 M1.1, r8.1, if_pos q.1, if_pos q.2]
      exact f1
    · refine ⟨a1, b1, ?_, ?_, GS.rf M1 e3.2.2.1⟩
      · rw [g50_0 M1.1, r8.1]
        by_cases q1 : b1 56 20 = 1
        · rw [if_pos q1, if_neg (fun y => q ⟨q1, y⟩)]
        · rw [if_neg q1]
      · rw [g203_44 M1.2.1, if_pos (by omega)]
        by_cases q1 : b1 56 20 = 1
        · rw [if_pos q1, if_neg (fun y => q ⟨q1, y⟩)]
        · rw [if_neg q1]
  obtain ⟨a2, b2, f1, f2, f3⟩ := key
  have M2 := f3.mo M1
  have s8 := M2.2.2.2.2.2.2.1
  have k58' : b2 58 0 = b1 58 0 := f3.2.2.2.2.1 58 0 (by omega)
  have key2 : ∃ a3 b3, sem 50 51 [aA 23, aA 16, aI h, aU, aU] [] a2 = some (aU, a3) ∧ sem 203 92 [aA 56, aI h, aI 0] [] b2 = some (aU, b3) ∧ GS a2 b2 a3 b3 B := by
    have G2 := f3.2.2.1
    by_cases q : b2 56 20 = 2 ∧ h = b2 56 21
    · obtain ⟨v, hv⟩ : ∃ v : Nat, a2 23 7 = v := ⟨(a2 23 7).toNat, by have := G2.2.2.1; omega⟩
      obtain ⟨a3, b3, j1, j2, j3⟩ := l_share (h := h) hB (all := v) (by have := G2.2.2.1; omega) v 0 a2 b2 (by omega) M2 G2 hv q.1 q.2
      refine ⟨a3, b3, ?_, ?_, j3⟩
      · rw [g50_51 M2.1, s8.1, s8.2.1, if_pos q.1, if_pos q.2, hv]
        exact j1
      · have e0 : remA ((0 : Nat) : Int) (b2 58 0) = 0 := Int.zero_tmod _
        rw [e0] at j2
        exact j2
    · refine ⟨a2, b2, ?_, ?_, GS.rf M2 G2⟩
      · rw [g50_51 M2.1, s8.1, s8.2.1]
        by_cases q1 : b2 56 20 = 2
        · rw [if_pos q1, if_neg (fun y => q ⟨q1, y⟩)]
        · rw [if_neg q1]
      · rw [g203_92 M2.2.1]
        by_cases q1 : b2 56 20 = 2
        · rw [if_pos q1, if_neg (fun y => q ⟨q1, y⟩)]
        · rw [if_neg q1]
  obtain ⟨a3, b3, j1, j2, j3⟩ := key2
  refine ⟨a1, a3, b3, ?_, ?_, ?_, (e3.tr f3).tr j3⟩
  · rw [g49_0 hM.1]
    exact e1
  · rw [f1]
    exact j1
  · rw [g203_0 hM.2.1]
    exact e2.trans (f2.trans j2)
/-- the second printing: none, or told alike -/
def SecR (a b : SG) : Prop := (a 23 10 = -9 ∧ b 56 36 = 0 ∧ b 56 37 = 0) ∨ ((0 ≤ a 23 10 ∧ a 23 10 < b 58 0) ∧ a 23 10 = b 56 36 ∧ a 23 11 = b 56 35 ∧ a 23 12 = b 56 37 ∧ (0 ≤ b 56 37 ∧ b 56 37 ≤ 60) ∧ (0 ≤ b 56 35 ∧ b 56 35 ≤ 5))
def sAt (b : SG) (h : Int) : Int := if h = b 56 35 then b 56 37 else 0
theorem l_second {a b : SG} {h B : Int} (hM : Mo a b) (hG : GR a b B) (hB : B ≤ 1000) (hS : SecR a b) : ∃ a', sem 52 0 [aA 23, aI h] [] a = some (aU, a') ∧ RefC a' ∧ GR a' (up b 76 (b 56 36) (b 76 (b 56 36) + sAt b h)) (B + 60) ∧ FgC a a' ∧ (0 ≤ b 56 36 ∧ b 56 36 < 3) ∧ (0 ≤ b 76 (b 56 36) + sAt b h ∧ b 76 (b 56 36) + sAt b h ≤ 2000) ∧ sm3 (b 58 0) (a' 28) = sm3 (b 58 0) (a 28) + sAt b h ∧ a' 23 7 = a 23 7 := by
  have n3 := hM.tg.1
  obtain ⟨g1, g2, g3, g4⟩ := hG
  by_cases q : (0 ≤ a 23 10 ∧ a 23 10 < b 58 0) ∧ h = b 56 35
  · have hS2 : a 23 10 = b 56 36 ∧ a 23 11 = b 56 35 ∧ a 23 12 = b 56 37 ∧ (0 ≤ b 56 37 ∧ b 56 37 ≤ 60) := by
      rcases hS with z | z
      · omega
      · exact ⟨z.2.1, z.2.2.1, z.2.2.2.1, z.2.2.2.2.1⟩
    obtain ⟨z1, z2, z3, z4⟩ := hS2
    have eS : sAt b h = b 56 37 := if_pos q.2
    obtain ⟨c, hc⟩ : ∃ c, c = b 56 36 := ⟨_, rfl⟩
    obtain ⟨m, hm⟩ : ∃ m, m = b 56 37 := ⟨_, rfl⟩
    rw [eS, ← hc, ← hm]
    rw [← hc] at z1
    rw [← hm] at z3 z4
    rw [z1] at q
    obtain ⟨c1, c2, c3⟩ := g1 c q.1.1 q.1.2
    have A28 : ∀ x, up a 28 c (a 28 c + m) 28 x = if x = c then a 28 x + m else a 28 x := fun x => by
      rw [up_i]
      by_cases z : x = c
      · rw [if_pos z, if_pos z, z]
      · rw [if_neg z, if_neg z]
    refine ⟨up a 28 c (a 28 c + m), ?_, RefC.upd hM.1 (rcb_a (by decide)), ⟨fun x x0 x1 => ?_, ?_, ?_, ?_⟩, fun k i hk => by rw [up_app, if_neg (by omega)], by omega, by omega, sm3_up (by omega) q.1 A28, up_ne (by decide) _⟩
    · rw [g52_0 hM.1, z2, if_pos q.2, c_isRow, if_pos (by omega), bnI_some, if_neg (by decide), z1, z3, g_t (by omega), w32_id (by omega) (by omega)]
    · rw [up_ne (by decide)] at x1
      obtain ⟨x2, x3, x4⟩ := g1 x x0 x1
      rw [A28, up_i, up_ne (by decide)]
      by_cases z : x = c
      · rw [if_pos z, if_pos z, x2, z]
        rw [z] at x2 x3 x4
        omega
      · rw [if_neg z, if_neg z]
        omega
    · rw [up_ne (by decide), up_ne (by decide)]
      exact g2
    · rw [up_ne (by decide)]
      exact g3
    · rw [up_ne (by decide), up_ne (by decide)]
      exact g4
  · have hS2 : sAt b h = 0 ∧ (0 ≤ b 56 36 ∧ b 56 36 < b 58 0) ∧ (¬ h = a 23 11 ∨ a 23 10 < 0) := by
      unfold sAt
      rcases hS with ⟨z1, z2, z3⟩ | ⟨z1, z2, z3, z4⟩
      · rw [z2, z3]
        refine ⟨by split <;> rfl, by omega, Or.inr (by omega)⟩
      · have : ¬ h = b 56 35 := fun y => q ⟨z1, y⟩
        rw [if_neg this]
        exact ⟨rfl, by omega, Or.inl (by omega)⟩
    obtain ⟨z1, z2, z3⟩ := hS2
    obtain ⟨c1, c2, c3⟩ := g1 (b 56 36) z2.1 z2.2
    have eb : up b 76 (b 56 36) (b 76 (b 56 36) + sAt b h) = b := by
      rw [z1, Int.add_zero]
      funext k i
      rw [up_app]
      split
      · next y => rw [y.1, y.2]
      · rfl
    rw [eb, z1]
    refine ⟨a, ?_, hM.1, ⟨fun x x0 x1 => ?_, g2, g3, g4⟩, fun _ _ _ => rfl, by omega, by omega, by omega, rfl⟩
    · rw [g52_0 hM.1]
      by_cases y : h = a 23 11
      · rw [if_pos y, c_isRow, if_neg (by omega), bnI_some, if_pos rfl]
      · rw [if_neg y]
    · have := g1 x x0 x1
      omega

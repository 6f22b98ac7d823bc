/-! days: how the sightings weigh the kinds -/
def fac (v b x : Int) : Int := if v = b + 1 then x else if v = b then 10 - x else 0
def Wk (s : SG) (k : Int) : Nat → Int
  | 0 => s 58 (1 + k)
  | i + 1 => Wk s k i * fac (s 63 i) (s 58 (10 + 3 * s 62 i + k)) (s 58 (19 + 3 * s 62 i + k))
def Wt (s : SG) (k : Int) : Int := Wk s k (s 56 9).toNat
theorem Inv.shI {s : SG} (h : Inv s) {k : Int} (hk : 0 ≤ k ∧ k < 3) : sem 83 0 [aA (s 0 9), aI k] [] s = some (aI (s 58 (1 + k)), s) := by
  have e1 := h.2.1.2.1 (1 + k) (by omega) (by omega)
  have e2 : tv s (s 0 9) (1 + k) = s (s 0 9 + 1) k := by
    unfold tv
    rw [if_neg (by omega), if_pos (by omega)]
    congr 1
    omega
  rw [c_shareOf h.tr hk.1 hk.2, ← e2, e1]
theorem Inv.coI {s : SG} (h : Inv s) {c k : Int} (hc : 0 ≤ c ∧ c < 3) (hk : 0 ≤ k ∧ k < 3) : sem 84 0 [aA (s 0 9), aI c, aI k, aU] [] s = some (aI (s 58 (10 + 3 * c + k)), s) := by
  have e1 := h.2.1.2.1 (10 + 3 * c + k) (by omega) (by omega)
  have e2 : tv s (s 0 9) (10 + 3 * c + k) = s (s 0 9 + 2) (3 * c + k) := by
    unfold tv
    repeat rw [if_neg (by omega)]
    rw [if_pos (by omega)]
    congr 1
    omega
  rw [c_comesTo h.tr hc.1 hc.2 hk.1 hk.2, ← e2, e1]
theorem Inv.teI {s : SG} (h : Inv s) {c k : Int} (hc : 0 ≤ c ∧ c < 3) (hk : 0 ≤ k ∧ k < 3) : sem 85 0 [aA (s 0 9), aI c, aI k, aU] [] s = some (aI (s 58 (19 + 3 * c + k)), s) := by
  have e1 := h.2.1.2.1 (19 + 3 * c + k) (by omega) (by omega)
  have e2 : tv s (s 0 9) (19 + 3 * c + k) = s (s 0 9 + 3) (3 * c + k) := by
    unfold tv
    repeat rw [if_neg (by omega)]
    congr 1
    omega
  rw [c_tenthsAt h.tr hc.1 hc.2 hk.1 hk.2, ← e2, e1]
theorem fac_rng {v b x : Int} (hx : 0 ≤ x ∧ x ≤ 9) : 0 ≤ fac v b x ∧ fac v b x ≤ 10 := by
  unfold fac
  repeat' split
  all_goals omega
theorem p10 {i : Nat} (hi : i ≤ 8) : (10 : Int) ^ i ≤ 100000000 := by
  have : ∀ j : Fin 9, (10 : Int) ^ j.val ≤ 100000000 := by decide
  exact this ⟨i, by omega⟩
theorem Inv.bI {s : SG} (h : Inv s) {c k : Int} (hc : 0 ≤ c ∧ c < 3) (hk : 0 ≤ k ∧ k < 3) : (0 ≤ s 58 (10 + 3 * c + k) ∧ s 58 (10 + 3 * c + k) ≤ 3) ∧ (0 ≤ s 58 (19 + 3 * c + k) ∧ s 58 (19 + 3 * c + k) ≤ 9) := ⟨h.tg.2.2.2.2.1 _ (by omega) (by omega), h.tg.2.2.2.2.2 _ (by omega) (by omega)⟩
theorem Wk_rng {s : SG} (h : Inv s) {k : Int} (hk : 0 ≤ k ∧ k < 3) : ∀ i : Nat, (i : Int) ≤ s 56 9 → 0 ≤ Wk s k i ∧ Wk s k i ≤ 9 * 10 ^ i := by
  intro i
  induction i with
  | zero =>
    intro _
    have := h.tg.2.1 (1 + k) (by omega) (by omega)
    show 0 ≤ s 58 (1 + k) ∧ s 58 (1 + k) ≤ 9 * 1
    omega
  | succ i ih =>
    intro hi
    have i1 := ih (by omega)
    have h3 := h.tg.1
    obtain ⟨-, -, c1, -⟩ := h.2.2.2.2.1.2.2 (i : Int) (by omega) (by omega)
    have m := mul_rng i1 (fac_rng (v := s 63 i) (b := s 58 (10 + 3 * s 62 i + k)) (h.bI (c := s 62 i) (by omega) hk).2)
    rw [Int.pow_succ, ← Int.mul_assoc]
    exact m
theorem Wk_rng8 {s : SG} (h : Inv s) {k : Int} (hk : 0 ≤ k ∧ k < 3) {i : Nat} (hi : (i : Int) ≤ s 56 9) : 0 ≤ Wk s k i ∧ Wk s k i ≤ 900000000 := by
  have r := Wk_rng h hk i hi
  have h8 := h.2.2.2.2.1.2.1
  have p := p10 (i := i) (by omega)
  omega
theorem Wt_rng {s : SG} (h : Inv s) {k : Int} (hk : 0 ≤ k ∧ k < 3) : 0 ≤ Wt s k ∧ Wt s k ≤ 900000000 := by
  have h8 := h.2.2.2.2.1.2.1
  exact Wk_rng8 h hk (by omega)
theorem l_wC {s : SG} (h : Inv s) {k : Int} (hk : 0 ≤ k ∧ k < 3) {N : Nat} (hN : s 56 9 = N) : ∀ (m i : Nat), i + m = N → sem 68 10 [aA 10, aA (s 0 9), aI k, aL (Wk s k i), aU, aI (i : Int), aU, aU] [] s = some (aL (Wt s k), s) := by
  obtain ⟨z1, z2, z3⟩ := h.2.2.2.2.1
  have h3 := h.tg.1
  intro m
  induction m with
  | zero =>
    intro i hi
    rw [g68_10 h.th h.1, z1, if_neg (by omega)]
    have : i = N := by omega
    unfold Wt
    rw [hN, Int.toNat_natCast, this]
  | succ m ih =>
    intro i hi
    have i8 : (i : Int) < s 56 9 := by omega
    have i9 : (i : Int) < 8 := by omega
    have i0 : 0 ≤ (i : Int) := by omega
    have iN : ((i + 1 : Nat) : Int) ≤ s 56 9 := by omega
    obtain ⟨y1, y2, y3, y4⟩ := z3 (i : Int) i0 i8
    have c3 : 0 ≤ s 62 i ∧ s 62 i < 3 := ⟨y3.1, by omega⟩
    have w : w32 ((i : Int) + 1) = ((i + 1 : Nat) : Int) := by rw [w32_id (by omega) (by omega)]; omega
    obtain ⟨rb, rx⟩ := h.bI (c := s 62 i) c3 hk
    rw [g68_10 h.th h.1, z1, if_pos i8, if_pos i9, g_t ⟨i0, i9⟩, y1, h.coI c3 hk, bnI_some, y1, h.teI c3 hk, bnI_some, y2, w]
    have r := Wk_rng8 h hk (i := i + 1) iN
    have e : Wk s k (i + 1) = Wk s k i * fac (s 63 i) (s 58 (10 + 3 * s 62 i + k)) (s 58 (19 + 3 * s 62 i + k)) := rfl
    have i1 := ih (i + 1) (by omega)
    obtain ⟨b, hb⟩ : ∃ b, b = s 58 (10 + 3 * s 62 i + k) := ⟨_, rfl⟩
    obtain ⟨x, hx⟩ : ∃ x, x = s 58 (19 + 3 * s 62 i + k) := ⟨_, rfl⟩
    rw [← hb, ← hx] at e ⊢
    rw [← hb] at rb
    rw [← hx] at rx
    have ef : (if w32 (s 63 i - b) = 1 then x else if w32 (s 63 i - b) = 0 then w32 (10 - x) else 0) = fac (s 63 i) b x := by
      rw [w32_id (a := s 63 i - b) (by omega) (by omega), w32_id (a := 10 - x) (by omega) (by omega)]
      unfold fac
      repeat' split
      all_goals omega
    rw [ef, ← e, w64_id (by omega) (by omega)]
    exact i1
theorem c_weightC {s : SG} (h : Inv s) {k : Int} (hk : 0 ≤ k ∧ k < 3) : sem 68 0 [aA 10, aA (s 0 9), aI k, aU, aU, aU, aU, aU] [] s = some (aL (Wt s k), s) := by
  rw [g68_0 h.th h.1, h.shI hk, bnI_some]
  obtain ⟨N, hN⟩ : ∃ N : Nat, s 56 9 = N := ⟨(s 56 9).toNat, by have := h.2.2.2.2.1.2.1; omega⟩
  exact l_wC h hk hN N 0 (by omega)
theorem l_w9 {s : SG} (h : Inv s) {k : Int} (hk : 0 ≤ k ∧ k < 3) {N : Nat} (hN : s 56 9 = N) : ∀ (m i : Nat), i + m = N → sem 181 13 [aA 56, aI k, aL (Wk s k i), aU, aI (i : Int), aU, aU] [] s = some (aL (Wt s k), s) := by
  obtain ⟨z1, z2, z3⟩ := h.2.2.2.2.1
  have h3 := h.tg.1
  intro m
  induction m with
  | zero =>
    intro i hi
    rw [g181_13 h.1, if_neg (by omega)]
    have : i = N := by omega
    unfold Wt
    rw [hN, Int.toNat_natCast, this]
  | succ m ih =>
    intro i hi
    have i8 : (i : Int) < s 56 9 := by omega
    have i9 : (i : Int) < 8 := by omega
    have i0 : 0 ≤ (i : Int) := by omega
    have iN : ((i + 1 : Nat) : Int) ≤ s 56 9 := by omega
    obtain ⟨y1, y2, y3, y4⟩ := z3 (i : Int) i0 i8
    have c3 : 0 ≤ s 62 i ∧ s 62 i < 3 := ⟨y3.1, by omega⟩
    have w : w32 ((i : Int) + 1) = ((i + 1 : Nat) : Int) := by rw [w32_id (by omega) (by omega)]; omega
    obtain ⟨rb, rx⟩ := h.bI (c := s 62 i) (by omega) hk
    have wb : w32 (w32 (10 + w32 (3 * s 62 i)) + k) = 10 + 3 * s 62 i + k := by
      rw [w32_id (a := 3 * s 62 i) (by omega) (by omega), w32_id (a := 10 + 3 * s 62 i) (by omega) (by omega), w32_id (by omega) (by omega)]
    have wx : w32 (w32 (19 + w32 (3 * s 62 i)) + k) = 19 + 3 * s 62 i + k := by
      rw [w32_id (a := 3 * s 62 i) (by omega) (by omega), w32_id (a := 19 + 3 * s 62 i) (by omega) (by omega), w32_id (by omega) (by omega)]
    rw [g181_13 h.1, if_pos i8, wb, wx, g_t ⟨i0, i9⟩, g_t (by omega), g_t (by omega), w]
    have r := Wk_rng8 h hk (i := i + 1) iN
    have e : Wk s k (i + 1) = Wk s k i * fac (s 63 i) (s 58 (10 + 3 * s 62 i + k)) (s 58 (19 + 3 * s 62 i + k)) := rfl
    have i1 := ih (i + 1) (by omega)
    obtain ⟨b, hb⟩ : ∃ b, b = s 58 (10 + 3 * s 62 i + k) := ⟨_, rfl⟩
    obtain ⟨x, hx⟩ : ∃ x, x = s 58 (19 + 3 * s 62 i + k) := ⟨_, rfl⟩
    rw [← hb, ← hx] at e ⊢
    rw [← hb] at rb
    rw [← hx] at rx
    rw [w32_id (a := b + 1) (by omega) (by omega), w32_id (a := 10 - x) (by omega) (by omega)]
    by_cases q : s 63 i = b + 1
    · have ef : fac (s 63 i) b x = x := if_pos q
      rw [ef] at e
      rw [if_pos q, ← e, w64_id (by omega) (by omega)]
      exact i1
    · have ef : fac (s 63 i) b x = if s 63 i = b then 10 - x else 0 := if_neg q
      rw [ef] at e
      rw [if_neg q, ← e, w64_id (by omega) (by omega)]
      exact i1
theorem c_weight9 {s : SG} (h : Inv s) {k : Int} (hk : 0 ≤ k ∧ k < 3) : sem 181 0 [aA 56, aI k, aU, aU, aU, aU, aU] [] s = some (aL (Wt s k), s) := by
  rw [g181_0 h.1, w32_id (by omega) (by omega), g_t (by omega)]
  obtain ⟨N, hN⟩ : ∃ N : Nat, s 56 9 = N := ⟨(s 56 9).toNat, by have := h.2.2.2.2.1.2.1; omega⟩
  exact l_w9 h hk hN N 0 (by omega)
def aW (s : SG) : Int := Wt s 0 + Wt s 1 + Wt s 2
theorem c_allWC {s : SG} (h : Inv s) : sem 69 0 [aA 10, aA (s 0 9), aU, aU, aU] [] s = some (aL (aW s), s) := by
  have r0 := Wt_rng h (k := 0) (by decide)
  have r1 := Wt_rng h (k := 1) (by decide)
  have r2 := Wt_rng h (k := 2) (by decide)
  rw [g69_0 h.th h.1, g69_5 h.th h.1, if_pos (by decide), c_weightC h (by decide), bnL_some, show w32 (0 + 1) = 1 from rfl, g69_5 h.th h.1, if_pos (by decide), c_weightC h (by decide), bnL_some, show w32 (1 + 1) = 2 from rfl, g69_5 h.th h.1, if_pos (by decide), c_weightC h (by decide), bnL_some, show w32 (2 + 1) = 3 from rfl, g69_5 h.th h.1, if_neg (by decide)]
  rw [w64_id (a := 0 + Wt s 0) (by omega) (by omega), w64_id (a := 0 + Wt s 0 + Wt s 1) (by omega) (by omega), w64_id (by omega) (by omega), Int.zero_add]
  rfl
theorem c_allW9 {s : SG} (h : Inv s) : sem 182 0 [aA 56] [] s = some (aL (aW s), s) := by
  have r0 := Wt_rng h (k := 0) (by decide)
  have r1 := Wt_rng h (k := 1) (by decide)
  have r2 := Wt_rng h (k := 2) (by decide)
  rw [g182_0 h.1, c_weight9 h (by decide), bnL_some, c_weight9 h (by decide), bnL_some, c_weight9 h (by decide), bnL_some, w64_id (a := Wt s 0 + Wt s 1) (by omega) (by omega), w64_id (by omega) (by omega)]
  rfl
theorem aW_rng {s : SG} (h : Inv s) : 0 ≤ aW s ∧ aW s ≤ 2700000000 := by
  have r0 := Wt_rng h (k := 0) (by decide)
  have r1 := Wt_rng h (k := 1) (by decide)
  have r2 := Wt_rng h (k := 2) (by decide)
  unfold aW
  omega
theorem q_likely {s : SG} (h : Inv s) (k f : Int) : ∃ r s1 s2, sem 117 0 [aA 0, aI k, aI f, aU, aU] [] s = some (aL r, s1) ∧ sem 183 0 [aA 56, aI k, aI f] [] s1 = some (aL r, s2) ∧ Inv s2 := by
  have ra := aW_rng h
  by_cases q : 0 ≤ k ∧ k < 3
  · have rk := Wt_rng h q
    by_cases z : aW s = 0
    · refine ⟨-3, s, s, ?_, ?_, h⟩
      · rw [g117_0 h.th h.1 h.tw, c_isKind, if_pos q, bnI_some, if_neg (by decide), c_allWC h, bnL_some, if_pos (cmpL_eq0.mpr z)]
      · rw [g183_0 h.1, c_isKind9, if_pos q, bnI_some, if_neg (by decide), c_allW9 h, bnL_some, if_pos (cmpL_eq0.mpr z)]
    · refine ⟨frac (Wt s k) (aW s) f, s, s, ?_, ?_, h⟩
      · rw [g117_0 h.th h.1 h.tw, c_isKind, if_pos q, bnI_some, if_neg (by decide), c_allWC h, bnL_some, if_neg (fun y => z (cmpL_eq0.mp y)), c_weightC h q, bnL_some, c_fraction (by omega) (by omega), bnL_some]
      · rw [g183_0 h.1, c_isKind9, if_pos q, bnI_some, if_neg (by decide), c_allW9 h, bnL_some, if_neg (fun y => z (cmpL_eq0.mp y)), c_weight9 h q, bnL_some, c_allW9 h, bnL_some, c_part (by omega) (by omega), bnL_some]
  · refine ⟨-1, s, s, ?_, ?_, h⟩
    · rw [g117_0 h.th h.1 h.tw, c_isKind, if_neg q, bnI_some, if_pos rfl]
    · rw [g183_0 h.1, c_isKind9, if_neg q, bnI_some, if_pos rfl]
theorem q_likeliest {s : SG} (h : Inv s) : ∃ r s1 s2, sem 118 0 [aA 0] [] s = some (aI r, s1) ∧ sem 184 0 [aA 56, aU] [] s1 = some (aI r, s2) ∧ Inv s2 := by
  by_cases z : aW s = 0
  · refine ⟨-3, s, s, ?_, ?_, h⟩
    · rw [g118_0 h.th h.1 h.tw, c_allWC h, bnL_some, if_pos (cmpL_eq0.mpr z)]
    · rw [g184_0 h.1, c_allW9 h, bnL_some, if_pos (cmpL_eq0.mpr z)]
  · have st : ∀ b l : Int, 0 ≤ b ∧ b < 3 → 0 ≤ l ∧ l < 3 → sem 70 4 [aA 10, aA (s 0 9), aI b, aI l] [] s = sem 70 4 [aA 10, aA (s 0 9), aI (if Wt s b < Wt s l then l else b), aI (l + 1)] [] s := fun b l hb hl => by
      rw [g70_4 h.th h.1, if_pos (by omega), c_weightC h hl, bnL_some, c_weightC h hb, bnL_some, w32_id (a := l + 1) (by omega) (by omega)]
      by_cases y : Wt s b < Wt s l
      · rw [if_pos (cmpL_gt0.mpr y), if_pos y]
      · rw [if_neg (fun u => y (cmpL_gt0.mp u)), if_neg y]
    obtain ⟨b, hb⟩ : ∃ b, b = if Wt s 0 < Wt s 1 then (1 : Int) else 0 := ⟨_, rfl⟩
    have rb : 0 ≤ b ∧ b < 3 := by rw [hb]; split <;> decide
    refine ⟨if Wt s b < Wt s 2 then 2 else b, s, s, ?_, ?_, h⟩
    · rw [g118_0 h.th h.1 h.tw, c_allWC h, bnL_some, if_neg (fun y => z (cmpL_eq0.mp y)), g70_0 h.th h.1, st 0 1 (by decide) (by decide), ← hb, show (1 : Int) + 1 = 2 from rfl, st b 2 rb (by decide), g70_4 h.th h.1, if_neg (by decide), bnI_some]
    · have eb : (if (0 : Int) < cmpL (Wt s 1) (Wt s 0) then (1 : Int) else 0) = b := by
        rw [hb]
        by_cases y : Wt s 0 < Wt s 1
        · rw [if_pos (cmpL_gt0.mpr y), if_pos y]
        · rw [if_neg (fun u => y (cmpL_gt0.mp u)), if_neg y]
      rw [g184_0 h.1, c_allW9 h, bnL_some, if_neg (fun y => z (cmpL_eq0.mp y)), c_weight9 h (by decide), bnL_some, c_weight9 h (by decide), bnL_some, c_weight9 h (by decide), bnL_some, eb, c_weight9 h rb, bnL_some]
      by_cases y : Wt s b < Wt s 2
      · rw [if_pos (cmpL_gt0.mpr y), if_pos y]
      · rw [if_neg (fun u => y (cmpL_gt0.mp u)), if_neg y]

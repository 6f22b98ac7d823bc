/-! loss -/
theorem pk_but (T : Int → Int) (but : Int) {f f' : Int → Int} (h : ∀ x : Int, x ≠ but → f x = f' x) : ∀ c : Nat, pk T but f c = pk T but f' c := by
  intro c
  induction c with
  | zero => rfl
  | succ c ih =>
    have r := pk_rng T but f' c
    show (if (c : Int) = but then pk T but f c else if pk T but f c = -9 then (c : Int) else if outS T (pk T but f c) (f (pk T but f c)) < outS T c (f c) then (c : Int) else pk T but f c) = (if (c : Int) = but then pk T but f' c else if pk T but f' c = -9 then (c : Int) else if outS T (pk T but f' c) (f' (pk T but f' c)) < outS T c (f' c) then (c : Int) else pk T but f' c)
    rw [ih]
    by_cases q : (c : Int) = but
    · rw [if_pos q, if_pos q]
    · rw [if_neg q, if_neg q, h c q]
      by_cases z : pk T but f' c = -9
      · rw [if_pos z, if_pos z]
      · rw [h (pk T but f' c) (by omega)]
theorem gst_but (T : Int → Int) {but : Int} (hb : 0 ≤ but) (n : Nat) {f f' : Int → Int} (h : ∀ x : Int, x ≠ but → f x = f' x) : (∀ x : Int, x ≠ but → gst T but n f x = gst T but n f' x) ∧ gst T but n f' but = f' but := by
  have r := pk_rng T but f' n
  unfold gst
  rw [pk_but T but h n]
  by_cases z : pk T but f' n = -9
  · rw [if_pos z, if_pos z]
    exact ⟨h, rfl⟩
  · rw [if_neg z, if_neg z]
    refine ⟨fun x hx => ?_, if_neg (by omega)⟩
    try dsimp only
    rw [h x hx]
theorem gv_but (T : Int → Int) {but : Int} (hb : 0 ≤ but) (n : Nat) : ∀ (m : Nat) (f f' : Int → Int), (∀ x : Int, x ≠ but → f x = f' x) → (∀ x : Int, x ≠ but → gv T but n m f x = gv T but n m f' x) ∧ gv T but n m f' but = f' but := by
  intro m
  induction m with
  | zero => intro f f' h; exact ⟨h, rfl⟩
  | succ m ih =>
    intro f f' h
    obtain ⟨g1, g2⟩ := gst_but T hb n h
    obtain ⟨i1, i2⟩ := ih (gst T but n f) (gst T but n f') g1
    exact ⟨i1, i2.trans g2⟩
/-- what each has when m lie with one and the rest are given to the others -/
def nph (T : Int → Int) (n : Nat) (c m : Int) (k : Nat) : Int → Int := fun x => if x = c then m else gv T c n k (fun _ => 0) x
theorem nph_rng (T : Int → Int) {n : Nat} {c m : Int} {k : Nat} (hm : 0 ≤ m ∧ m ≤ 60) (hk : k ≤ 60) : ∀ x : Int, 0 ≤ x → x < n → 0 ≤ nph T n c m k x ∧ nph T n c m k x ≤ 60 := fun x x0 x1 => by
  have := g0_rng T c (n := n) hk x x0 x1
  unfold nph
  split <;> omega
theorem c_nephew {s : SG} (h : Inv s) {n : Nat} (hn : s 58 0 = n) {p c m : Int} (hp : 0 ≤ p ∧ p ≤ 60) (hc : 0 ≤ c ∧ c < n) (hm : 0 ≤ m ∧ m ≤ p) : ∃ s2, sem 11 0 [aA 5, aA (s 0 9), aI p, aI c, aI m] [] s = some (aL (ern (s 58) p (sS (s 58) (nph (s 58) n c m (p - m).toNat) n)), s2) ∧ ∀ q, q ≠ 9 → s2 q = s q := by
  have n3 := h.tg.1
  obtain ⟨s1, a1, a2, a3⟩ := c_giveNone h
  have hI : Inv s1 := h.sc (Sc.k9 a2)
  have hI2 : Inv (up s1 9 c m) := hI.u9 c m
  have e58 : up s1 9 c m 58 = s 58 := (up_k (by decide)).trans (a2 58 (by decide))
  have e0 : up s1 9 c m 0 9 = s 0 9 := by rw [up_ne (by decide), a2 0 (by decide)]
  have w : w32 (p - m) = p - m := w32_id (by omega) (by omega)
  have z9 : ∀ x : Int, 0 ≤ x → x < n → up s1 9 c m 9 x = (fun x : Int => if x = c then m else 0) x := fun x x0 x1 => by
    try dsimp only
    by_cases z : x = c
    · rw [z, up_at, if_pos rfl]
    · rw [up_ni z, if_neg z, a3 x x0 (by omega)]
  obtain ⟨s2, b1, b2, b3⟩ := l_giveAll (but := c) (p := p - m) (n := n) (p - m).toNat 0 (up s1 9 c m) hI2 (by rw [e58]; exact hn) (by omega) (by decide) (by omega) (fun x x0 x1 => by
    rw [z9 x x0 x1]
    try dsimp only
    split <;> omega)
  rw [e0] at b1
  rw [e58] at b2
  have f2 : ∀ q, q ≠ 9 → s2 q = s q := fun q hq => by rw [b3 q hq, up_k hq, a2 q hq]
  have hI3 : Inv s2 := h.sc (Sc.k9 f2)
  have f58 : s2 58 = s 58 := f2 58 (by decide)
  have g0 : s2 0 9 = s 0 9 := by rw [f2 0 (by decide)]
  have v9 : ∀ x : Int, 0 ≤ x → x < n → s2 9 x = nph (s 58) n c m (p - m).toNat x := fun x x0 x1 => by
    rw [b2, gv_cg (s 58) c n (p - m).toNat _ _ z9 x x0 x1]
    obtain ⟨g1, g2⟩ := gv_but (s 58) hc.1 n (p - m).toNat (fun _ => 0) (fun x : Int => if x = c then m else 0) (fun x hx => (if_neg hx).symm)
    unfold nph
    by_cases z : x = c
    · rw [if_pos z, z, g2]
      exact if_pos rfl
    · rw [if_neg z, g1 x z]
  have c1 := c_earnC hI3 (by rw [f58]; exact hn) hp (fun x x0 x1 => by
    rw [v9 x x0 x1]
    exact nph_rng (s 58) (n := n) (c := c) (m := m) (k := (p - m).toNat) (by omega) (by omega) x x0 x1)
  rw [f58, g0, sS_cg (s 58) v9 n (Nat.le_refl n)] at c1
  refine ⟨s2, ?_, f2⟩
  have b1' : sem 14 0 [aA 5, aA (s 0 9), aI (p - m), aI c, aU] [] (up s1 9 c m) = some (aU, s2) := (g14_0 h.th hI2.1 (p - m) c).trans b1
  rw [g11_0 h.th h.1, a1, bnV_some, c_isRow, if_pos (by omega), bnI_some, if_neg (by decide), g_t (by omega), w, b1', bnV_some, c1, bnL_some]
theorem c_earnedBy {s : SG} (h : Inv s) {n : Nat} (hn : s 58 0 = n) {p : Int} (hp : 0 ≤ p ∧ p ≤ 60) : ∃ s2, sem 10 0 [aA 5, aA (s 0 9), aI p] [] s = some (aL (eV (s 58) n p.toNat), s2) ∧ ∀ q, q ≠ 9 → s2 q = s q := by
  have n3 := h.tg.1
  obtain ⟨s1, s2, a1, a2, a3, a4⟩ := c_giveC h hn p hp
  have hI : Inv s2 := h.sc (Sc.k9 a3)
  have e58 : s2 58 = s 58 := a3 58 (by decide)
  have e0 : s2 0 9 = s 0 9 := by rw [a3 0 (by decide)]
  have rg := g0_rng (s 58) (-1) (n := n) (p := p.toNat) (by omega)
  have c1 := c_earnC hI (by rw [e58]; exact hn) hp (fun x x0 x1 => by
    have := rg x x0 x1
    rw [a4 x x0 x1]
    omega)
  rw [e58, e0, sS_cg (s 58) a4 n (Nat.le_refl n)] at c1
  refine ⟨s2, ?_, a3⟩
  rw [g10_0 h.th h.1, a1, bnV_some, a2, bnV_some, c1, bnL_some]
  unfold eV
  rw [Int.toNat_of_nonneg hp.1]
theorem q_loss {s : SG} (h : Inv s) (p c m f : Int) : ∃ r s1 s2, sem 114 0 [aA 0, aI p, aI c, aI m, aI f, aU, aU, aU] [] s = some (aL r, s1) ∧ sem 178 0 [aA 56, aI p, aI c, aI m, aI f, aU, aU] [] s1 = some (aL r, s2) ∧ Inv s2 := by
  have h3 := h.tg.1
  by_cases q : 0 ≤ c ∧ c < s 58 0
  · by_cases q2 : 0 ≤ p ∧ p ≤ 60
    · by_cases q3 : 0 ≤ m ∧ m ≤ p
      · obtain ⟨n, hn⟩ : ∃ n : Nat, s 58 0 = n := ⟨(s 58 0).toNat, by omega⟩
        obtain ⟨s1, a1, a2⟩ := c_earnedBy h hn q2
        have hI1 : Inv s1 := h.sc (Sc.k9 a2)
        have e58 : s1 58 = s 58 := a2 58 (by decide)
        have e0 : s1 0 9 = s 0 9 := by rw [a2 0 (by decide)]
        obtain ⟨s2, b1, b2⟩ := c_nephew hI1 (n := n) (by rw [e58]; exact hn) q2 (c := c) (by omega) q3
        have hI2 : Inv s2 := hI1.sc (Sc.k9 b2)
        have f58 : s2 58 = s 58 := (b2 58 (by decide)).trans e58
        rw [e58, e0] at b1
        obtain ⟨s3, d1, d2, d3⟩ := c_give9 hI2.1 hI2.tg (n := n) (by rw [f58]; exact hn) p (-1) q2
        have hI3 : Inv s3 := hI2.sc (Sc.k61 d2)
        have g58 : s3 58 = s 58 := (d2 58 (by decide)).trans f58
        rw [f58] at d3
        have rg := g0_rng (s 58) (-1) (n := n) (p := p.toNat) (by omega)
        have k1 := c_earn9 hI3 (n := n) (by rw [g58]; exact hn) q2 (fun x x0 x1 => by
          have := rg x x0 x1
          rw [d3 x x0 x1]
          omega)
        rw [g58, sS_cg (s 58) d3 n (Nat.le_refl n)] at k1
        obtain ⟨s4, i1, i2, i3⟩ := c_give9 hI3.1 hI3.tg (n := n) (by rw [g58]; exact hn) (p - m) c (by omega)
        rw [g58] at i3
        have fu : ∀ k, k ≠ 61 → up s4 61 c m k = s3 k := fun k hk => by rw [up_k hk, i2 k hk]
        have hI5 : Inv (up s4 61 c m) := hI3.sc (Sc.k61 fu)
        have j58 : up s4 61 c m 58 = s 58 := (fu 58 (by decide)).trans g58
        have v61 : ∀ x : Int, 0 ≤ x → x < n → up s4 61 c m 61 x = nph (s 58) n c m (p - m).toNat x := fun x x0 x1 => by
          unfold nph
          by_cases z : x = c
          · rw [if_pos z, z, up_at]
          · rw [if_neg z, up_ni z, i3 x x0 x1]
        have k2 := c_earn9 hI5 (n := n) (by rw [j58]; exact hn) q2 (fun x x0 x1 => by
          rw [v61 x x0 x1]
          exact nph_rng (s 58) (n := n) (c := c) (m := m) (k := (p - m).toNat) (by omega) (by omega) x x0 x1)
        rw [j58, sS_cg (s 58) v61 n (Nat.le_refl n)] at k2
        have ra := allS_rng h.tg
        have rS := sS_rng h.tg (n := n) (f := gv (s 58) (-1) n p.toNat (fun _ => 0)) (by omega) (fun x x0 x1 => by have := rg x x0 x1; omega) n (Nat.le_refl n)
        have rN := sS_rng h.tg (n := n) (f := nph (s 58) n c m (p - m).toNat) (by omega) (nph_rng (s 58) (n := n) (c := c) (m := m) (k := (p - m).toNat) (by omega) (by omega)) n (Nat.le_refl n)
        have re := (ern_w h.tg q2 (S := sS (s 58) (gv (s 58) (-1) n p.toNat (fun _ => 0)) n) (by omega)).2
        have rn := (ern_w h.tg q2 (S := sS (s 58) (nph (s 58) n c m (p - m).toNat) n) (by omega)).2
        have ev : eV (s 58) n p.toNat = ern (s 58) p (sS (s 58) (gv (s 58) (-1) n p.toNat (fun _ => 0)) n) := by
          unfold eV
          rw [Int.toNat_of_nonneg q2.1]
        rw [ev] at a1
        obtain ⟨A, hA⟩ : ∃ A, A = ern (s 58) p (sS (s 58) (gv (s 58) (-1) n p.toNat (fun _ => 0)) n) := ⟨_, rfl⟩
        obtain ⟨B, hB⟩ : ∃ B, B = ern (s 58) p (sS (s 58) (nph (s 58) n c m (p - m).toNat) n) := ⟨_, rfl⟩
        rw [← hA] at a1 k1 re
        rw [← hB] at b1 k2 rn
        have wd : w64 (A - B) = A - B := w64_id (by omega) (by omega)
        have wp : w32 (p - m) = p - m := w32_id (by omega) (by omega)
        have cw := c_whole hI2
        have ca := c_all hI5
        rw [f58] at cw
        rw [j58] at ca
        refine ⟨frac (A - B) (allS (s 58)) f, s2, up s4 61 c m, ?_, ?_, hI5⟩
        · rw [g114_0 h.th h.1 h.tw, c_refPapers h, if_pos q, if_pos q2, bnI_some, if_pos rfl, if_neg (by omega), if_neg (by omega), a1, bnL_some, b1, bnL_some, cw, bnL_some, wd, c_fraction (by omega) (by omega), bnL_some]
        · rw [g178_0 hI2.1, c_isCorner hI2, f58, if_pos q, bnI_some, if_neg (by decide), c_in, if_pos q2, bnI_some, if_neg (by decide), c_in, if_pos q3, bnI_some, if_neg (by decide), d1, bnV_some, k1, bnL_some, wp, i1, bnV_some, g_t (by omega), k2, bnL_some, ca, bnL_some, wd, c_part (by omega) (by omega), bnL_some]
      · refine ⟨-2, s, s, ?_, ?_, h⟩
        · rw [g114_0 h.th h.1 h.tw, c_refPapers h, if_pos q, if_pos q2, bnI_some, if_pos rfl]
          by_cases z : m < 0
          · rw [if_pos z]
          · rw [if_neg z, if_pos (by omega)]
        · rw [g178_0 h.1, c_isCorner h, if_pos q, bnI_some, if_neg (by decide), c_in, if_pos q2, bnI_some, if_neg (by decide), c_in, if_neg q3, bnI_some, if_pos rfl]
    · refine ⟨-2, s, s, ?_, ?_, h⟩
      · rw [g114_0 h.th h.1 h.tw, c_refPapers h, if_pos q, if_neg q2, bnI_some, if_neg (by decide)]
      · rw [g178_0 h.1, c_isCorner h, if_pos q, bnI_some, if_neg (by decide), c_in, if_neg q2, bnI_some, if_pos rfl]
  · refine ⟨-1, s, s, ?_, ?_, h⟩
    · rw [g114_0 h.th h.1 h.tw, c_refPapers h, if_neg q, bnI_some, if_neg (by decide)]
    · rw [g178_0 h.1, c_isCorner h, if_neg q, bnI_some, if_pos rfl]

/-! print -/
theorem gv_succ (T : Int → Int) (but : Int) (n : Nat) : ∀ (m : Nat) (f : Int → Int), gv T but n (m + 1) f = gst T but n (gv T but n m f) := by
  intro m
  induction m with
  | zero => intro f; rfl
  | succ m ih =>
    intro f
    show gv T but n (m + 1) (gst T but n f) = gst T but n (gv T but n m (gst T but n f))
    exact ih _
theorem gst_cg (T : Int → Int) (but : Int) (n : Nat) {f f' : Int → Int} (h : ∀ x : Int, 0 ≤ x → x < n → f x = f' x) : ∀ x : Int, 0 ≤ x → x < n → gst T but n f x = gst T but n f' x := fun x x0 x1 => gv_cg T but n 1 f f' h x x0 x1
theorem gst_neg (T : Int → Int) {a b : Int} (ha : a < 0) (hb : b < 0) (n : Nat) (f : Int → Int) : gst T a n f = gst T b n f := by unfold gst; rw [pk_neg T f ha hb]
/-- what p papers earn, given out as they are likeliest sold -/
def eV (T : Int → Int) (n p : Nat) : Int := ern T (p : Int) (sS T (gv T (-1) n p (fun _ => 0)) n)
def bm (T : Int → Int) (n : Nat) : Nat → Int × Int
  | 0 => (0, eV T n 0)
  | p + 1 => if (bm T n p).2 < eV T n (p + 1) then (((p + 1 : Nat) : Int), eV T n (p + 1)) else bm T n p
theorem g0_rng (T : Int → Int) (but : Int) {n p : Nat} (hp : p ≤ 60) : ∀ x : Int, 0 ≤ x → x < n → 0 ≤ gv T but n p (fun _ => 0) x ∧ gv T but n p (fun _ => 0) x ≤ p := gv_rng T but n p (fun _ => 0) p (fun x x0 x1 => ⟨Int.le_refl 0, by omega⟩) (by omega)
theorem c_giveNone {s : SG} (h : Inv s) : ∃ s1, sem 13 0 [aA 5] [] s = some (aU, s1) ∧ (∀ q, q ≠ 9 → s1 q = s q) ∧ ∀ x : Int, 0 ≤ x → x < 3 → s1 9 x = 0 := by
  have k9 : kl 9 = 3 := rfl
  have ef := c_fill (k := 9) (v := 0) rfl (by decide) s
  refine ⟨fillS s 9 0 0, ?_, fun q hq => funext fun i => by rw [fillS_app, if_neg (fun z => hq z.1)], fun x x0 x1 => by rw [fillS_app, if_pos (by omega)]⟩
  rw [g13_0 h.1, ef, bnV_some]
theorem c_giveOne {s : SG} (h : Inv s) {n : Nat} (hn : s 58 0 = n) (but : Int) (h9 : ∀ x : Int, 0 ≤ x → x < n → 0 ≤ s 9 x ∧ s 9 x ≤ 60) : ∃ s1, sem 15 0 [aA 5, aA (s 0 9), aI but, aU, aU] [] s = some (aU, s1) ∧ s1 9 = gst (s 58) but n (s 9) ∧ ∀ q, q ≠ 9 → s1 q = s q := by
  have e1 : sem 15 0 [aA 5, aA (s 0 9), aI but, aU, aU] [] s = _ := (g15_0 h.th h.1 but).trans (l_pkC h hn but h9 n 0 (by omega))
  refine ⟨_, e1, ?_, fun q hq => ?_⟩
  · unfold gst
    split
    · rfl
    · funext x
      rw [up_app]
      by_cases z : x = pk (s 58) but (s 9) n
      · rw [if_pos ⟨rfl, z⟩, if_pos z, z]
      · rw [if_neg (fun y => z y.2), if_neg z]
  · split
    · rfl
    · exact up_k hq
theorem c_earnC {s : SG} (h : Inv s) {n : Nat} (hn : s 58 0 = n) {p : Int} (hp : 0 ≤ p ∧ p ≤ 60) (h9 : ∀ x : Int, 0 ≤ x → x < n → 0 ≤ s 9 x ∧ s 9 x ≤ 60) : sem 16 0 [aA 5, aA (s 0 9), aI p, aU, aU, aU, aU] [] s = some (aL (ern (s 58) p (sS (s 58) (s 9) n)), s) := by
  rw [g16_0 h.th h.1]
  exact l_earnC h hn hp h9 n 0 (by omega)
theorem c_earn9 {s : SG} (h : Inv s) {n : Nat} (hn : s 58 0 = n) {p : Int} (hp : 0 ≤ p ∧ p ≤ 60) (h9 : ∀ x : Int, 0 ≤ x → x < n → 0 ≤ s 61 x ∧ s 61 x ≤ 60) : sem 174 0 [aA 56, aI p, aU, aU, aU] [] s = some (aL (ern (s 58) p (sS (s 58) (s 61) n)), s) := by
  rw [g174_0 h.1]
  exact l_earn9 h.1 h.tg (c_all h) hn hp h9 n 0 (by omega)
theorem l_printC {n : Nat} : ∀ (m p : Nat) (s : SG), p + m = 60 → Inv s → s 58 0 = n → (∀ x : Int, 0 ≤ x → x < n → s 9 x = gv (s 58) (-1) n p (fun _ => 0) x) → ∃ s', sem 12 16 [aA 5, aA (s 0 9), aI (bm (s 58) n p).1, aL (bm (s 58) n p).2, aU, aI ((p + 1 : Nat) : Int), aU, aU] [] s = some (aI (bm (s 58) n 60).1, s') ∧ ∀ q, q ≠ 9 → s' q = s q := by
  intro m
  induction m with
  | zero =>
    intro p s hm h hn h9
    have : p = 60 := by omega
    subst this
    rw [g12_16 h.th h.1, if_pos (by omega)]
    exact ⟨s, rfl, fun _ _ => rfl⟩
  | succ m ih =>
    intro p s hm h hn h9
    have w : w32 (((p + 1 : Nat) : Int) + 1) = ((p + 1 + 1 : Nat) : Int) := by rw [w32_id (by omega) (by omega)]; omega
    have r9 := g0_rng (s 58) (-1) (n := n) (p := p) (by omega)
    obtain ⟨s1, a1, a2, a3⟩ := c_giveOne h hn (-9) (fun x x0 x1 => by have := r9 x x0 x1; rw [h9 x x0 x1]; omega)
    have hI : Inv s1 := h.sc (Sc.k9 a3)
    have e58 : s1 58 = s 58 := a3 58 (by decide)
    have e0 : s1 0 9 = s 0 9 := by rw [a3 0 (by decide)]
    have f9 : ∀ x : Int, 0 ≤ x → x < n → s1 9 x = gv (s 58) (-1) n (p + 1) (fun _ => 0) x := fun x x0 x1 => by
      rw [a2, gst_neg (s 58) (a := -9) (b := -1) (by decide) (by decide), gv_succ]
      exact gst_cg (s 58) (-1) n h9 x x0 x1
    have r9' := g0_rng (s 58) (-1) (n := n) (p := p + 1) (by omega)
    have c1 := c_earnC hI (by rw [e58]; exact hn) (p := ((p + 1 : Nat) : Int)) (by omega) (fun x x0 x1 => by have := r9' x x0 x1; rw [f9 x x0 x1]; omega)
    have ev : ern (s1 58) ((p + 1 : Nat) : Int) (sS (s1 58) (s1 9) n) = eV (s 58) n (p + 1) := by
      rw [e58]
      unfold eV
      rw [sS_cg (s 58) f9 n (Nat.le_refl n)]
    rw [ev, e0] at c1
    have i := ih (p + 1) s1 (by omega) hI (by rw [e58]; exact hn) (by rw [e58]; exact f9)
    rw [e58, e0] at i
    obtain ⟨s', b1, b2⟩ := i
    have eb : bm (s 58) n (p + 1) = if (bm (s 58) n p).2 < eV (s 58) n (p + 1) then (((p + 1 : Nat) : Int), eV (s 58) n (p + 1)) else bm (s 58) n p := rfl
    refine ⟨s', ?_, fun q hq => by rw [b2 q hq, a3 q hq]⟩
    rw [g12_16 h.th h.1, if_neg (by omega), a1, bnV_some, c1, bnL_some, w]
    by_cases z : (bm (s 58) n p).2 < eV (s 58) n (p + 1)
    · rw [if_pos (cmpL_gt0.mpr z)]
      rw [eb, if_pos z] at b1
      exact b1
    · rw [if_neg (fun y => z (cmpL_gt0.mp y))]
      rw [eb, if_neg z] at b1
      exact b1
theorem l_print9 {n : Nat} : ∀ (m p : Nat) (s : SG), p + m = 60 → Inv s → s 58 0 = n → ∃ s', sem 177 7 [aA 56, aI (bm (s 58) n p).1, aL (bm (s 58) n p).2, aU, aI ((p + 1 : Nat) : Int), aU, aU] [] s = some (aI (bm (s 58) n 60).1, s') ∧ ∀ q, q ≠ 61 → s' q = s q := by
  intro m
  induction m with
  | zero =>
    intro p s hm h hn
    have : p = 60 := by omega
    subst this
    rw [g177_7 h.1, if_neg (by omega)]
    exact ⟨s, rfl, fun _ _ => rfl⟩
  | succ m ih =>
    intro p s hm h hn
    have w : w32 (((p + 1 : Nat) : Int) + 1) = ((p + 1 + 1 : Nat) : Int) := by rw [w32_id (by omega) (by omega)]; omega
    obtain ⟨s1, a1, a2, a3⟩ := c_give9 h.1 h.tg hn ((p + 1 : Nat) : Int) (-1) (by omega)
    rw [Int.toNat_natCast] at a3
    have hI : Inv s1 := h.sc (Sc.k61 a2)
    have e58 : s1 58 = s 58 := a2 58 (by decide)
    have r9' := g0_rng (s 58) (-1) (n := n) (p := p + 1) (by omega)
    have c1 := c_earn9 hI (by rw [e58]; exact hn) (p := ((p + 1 : Nat) : Int)) (by omega) (fun x x0 x1 => by have := r9' x x0 x1; rw [a3 x x0 x1]; omega)
    have ev : ern (s1 58) ((p + 1 : Nat) : Int) (sS (s1 58) (s1 61) n) = eV (s 58) n (p + 1) := by
      rw [e58]
      unfold eV
      rw [sS_cg (s 58) a3 n (Nat.le_refl n)]
    rw [ev] at c1
    have i := ih (p + 1) s1 (by omega) hI (by rw [e58]; exact hn)
    rw [e58] at i
    obtain ⟨s', b1, b2⟩ := i
    have eb : bm (s 58) n (p + 1) = if (bm (s 58) n p).2 < eV (s 58) n (p + 1) then (((p + 1 : Nat) : Int), eV (s 58) n (p + 1)) else bm (s 58) n p := rfl
    refine ⟨s', ?_, fun q hq => by rw [b2 q hq, a2 q hq]⟩
    have np : ¬ ((p + 1 : Nat) : Int) = 0 := by omega
    rw [g177_7 h.1, if_pos (by omega), a1, bnV_some, c1, bnL_some, w, if_neg np, if_neg np]
    by_cases z : (bm (s 58) n p).2 < eV (s 58) n (p + 1)
    · rw [if_pos (cmpL_gt0.mpr z), if_pos (cmpL_gt0.mpr z)]
      rw [eb, if_pos z] at b1
      exact b1
    · rw [if_neg (fun y => z (cmpL_gt0.mp y)), if_neg (fun y => z (cmpL_gt0.mp y))]
      rw [eb, if_neg z] at b1
      exact b1
theorem q_print {s : SG} (h : Inv s) : ∃ r s1 s2, sem 113 0 [aA 0] [] s = some (aI r, s1) ∧ sem 177 0 [aA 56, aU, aU, aU, aU, aU, aU] [] s1 = some (aI r, s2) ∧ Inv s2 := by
  have n3 := h.tg.1
  obtain ⟨n, hn⟩ : ∃ n : Nat, s 58 0 = n := ⟨(s 58 0).toNat, by omega⟩
  obtain ⟨s1, a1, a2, a3⟩ := c_giveNone h
  have hI : Inv s1 := h.sc (Sc.k9 a2)
  have e58 : s1 58 = s 58 := a2 58 (by decide)
  have e0 : s1 0 9 = s 0 9 := by rw [a2 0 (by decide)]
  have z9 : ∀ x : Int, 0 ≤ x → x < n → s1 9 x = gv (s 58) (-1) n 0 (fun _ => 0) x := fun x x0 x1 => a3 x x0 (by omega)
  have c1 := c_earnC hI (by rw [e58]; exact hn) (p := 0) (by decide) (fun x x0 x1 => by rw [a3 x x0 (by omega)]; decide)
  have ev : ern (s1 58) 0 (sS (s1 58) (s1 9) n) = eV (s 58) n 0 := by
    rw [e58]
    unfold eV
    rw [sS_cg (s 58) z9 n (Nat.le_refl n)]
    rfl
  rw [ev, e0] at c1
  have i := l_printC (n := n) 60 0 s1 (by decide) hI (by rw [e58]; exact hn) (by rw [e58]; exact z9)
  rw [e58, e0] at i
  obtain ⟨s2, b1, b2⟩ := i
  have hI2 : Inv s2 := hI.sc (Sc.k9 b2)
  have f58 : s2 58 = s 58 := (b2 58 (by decide)).trans e58
  obtain ⟨s3, d1, d2, d3⟩ := c_give9 hI2.1 hI2.tg (by rw [f58]; exact hn) 0 (-1) (by decide)
  have hI3 : Inv s3 := hI2.sc (Sc.k61 d2)
  have g58 : s3 58 = s 58 := (d2 58 (by decide)).trans f58
  have z61 : ∀ x : Int, 0 ≤ x → x < n → s3 61 x = 0 := d3
  have c2 := c_earn9 hI3 (by rw [g58]; exact hn) (p := 0) (by decide) (fun x x0 x1 => by rw [z61 x x0 x1]; decide)
  have ev2 : ern (s3 58) 0 (sS (s3 58) (s3 61) n) = eV (s 58) n 0 := by
    rw [g58]
    unfold eV
    rw [sS_cg (s 58) (f := s3 61) (f' := gv (s 58) (-1) n 0 (fun _ => 0)) z61 n (Nat.le_refl n)]
    rfl
  rw [ev2] at c2
  have i2 := l_print9 (n := n) 60 0 s3 (by decide) hI3 (by rw [g58]; exact hn)
  rw [g58] at i2
  obtain ⟨s4, k1, k2⟩ := i2
  refine ⟨(bm (s 58) n 60).1, s2, s4, ?_, ?_, hI3.sc (Sc.k61 k2)⟩
  · rw [g113_0 h.th h.1 h.tw, g12_0 h.th h.1, a1, bnV_some, c1, bnL_some]
    have b1' : sem 12 16 [aA 5, aA (s 0 9), aI 0, aL (eV (s 58) n 0), aU, aI 1, aU, aU] [] s1 = _ := b1
    rw [b1', bnI_some]
  · rw [g177_0 hI2.1, g177_7 hI2.1, if_pos (by decide), d1, bnV_some, c2, bnL_some, if_pos rfl, if_pos rfl, show w32 (0 + 1) = 1 from rfl]
    exact k1

/-! days -/
def DC (a a' : SG) : Prop := ∀ k i, ¬ (k = 18 ∨ (k = 23 ∧ 6 ≤ i) ∨ (24 ≤ k ∧ k ≤ 29)) → a' k i = a k i
def DR (b b' : SG) : Prop := ∀ k i, ¬ (k = 68 ∨ (k = 56 ∧ 33 ≤ i ∧ i ≤ 38) ∨ (72 ≤ k ∧ k ≤ 78)) → b' k i = b k i
theorem DC.tr {a a' a2 : SG} (h : DC a a') (g : DC a' a2) : DC a a2 := fun k i hk => (g k i hk).trans (h k i hk)
theorem DR.tr {a a' a2 : SG} (h : DR a a') (g : DR a' a2) : DR a a2 := fun k i hk => (g k i hk).trans (h k i hk)
theorem TwC.dc {a a' : SG} (h : TwC a (a 0 9)) (f : DC a a') : TwC a' (a' 0 9) := by
  unfold TwC at h ⊢
  rw [f 0 9 (by omega), f 0 10 (by omega)]
  exact h
set_option maxHeartbeats 4000000 in
theorem Mo.hab {a b : SG} (h : Mo a b) {c v : Int} (hv : 0 ≤ v ∧ v ≤ 9) : Mo (up a 18 c v) (up b 68 c v) := by
  obtain ⟨h0, h1, ⟨t1, t2, t3⟩, m1, m2, m3, m4, m5, m6⟩ := h
  have hs : ∀ k i, k ≠ 18 → up a 18 c v k i = a k i := fun k i hk => up_ne hk i
  have gs : ∀ k i, k ≠ 68 → up b 68 c v k i = b k i := fun k i hk => up_ne hk i
  have e58 : up b 68 c v 58 = b 58 := up_k (by decide)
  refine ⟨RefC.upd h0 (rcb_a (by decide)), RefC.upd h1 (rcb_a (by decide)), ⟨by rw [hs 0 9 (by decide)]; exact t1, ?_, by rw [e58]; exact t3⟩, ?_⟩
  · rw [hs 0 9 (by decide), e58]
    intro i i0 i1
    have h2 := t2 i i0 i1
    unfold tv at h2 ⊢
    rcases t1 with t | t
    · rw [t] at h2 ⊢
      simp (disch := omega) only [hs]
      exact h2
    · rw [t] at h2 ⊢
      simp (disch := omega) only [hs]
      exact h2
  · refine ⟨?_, fun x x0 x1 => ?_, ?_, ?_, ?_, ?_⟩
    · simp (disch := omega) only [hs, gs]
      exact m1
    · obtain ⟨o1, o2, o3, o4, o5, o6, o7⟩ := m2 x x0 x1
      rw [up_i, up_i]
      simp (disch := omega) only [hs, gs]
      by_cases z : x = c
      · rw [if_pos z, if_pos z]
        exact ⟨o1, rfl, o3, o4, hv, o6, o7⟩
      · rw [if_neg z, if_neg z]
        exact ⟨o1, o2, o3, o4, o5, o6, o7⟩
    · simp (disch := omega) only [hs, gs]
      exact m3
    · simp (disch := omega) only [hs, gs]
      exact m4
    · simp (disch := omega) only [hs, gs]
      exact m5
    · simp (disch := omega) only [hs, gs]
      exact m6
def nh (l hb : Int) : Int := if l = 0 then (if 0 < hb then hb - 1 else 0) else (if hb < 9 then hb + 1 else 9)
theorem nh_rng {l hb : Int} (h : 0 ≤ hb ∧ hb ≤ 9) : 0 ≤ nh l hb ∧ nh l hb ≤ 9 := by
  unfold nh
  repeat' split
  all_goals omega
theorem c_changeHabit {s : SG} (hR : RefC s) {c l : Int} (hc : 0 ≤ c ∧ c < 3) (hb : 0 ≤ s 18 c ∧ s 18 c ≤ 9) : sem 28 0 [aA 16, aI c, aI l, aU] [] s = some (aI (if nh l (s 18 c) < s 18 c then 1 else 0), up s 18 c (nh l (s 18 c))) := by
  have e : (if l = 0 then max (w32 (s 18 c - 1)) 0 else min (w32 (s 18 c + 1)) 9) = nh l (s 18 c) := by
    rw [w32_id (a := s 18 c - 1) (by omega) (by omega), w32_id (a := s 18 c + 1) (by omega) (by omega)]
    unfold nh
    repeat' split
    all_goals omega
  rw [g28_0 (Or.inl rfl) hR, c_isRow, if_pos hc, bnI_some, if_neg (by decide), g_t hc, show (16 : Int) + 2 = 18 from rfl, e]
  by_cases q : nh l (s 18 c) < s 18 c
  · rw [if_pos q, if_pos q]
  · rw [if_neg q, if_neg q]
theorem l_dayc {n : Nat} {N d : Int} : ∀ (m c : Nat) (a b : SG) (acc : Int), c + m = n → Mo a b → TwC a (a 0 9) → b 58 0 = n → (∀ x j : Int, 0 ≤ x → x < n → 0 ≤ j → j < 6 → a 27 (6 * x + j) = b 75 (6 * x + j)) → 0 ≤ acc ∧ acc ≤ (c : Int) → ∃ a' b' r, sem 147 19 [aA 0, aI acc, aI (c : Int)] [] a = some (aI r, a') ∧ sem 214 33 [aA 56, aI N, aI acc, aI d, aI (c : Int), aU, aU] [] b = sem 214 19 [aA 56, aI N, aI r, aI (w32 (d + 1)), aU, aU, aU] [] b' ∧ Mo a' b' ∧ DC a a' ∧ DR b b' := by
  intro m
  induction m with
  | zero =>
    intro c a b acc hc hM hw hn hr ha
    have : c = n := by omega
    subst this
    refine ⟨a, b, acc, ?_, ?_, hM, fun _ _ _ => rfl, fun _ _ _ => rfl⟩
    · rw [g147_19 hM.th hM.1 hw, hM.n4, hn, if_neg (Int.lt_irrefl _)]
    · rw [g214_33 hM.2.1, hn, if_neg (Int.lt_irrefl _)]
  | succ m ih =>
    intro c a b acc hc hM hw hn hr ha
    have n3 := hM.tg.1
    have cn : (c : Int) < n := by omega
    have c3 : 0 ≤ (c : Int) ∧ (c : Int) < 3 := by omega
    obtain ⟨r, rr, f1, f2⟩ := c_first hM.1 hM.2.1 c3 (fun j j0 j1 => hr (c : Int) j c3.1 cn j0 j1)
    obtain ⟨-, o2, -, -, o5, -⟩ := hM.2.2.2.2.1 (c : Int) c3.1 c3.2
    obtain ⟨l, hl⟩ : ∃ l, l = (if r = -9 then 1 else 0 : Int) := ⟨_, rfl⟩
    obtain ⟨v, hv⟩ : ∃ v, v = nh l (b 68 (c : Int)) := ⟨_, rfl⟩
    have rv : 0 ≤ v ∧ v ≤ 9 := by rw [hv]; exact nh_rng o5
    have ch := c_changeHabit (l := l) hM.1 c3 (by rw [o2]; exact o5)
    rw [o2, ← hv] at ch
    obtain ⟨k, hk⟩ : ∃ k, k = (if v < b 68 (c : Int) then 1 else 0 : Int) := ⟨_, rfl⟩
    have rk : 0 ≤ k ∧ k ≤ 1 := by rw [hk]; split <;> decide
    rw [← hk] at ch
    have M1 := hM.hab (c := (c : Int)) (v := v) rv
    have D1 : DC a (up a 18 (c : Int) v) := fun p i hp => by rw [up_app, if_neg (by omega)]
    have E1 : DR b (up b 68 (c : Int) v) := fun p i hp => by rw [up_app, if_neg (by omega)]
    have racc : 0 ≤ acc + k ∧ acc + k ≤ ((c + 1 : Nat) : Int) := by clear hk hv; omega
    obtain ⟨a2, b2, r2, j1, j2, j3, j4, j5⟩ := ih (c + 1) (up a 18 (c : Int) v) (up b 68 (c : Int) v) (acc + k) (by omega) M1 (hw.dc D1) (by rw [up_ne (by decide)]; exact hn) (fun x j x0 x1 j0 j1 => by rw [up_ne (by decide), up_ne (by decide)]; exact hr x j x0 x1 j0 j1) racc
    have en : (if (if r = -9 then 0 else 1 : Int) = 0 then if b 68 (c : Int) < 9 then w32 (b 68 (c : Int) + 1) else 9 else if 0 < b 68 (c : Int) then w32 (b 68 (c : Int) - 1) else 0) = v := by
      rw [w32_id (a := b 68 (c : Int) - 1) (by omega) (by omega), w32_id (a := b 68 (c : Int) + 1) (by omega) (by omega), hv, hl]
      unfold nh
      by_cases z : r = -9
      · rw [if_pos z, if_pos z, if_pos rfl, if_neg (show ¬ (1 : Int) = 0 by decide)]
      · rw [if_neg z, if_neg z, if_neg (show ¬ (1 : Int) = 0 by decide), if_pos rfl]
    have w1 : w32 ((c : Int) + 1) = ((c + 1 : Nat) : Int) := by rw [w32_id (by omega) (by omega)]; omega
    have w2 : w32 (acc + k) = acc + k := by clear w1 hk hv en; exact w32_id (by omega) (by omega)
    have w0 : w32 (acc + 1) = acc + 1 := by clear w1 w2 hk hv en; exact w32_id (by omega) (by omega)
    refine ⟨a2, b2, r2, ?_, ?_, j3, D1.tr j4, E1.tr j5⟩
    · rw [g147_19 hM.th hM.1 hw, hM.n4, hn, if_pos cn, f1, bnI_some, ← hl, ch, bnI_some, w1, w0]
      clear w0 w1 w2
      have : k = 0 ∨ k = 1 := by clear hk hv en; omega
      rcases this with z | z
      · rw [if_pos z]
        rw [z, Int.add_zero] at j1
        exact j1
      · rw [if_neg (by rw [z]; decide)]
        rw [z] at j1
        exact j1
    · rw [g214_33 hM.2.1, hn, if_pos cn, g_t c3, f2, bnI_some, en, ← hk, w2, w1]
      exact j2
theorem l_day {a b : SG} {n : Nat} {N d l : Int} (hM : Mo a b) (hw : TwC a (a 0 9)) (hn : b 58 0 = n) (hd : d < N) : ∃ a' b' r, sem 147 0 [aA 0, aU, aU] [] a = some (aI r, a') ∧ sem 214 19 [aA 56, aI N, aI l, aI d, aU, aU, aU] [] b = sem 214 19 [aA 56, aI N, aI r, aI (w32 (d + 1)), aU, aU, aU] [] b' ∧ Mo a' b' ∧ DC a a' ∧ DR b b' := by
  obtain ⟨a1, b1, e1, e2, e3, e4, e5, e6, e7, -⟩ := l_plain (n := n) hM hn
  have D1 : DC a a1 := fun k i hk => e6 k i (by omega)
  have E1 : DR b b1 := fun k i hk => e7 k i (by omega)
  have M1 := (hM.fa e3 e6).fb e4 e7
  obtain ⟨a2, b2, r, f1, f2, f3, f4, f5⟩ := l_dayc (n := n) (N := N) (d := d) n 0 a1 b1 0 (by omega) M1 (hw.dc D1) (by rw [e7.k58]; exact hn) (fun x j x0 x1 j0 j1 => (e5.row (x := x) (j := j) ⟨x0, x1⟩ ⟨j0, j1⟩).2.2.2.1) (by decide)
  refine ⟨a2, b2, r, ?_, ?_, f3, D1.tr f4, E1.tr f5⟩
  · rw [g147_0 hM.th hM.1 hw, e1, bnV_some]
    exact f1
  · rw [g214_19 hM.2.1, if_pos hd, e2, bnV_some]
    exact f2
theorem l_days {n : Nat} {N : Int} (hN : N ≤ 30) : ∀ (m : Nat) (d : Int) (a b : SG) (l : Int), d + m = N → 0 ≤ d → Mo a b → TwC a (a 0 9) → b 58 0 = n → ∃ a' b' r, sem 132 18 [aA 0, aI N, aI l, aI d] [] a = some (aI r, a') ∧ sem 214 19 [aA 56, aI N, aI l, aI d, aU, aU, aU] [] b = some (aI r, b') ∧ Mo a' b' ∧ DC a a' ∧ DR b b' := by
  intro m
  induction m with
  | zero =>
    intro d a b l hd h0 hM hw hn
    refine ⟨a, b, l, ?_, ?_, hM, fun _ _ _ => rfl, fun _ _ _ => rfl⟩
    · rw [g132_18 hM.1, if_neg (by omega)]
    · rw [g214_19 hM.2.1, if_neg (by omega)]
  | succ m ih =>
    intro d a b l hd h0 hM hw hn
    have dN : d < N := by omega
    obtain ⟨a1, b1, r1, e1, e2, e3, e4, e5⟩ := l_day (n := n) (N := N) (d := d) (l := l) hM hw hn dN
    obtain ⟨a2, b2, r2, f1, f2, f3, f4, f5⟩ := ih (d + 1) a1 b1 r1 (by omega) (by omega) e3 (hw.dc e4) (by rw [e5 58 0 (by omega)]; exact hn)
    have wd : w32 (d + 1) = d + 1 := w32_id (by omega) (by omega)
    rw [wd] at e2
    refine ⟨a2, b2, r2, ?_, e2.trans f2, f3, e4.tr f4, e5.tr f5⟩
    rw [g132_18 hM.1, if_pos dN, e1, bnI_some, wd]
    exact f1
theorem q_days {s : SG} (h : Inv s) (N : Int) : ∃ r s1 s2, sem 132 0 [aA 0, aI N, aU, aU] [] s = some (aI r, s1) ∧ sem 214 0 [aA 56, aI N, aU, aU, aU, aU, aU] [] s1 = some (aI r, s2) ∧ Inv s2 := by
  have n3 := h.tg.1
  obtain ⟨n, hn⟩ : ∃ n : Nat, s 58 0 = n := ⟨(s 58 0).toNat, by omega⟩
  by_cases q : 1 ≤ N ∧ N ≤ 30
  · obtain ⟨s1, bz, r, e1, -, e3, e4, -⟩ := l_days (n := n) (N := N) q.2 N.toNat 0 s s 0 (by omega) (by decide) h.mo h.tw hn
    have k1 : ∀ k : Int, 56 ≤ k → s1 k = s k := fun k hk => funext fun i => e4 k i (by omega)
    have M1 : Mo s s1 := h.mo.rb e3.1 k1
    obtain ⟨p1, s2, r', f1, f2, f3, f4, f5⟩ := l_days (n := n) (N := N) q.2 N.toNat 0 s s1 0 (by omega) (by decide) M1 h.tw (by rw [k1 58 (by decide)]; exact hn)
    rw [e1] at f1
    cases f1
    refine ⟨r, s1, s2, ?_, ?_, ?_⟩
    · rw [g132_0 h.1, if_neg (by omega), if_neg (by omega)]
      exact e1
    · rw [g214_0 e3.1, c_in, if_pos q, bnI_some, if_neg (by decide)]
      exact f2
    · refine h.morn (fun k i hk hc => ?_) ?_
      · unfold scr at hk
        unfold Cmorn at hc
        rw [f5 k i (by omega), e4 k i (by omega)]
      · have k2 : ∀ k : Int, k ≤ 55 → s2 k = s1 k := fun k hk => funext fun i => f5 k i (by omega)
        have mm := f3.2.2.2
        show MoM s2 s2
        unfold MoM at mm ⊢
        have e16 := k2 16 (by decide)
        have e17 := k2 17 (by decide)
        have e18 := k2 18 (by decide)
        have e19 := k2 19 (by decide)
        have e20 := k2 20 (by decide)
        have e21 := k2 21 (by decide)
        have e22 := k2 22 (by decide)
        rw [e16, e17, e18, e19, e20, e21, e22]
        exact mm
  · refine ⟨-2, s, s, ?_, ?_, h⟩
    · rw [g132_0 h.1]
      by_cases z : N < 1
      · rw [if_pos z]
      · rw [if_neg z, if_pos (by omega)]
    · rw [g214_0 h.1, c_in, if_neg q, bnI_some, if_pos rfl]

/-! mornings: half hour by half hour -/
def HR (a b : SG) (h : Int) (n : Nat) (B : Int) : Prop := GR a b B ∧ (a 23 8 = b 56 34 ∧ 0 ≤ a 23 8 ∧ a 23 8 ≤ 6000 * h) ∧ (∀ x j : Int, 0 ≤ x → x < (n : Int) → 0 ≤ j → j < h → RowI a b x j) ∧ (∀ x : Int, 0 ≤ x → x < (n : Int) → a 29 x = (if h = 0 then 0 else b 73 (6 * x + h - 1)) ∧ (0 ≤ a 29 x ∧ a 29 x ≤ 1000 * h) ∧ (0 < h → a 28 x = b 72 (6 * x + h - 1))) ∧ (∀ y : Int, 0 ≤ y → y < 3 → (h = 0 → b 77 y = 0) ∧ (0 < h → h ≤ 5 → b 77 y = gs b (h - 1) y n))
def CrR (a b : SG) (n : Nat) : Prop := ∀ c : Int, 0 ≤ c → c < (n : Int) → (c = a 23 9 ↔ c = b 56 38)
theorem SecR.f {a b a' b' : SG} (h : SecR a b) (f : FC a a') (g : FR b b') : SecR a' b' := by
  unfold SecR at h ⊢
  rw [f 23 10 (by omega), f 23 11 (by omega), f 23 12 (by omega), g 56 35 (by omega), g 56 36 (by omega), g 56 37 (by omega), g 58 0 (by omega)]
  exact h
theorem CrR.f {a b a' b' : SG} {n : Nat} (h : CrR a b n) (f : FC a a') (g : FR b b') : CrR a' b' n := by
  unfold CrR at h ⊢
  rw [f 23 9 (by omega), g 56 38 (by omega)]
  exact h
theorem l_sells {h B : Int} {n : Nat} (hB : B ≤ 1000) (hh : 0 ≤ h ∧ h ≤ 5) : ∀ (m c : Nat) (a b : SG), c + m = n → Mo a b → b 58 0 = n → CrR a b n → HM a b h c n B → ∃ a' b', sem 48 88 [aA 23, aA (a 0 9), aA 16, aI h, aI (c : Int)] [] a = sem 48 62 [aA 23, aA (a 0 9), aA 16, aI (h + 1), aU] [] a' ∧ sem 205 108 [aA 56, aI h, aI (c : Int)] [] b = sem 205 132 [aA 56, aI h, aI 0] [] b' ∧ RefC a' ∧ RefC b' ∧ HM a' b' h n n B ∧ FC a a' ∧ FR b b' ∧ tot n a' = tot n a := by
  intro m
  induction m with
  | zero =>
    intro c a b hc hM hn hC hH
    have : c = n := by omega
    subst this
    have e6 : a 23 6 = c := hH.1.2.2.2.trans hn
    rw [g48_88 hM.th hM.1, g205_108 hM.2.1, e6, hn, if_neg (Int.lt_irrefl _), if_neg (Int.lt_irrefl _), w32_id (a := h + 1) (by omega) (by omega)]
    exact ⟨a, b, rfl, rfl, hM.1, hM.2.1, hH, FC.rf a, FR.rf b, rfl⟩
  | succ m ih =>
    intro c a b hc hM hn hC hH
    have cn : c < n := by omega
    have cn' : (c : Int) < n := by omega
    have c0 : 0 ≤ (c : Int) := by omega
    have n3 := hM.tg.1
    have e6 : a 23 6 = n := hH.1.2.2.2.trans hn
    obtain ⟨a1, b1, e1, e2, e3, e4, e5, e7, e8, e9⟩ := l_sell hM hn hH hB cn hh (hC (c : Int) c0 cn')
    have M1 : Mo a1 b1 := (hM.fa e3 e7.w).fb e4 e8.w
    have t9 : a1 0 9 = a 0 9 := e7.w.k09
    obtain ⟨a2, b2, f1, f2, f3, f4, f5, f6, f7, f8⟩ := ih (c + 1) a1 b1 (by omega) M1 (by rw [e8.k58]; exact hn) (hC.f e7 e8) e5
    rw [t9] at f1
    have w : w32 ((c : Int) + 1) = ((c + 1 : Nat) : Int) := by rw [w32_id (by omega) (by omega)]; omega
    refine ⟨a2, b2, ?_, ?_, f3, f4, f5, e7.tr f6, e8.tr f7, f8.trans e9⟩
    · rw [g48_88 hM.th hM.1, e6, if_pos cn', e1, bnV_some, w]
      exact f1
    · rw [g205_108 hM.2.1, hn, if_pos cn', e2, bnV_some, w]
      exact f2
theorem l_clear78 {h : Int} : ∀ (n : Nat) (l : Int) (s : SG), l + n = 3 → 0 ≤ l → RefC s → ∃ s', sem 205 88 [aA 56, aI h, aI l] [] s = sem 205 108 [aA 56, aI h, aI 0] [] s' ∧ RefC s' ∧ (∀ c, l ≤ c → c < 3 → s' 78 c = 0) ∧ (∀ c, c < l → s' 78 c = s 78 c) ∧ ∀ q, q ≠ 78 → s' q = s q := by
  intro n
  induction n with
  | zero =>
    intro l s hl h0 hR
    rw [g205_88 hR, if_neg (by omega)]
    exact ⟨s, rfl, hR, fun c h1 h2 => by omega, fun _ _ => rfl, fun _ _ => rfl⟩
  | succ n ih =>
    intro l s hl h0 hR
    rw [g205_88 hR, if_pos (by omega), g_t (by omega), w32_id (a := l + 1) (by omega) (by omega)]
    obtain ⟨s', e1, e2, e3, e4, e5⟩ := ih (l + 1) (up s 78 l 0) (by omega) (by omega) (RefC.upd hR (rcb_a (by decide)))
    refine ⟨s', e1, e2, fun c h1 h2 => ?_, fun c h1 => ?_, fun q h1 => by rw [e5 q h1, up_k h1]⟩
    · by_cases e : c = l
      · rw [e, e4 l (by omega), up_at]
      · exact e3 c (by omega) h2
    · rw [e4 c (by omega), up_ni (by omega)]
theorem l_copy77 {h : Int} (hh : 0 ≤ h ∧ h ≤ 5) : ∀ (n : Nat) (l : Int) (s : SG), l + n = 3 → 0 ≤ l → RefC s → ∃ s', sem 205 132 [aA 56, aI h, aI l] [] s = sem 205 47 [aA 56, aI (h + 1), aU] [] s' ∧ RefC s' ∧ (∀ c, l ≤ c → c < 3 → s' 77 c = s 78 c) ∧ (∀ c, c < l → s' 77 c = s 77 c) ∧ ∀ q, q ≠ 77 → s' q = s q := by
  intro n
  induction n with
  | zero =>
    intro l s hl h0 hR
    rw [g205_132 hR, if_neg (by omega), w32_id (a := h + 1) (by omega) (by omega)]
    exact ⟨s, rfl, hR, fun c h1 h2 => by omega, fun _ _ => rfl, fun _ _ => rfl⟩
  | succ n ih =>
    intro l s hl h0 hR
    rw [g205_132 hR, if_pos (by omega), g_t (by omega), w32_id (a := l + 1) (by omega) (by omega)]
    obtain ⟨s', e1, e2, e3, e4, e5⟩ := ih (l + 1) (up s 77 l (s 78 l)) (by omega) (by omega) (RefC.upd hR (rcb_a (by decide)))
    refine ⟨s', e1, e2, fun c h1 h2 => ?_, fun c h1 => ?_, fun q h1 => by rw [e5 q h1, up_k h1]⟩
    · by_cases e : c = l
      · rw [e, e4 l (by omega), up_at]
      · rw [e3 c (by omega) h2, up_ne (by decide)]
    · rw [e4 c (by omega), up_ni (by omega)]
theorem l_hour {a b : SG} {h B : Int} {n : Nat} (hM : Mo a b) (hn : b 58 0 = n) (hS : SecR a b) (hC : CrR a b n) (hH : HR a b h n B) (hB : B ≤ 900) (hh : 0 ≤ h ∧ h ≤ 5) : ∃ a' b', sem 48 62 [aA 23, aA (a 0 9), aA 16, aI h, aU] [] a = sem 48 62 [aA 23, aA (a 0 9), aA 16, aI (h + 1), aU] [] a' ∧ sem 205 47 [aA 56, aI h, aU] [] b = sem 205 47 [aA 56, aI (h + 1), aU] [] b' ∧ RefC a' ∧ RefC b' ∧ HR a' b' (h + 1) n (B + 60) ∧ FC a a' ∧ FR b b' ∧ tot n a' = tot n a + sAt b h := by
  obtain ⟨H1, H2, H3, H4, H5⟩ := hH
  obtain ⟨a1, a2, b1, g1, g2, g3, g4⟩ := l_give (h := h) hM H1 (by omega)
  have M1 : Mo a2 b1 := g4.mo hM
  obtain ⟨G1, G2, G3, G4, G5, G6⟩ := g4
  have fA : FC a a2 := G4.c
  have fB : FR b b1 := G5.r
  have S1 : SecR a2 b1 := hS.f fA fB
  obtain ⟨a3, k1, k2, k3, k4, k5, k6, k7, k8⟩ := l_second (h := h) M1 G3 (by omega) S1
  obtain ⟨b2, hb2⟩ : ∃ z, z = up b1 76 (b1 56 36) (b1 76 (b1 56 36) + sAt b1 h) := ⟨_, rfl⟩
  have R2 : RefC b2 := by rw [hb2]; exact RefC.upd G2 (rcb_a (by decide))
  have f2 : ∀ q, q ≠ 76 → b2 q = b1 q := fun q hq => by rw [hb2, up_k hq]
  rw [← hb2] at k3
  obtain ⟨b3, j1, j2, j3, -, j5⟩ := l_clear78 (h := h) 3 0 b2 (by decide) (by decide) R2
  have fA3 : FC a a3 := fA.tr k4.c
  have fB3 : FR b b3 := fun k i hk => by
    rw [j5 k (by omega), f2 k (by omega)]
    exact fB k i hk
  have t9 : a3 0 9 = a 0 9 := fA3.w.k09
  have M3 : Mo a3 b3 := (hM.fa k2 fA3.w).fb j2 fB3.w
  have n58 : b3 58 0 = n := by rw [fB3.k58]; exact hn
  have p : ∀ q, q ≠ 76 → q ≠ 78 → q ≠ 56 → b3 q = b q := fun q q1 q2 q3 => by
    rw [j5 q q2, f2 q q1]
    exact funext fun i => G5 q i (by omega)
  have p56 : ∀ i, i ≠ 33 → b3 56 i = b 56 i := fun i hi => by
    rw [j5 56 (by decide), f2 56 (by decide)]
    exact G5 56 i (by omega)
  have r : ∀ q, q ≠ 28 → q ≠ 23 → a3 q = a q := fun q q1 q2 => funext fun i => by
    rw [k4 q i (by omega), G4 q i (by omega)]
  have r23 : ∀ i, i ≠ 7 → a3 23 i = a 23 i := fun i hi => by
    rw [k4 23 i (by omega), G4 23 i (by omega)]
  have sA : sAt b1 h = sAt b h := by
    unfold sAt
    rw [fB 56 35 (by omega), fB 56 37 (by omega)]
  have HM0 : HM a3 b3 h 0 n (B + 60) := by
    refine ⟨?_, ?_, fun x j x0 x1 j0 hj => ?_, fun x x0 x1 => ?_, fun x x0 x1 => ?_, fun y y0 y1 => ?_, fun y y0 y1 => ?_⟩
    · unfold GR at k3 ⊢
      rw [j5 58 (by decide), j5 76 (by decide), j5 56 (by decide)]
      exact k3
    · rw [r23 8 (by decide), p56 34 (by decide)]
      exact ⟨H2.1, H2.2.1, by have := H2.2.2; omega⟩
    · have o := H3 x j x0 x1 j0 (by omega)
      unfold RowI at o ⊢
      rw [r 24 (by decide) (by decide), r 25 (by decide) (by decide), r 26 (by decide) (by decide), r 27 (by decide) (by decide), p 72 (by decide) (by decide) (by decide), p 73 (by decide) (by decide) (by decide), p 74 (by decide) (by decide) (by decide), p 75 (by decide) (by decide) (by decide)]
      exact o
    · obtain ⟨o1, o2, o3⟩ := H4 x x0 x1
      have nx : ¬ x < ((0 : Nat) : Int) := by omega
      rw [r 29 (by decide) (by decide), p 73 (by decide) (by decide) (by decide), if_neg nx, if_neg nx]
      exact ⟨o1, o2.1, by omega⟩
    · omega
    · rw [j3 y y0 y1]
      split <;> rfl
    · obtain ⟨o1, o2⟩ := H5 y y0 y1
      rw [p 77 (by decide) (by decide) (by decide)]
      exact ⟨o1, fun hp => by
        rw [o2 hp hh.2]
        exact (gs_cg (p 58 (by decide) (by decide) (by decide)) n (fun x hx => by rw [p 75 (by decide) (by decide) (by decide)])).symm⟩
  obtain ⟨a4, b4, l1, l2, l3, l4, l5, l6, l7, l8⟩ := l_sells (h := h) (B := B + 60) (n := n) (by omega) hh n 0 a3 b3 (by omega) M3 n58 (hC.f fA3 fB3) HM0
  obtain ⟨b5, m1, m2, m3, -, m5⟩ := l_copy77 hh 3 0 b4 (by decide) (by decide) l4
  have fB5 : FR b b5 := (fB3.tr l7).tr (fun k i hk => by rw [m5 k (by omega)])
  have t9' : a2 0 9 = a 0 9 := fA.w.k09
  refine ⟨a4, b5, ?_, ?_, l3, m2, ?_, fA3.tr l6, fB5, ?_⟩
  · rw [t9] at l1
    rw [g48_62 hM.th hM.1, if_pos (by omega), g1, bnV_some, g2, bnV_some, k1, bnV_some]
    exact l1
  · rw [g205_47 hM.2.1, if_pos (by omega), g3, bnV_some, g_t k5]
    refine Eq.trans ?_ (j1.trans (l2.trans m1))
    rw [hb2]
    unfold sAt
    unfold sAt at k6
    by_cases q : h = b1 56 35
    · rw [if_pos q] at k6
      rw [if_pos q, if_pos q, w32_id (by omega) (by omega)]
    · rw [if_neg q] at k6
      rw [if_neg q, if_neg q, w32_id (by omega) (by omega)]
  · obtain ⟨o1, o2, o3, o4, o5, o6, o7⟩ := l5
    refine ⟨?_, ?_, fun x j x0 x1 j0 hj => ?_, fun x x0 x1 => ?_, fun y y0 y1 => ⟨fun hp => by omega, fun hp hq => ?_⟩⟩
    · unfold GR at o1 ⊢
      rw [m5 58 (by decide), m5 76 (by decide), m5 56 (by decide)]
      exact o1
    · rw [m5 56 (by decide)]
      have n3 := hM.tg.1
      exact ⟨o2.1, o2.2.1, by have := o2.2.2; omega⟩
    · have q := o3 x j x0 x1 j0 (by omega)
      unfold RowI at q ⊢
      rw [m5 72 (by decide), m5 73 (by decide), m5 74 (by decide), m5 75 (by decide)]
      exact q
    · obtain ⟨q1, q2, q3⟩ := o4 x x0 x1
      rw [if_pos x1] at q1 q3
      rw [m5 72 (by decide), m5 73 (by decide), if_neg (show ¬ h + 1 = 0 by omega), show 6 * x + (h + 1) - 1 = 6 * x + h by omega]
      exact ⟨q1, ⟨q2, by omega⟩, fun _ => o5 x x0 x1⟩
    · rw [m3 y y0 y1, o6 y y0 y1, if_neg (by omega), show h + 1 - 1 = h by omega]
      exact (gs_cg (m5 58 (by decide)) n (fun x hx => by rw [m5 75 (by decide)])).symm
  · have e58 : b1 58 0 = n := by rw [fB.k58]; exact hn
    rw [l8]
    unfold tot
    rw [r 29 (by decide) (by decide), k8]
    rw [e58] at k7
    rw [hn] at G6
    rw [k7, sA]
    omega

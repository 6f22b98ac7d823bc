/-! mornings: a corner's half hour, side by side -/
def tot (n : Int) (a : SG) : Int := sm3 n (a 28) + sm3 n (a 29) + a 23 7
theorem HM.u {a b : SG} {h B : Int} {n c : Nat} (hM : Mo a b) (hn : b 58 0 = n) (hH : HM a b h c n B) (hc : c < n) (hh : 0 ≤ h ∧ h ≤ 5) : pvf b c h = a 29 c ∧ (∀ z, 0 ≤ z → z < 3 → 0 ≤ b 78 z ∧ b 78 z ≤ 100000) := by
  have n3 := hM.tg.1
  obtain ⟨h1, h2, h3, h4, h5, h6, h7⟩ := hH
  constructor
  · have := (h4 (c : Int) (by omega) (by omega)).1
    rw [if_neg (Int.lt_irrefl _)] at this
    rw [this]
    rfl
  · intro z z0 z1
    rw [h6 z z0 z1]
    split
    · decide
    · have wr := WB_rng h
      have c3 : (c : Int) ≤ 3 := by omega
      have g := gs_rng (b := b) (j := h) (y := z) (M := WB h) (by omega) c (fun x hx => (h3 (x : Int) h (by omega) (by omega) hh.1 (Or.inr ⟨rfl, by omega⟩)).2.2.2.2)
      have m := mul_rng (a := WB h) (A := 1820) (b := (c : Int)) (B := 3) (by omega) (by omega)
      exact ⟨g.1, by have := g.2; omega⟩
theorem l_sell {a b : SG} {h B : Int} {n c : Nat} (hM : Mo a b) (hn : b 58 0 = n) (hH : HM a b h c n B) (hB : B ≤ 1000) (hc : c < n) (hh : 0 ≤ h ∧ h ≤ 5) (hcr : (c : Int) = a 23 9 ↔ (c : Int) = b 56 38) : ∃ a' b', sem 53 0 [aA 23, aA (a 0 9), aA 16, aI (c : Int), aI h, aU, aU, aU] [] a = some (aU, a') ∧ sem 204 0 [aA 56, aI (c : Int), aI h, aU, aU, aU, aU, aU] [] b = some (aU, b') ∧ RefC a' ∧ RefC b' ∧ HM a' b' h (c + 1) n B ∧ FC a a' ∧ FR b b' ∧ tot n a' = tot n a := by
  have n3 := hM.tg.1
  obtain ⟨cm1, cm2⟩ := l_sell1 hM hn hH hc hh hcr
  obtain ⟨co1, co2, co3⟩ := l_comeOn hM hn hH hc hh
  obtain ⟨u1, u2⟩ := hH.u hM hn hc hh
  have wr := WB_rng h
  have nx := hM.nr (c := (c : Int)) (by omega)
  obtain ⟨h1, h2, h3, h4, h5, h6, h7⟩ := hH
  have cn : (c : Int) < n := by omega
  obtain ⟨t1, t2, t3⟩ := h1.1 (c : Int) (by omega) (by omega)
  have t4 := h1.2.2.1
  obtain ⟨-, s1, s2⟩ := h4 (c : Int) (by omega) cn
  rw [if_neg (Int.lt_irrefl _)] at s2
  obtain ⟨w, hw⟩ : ∃ w, w = cm b c h := ⟨_, rfl⟩
  rw [← hw] at cm1 cm2
  obtain ⟨y, hy⟩ : ∃ y, y = sl w (a 28 c) := ⟨_, rfl⟩
  have ry : 0 ≤ y ∧ y ≤ a 28 c ∧ y ≤ w := by
    rw [hy]
    unfold sl
    split <;> omega
  obtain ⟨v, hv⟩ : ∃ v, v = a 28 c - y := ⟨_, rfl⟩
  obtain ⟨u, hu⟩ : ∃ u, u = a 29 c + y := ⟨_, rfl⟩
  obtain ⟨no, hno⟩ : ∃ no, no = w - y := ⟨_, rfl⟩
  obtain ⟨r, hr⟩ : ∃ r, r = 6 * (c : Int) + h := ⟨_, rfl⟩
  obtain ⟨z, hz⟩ : ∃ z, z = zf b c h := ⟨_, rfl⟩
  obtain ⟨A1, A2⟩ := l_sell2 (c := c) hM (by omega) hh (w := w) (by omega) (by omega) (by omega) (by omega) hy hv hu hno hr
  obtain ⟨B1, B2⟩ := l_sell9 (c := c) hM (by omega) hh (by omega) (by omega) (by omega) u2 (pv := a 29 c) (v := v) (u := u) (no := no) u1.symm (by omega) hw (by rw [← t1]; exact hy) (by rw [← t1]; exact hv) hu hno hr hz
  have rno : 0 ≤ no ∧ no ≤ WB h := by omega
  obtain ⟨Hc, hHc⟩ : ∃ x, x = a 23 8 + if h = 5 ∨ b 58 (7 + (c : Int)) = -9 then no else 0 := ⟨_, rfl⟩
  obtain ⟨Gc, hGc⟩ : ∃ x, x = b 78 z + if h = 5 ∨ b 58 (7 + (c : Int)) = -9 then 0 else no := ⟨_, rfl⟩
  rw [← hHc] at A1 A2
  rw [← h2.1, ← hHc, ← hGc] at B1 B2
  obtain ⟨a', ha'⟩ : ∃ x, x = up (up (up (up (up (up (up a 28 c v) 29 c u) 24 r v) 25 r u) 26 r w) 27 r no) 23 8 Hc := ⟨_, rfl⟩
  obtain ⟨b', hb'⟩ : ∃ x, x = up (up (up (up (up (up (up b 76 c v) 72 r v) 73 r u) 74 r w) 75 r no) 56 34 Hc) 78 z Gc := ⟨_, rfl⟩
  rw [← ha'] at A1 A2
  rw [← hb'] at B1 B2
  have a28 : ∀ i, a' 28 i = if i = (c : Int) then v else a 28 i := fun i => by rw [ha', up_ne (by decide), up_ne (by decide), up_ne (by decide), up_ne (by decide), up_ne (by decide), up_ne (by decide), up_i]
  have a29 : ∀ i, a' 29 i = if i = (c : Int) then u else a 29 i := fun i => by rw [ha', up_ne (by decide), up_ne (by decide), up_ne (by decide), up_ne (by decide), up_ne (by decide), up_i, up_ne (by decide)]
  have a24 : ∀ i, a' 24 i = if i = r then v else a 24 i := fun i => by rw [ha', up_ne (by decide), up_ne (by decide), up_ne (by decide), up_ne (by decide), up_i, up_ne (by decide), up_ne (by decide)]
  have a25 : ∀ i, a' 25 i = if i = r then u else a 25 i := fun i => by rw [ha', up_ne (by decide), up_ne (by decide), up_ne (by decide), up_i, up_ne (by decide), up_ne (by decide), up_ne (by decide)]
  have a26 : ∀ i, a' 26 i = if i = r then w else a 26 i := fun i => by rw [ha', up_ne (by decide), up_ne (by decide), up_i, up_ne (by decide), up_ne (by decide), up_ne (by decide), up_ne (by decide)]
  have a27 : ∀ i, a' 27 i = if i = r then no else a 27 i := fun i => by rw [ha', up_ne (by decide), up_i, up_ne (by decide), up_ne (by decide), up_ne (by decide), up_ne (by decide), up_ne (by decide)]
  have a238 : a' 23 8 = Hc := by rw [ha', up_at]
  have FA : FC a a' := fun k i hk => by rw [ha', up_app, if_neg (by omega), up_app, if_neg (by omega), up_app, if_neg (by omega), up_app, if_neg (by omega), up_app, if_neg (by omega), up_app, if_neg (by omega), up_app, if_neg (by omega)]
  have a23 : ∀ i, i ≠ 8 → a' 23 i = a 23 i := fun i hi => by rw [ha', up_ni hi, up_ne (by decide), up_ne (by decide), up_ne (by decide), up_ne (by decide), up_ne (by decide), up_ne (by decide)]
  have b76 : ∀ i, b' 76 i = if i = (c : Int) then v else b 76 i := fun i => by rw [hb', up_ne (by decide), up_ne (by decide), up_ne (by decide), up_ne (by decide), up_ne (by decide), up_ne (by decide), up_i]
  have b72 : ∀ i, b' 72 i = if i = r then v else b 72 i := fun i => by rw [hb', up_ne (by decide), up_ne (by decide), up_ne (by decide), up_ne (by decide), up_ne (by decide), up_i, up_ne (by decide)]
  have b73 : ∀ i, b' 73 i = if i = r then u else b 73 i := fun i => by rw [hb', up_ne (by decide), up_ne (by decide), up_ne (by decide), up_ne (by decide), up_i, up_ne (by decide), up_ne (by decide)]
  have b74 : ∀ i, b' 74 i = if i = r then w else b 74 i := fun i => by rw [hb', up_ne (by decide), up_ne (by decide), up_ne (by decide), up_i, up_ne (by decide), up_ne (by decide), up_ne (by decide)]
  have b75 : ∀ i, b' 75 i = if i = r then no else b 75 i := fun i => by rw [hb', up_ne (by decide), up_ne (by decide), up_i, up_ne (by decide), up_ne (by decide), up_ne (by decide), up_ne (by decide)]
  have b78 : ∀ i, b' 78 i = if i = z then Gc else b 78 i := fun i => by rw [hb', up_i, up_ne (by decide), up_ne (by decide), up_ne (by decide), up_ne (by decide), up_ne (by decide), up_ne (by decide)]
  have b5634 : b' 56 34 = Hc := by rw [hb', up_ne (by decide), up_at]
  have FB : FR b b' := fun k i hk => by rw [hb', up_app, if_neg (by omega), up_app, if_neg (by omega), up_app, if_neg (by omega), up_app, if_neg (by omega), up_app, if_neg (by omega), up_app, if_neg (by omega), up_app, if_neg (by omega)]
  have b58 : b' 58 = b 58 := FB.k58
  have b77 : b' 77 = b 77 := by rw [hb', up_k (by decide), up_k (by decide), up_k (by decide), up_k (by decide), up_k (by decide), up_k (by decide), up_k (by decide)]
  have b5633 : b' 56 33 = b 56 33 := by rw [hb', up_ne (by decide), up_ni (by decide), up_ne (by decide), up_ne (by decide), up_ne (by decide), up_ne (by decide), up_ne (by decide)]
  have hHr : 0 ≤ Hc ∧ Hc ≤ 6000 * h + 2000 * ((c + 1 : Nat) : Int) := by
    clear A1 A2 B1 B2 ha' hb' a28 a29 a24 a25 a26 a27 b76 b72 b73 b74 b75 b78 cm1
    rw [hHc]
    split <;> omega
  have cm1' := cm1.trans A1
  clear ha' hb' cm1 hw hy hHc A1
  refine ⟨a', b', cm1' , B1, A2, B2, ?_, FA, FB, ?_⟩
  · refine ⟨⟨fun x x0 x1 => ?_, ?_, ?_, ?_⟩, ?_, fun x j x0 x1 j0 hj => ?_, fun x x0 x1 => ?_, fun x x0 x1 => ?_, fun y' y0 y1 => ?_, fun y' y0 y1 => ?_⟩
    · rw [b58] at x1
      obtain ⟨o1, o2, o3⟩ := h1.1 x x0 x1
      rw [a28, b76, a23 7 (by decide)]
      by_cases q : x = (c : Int)
      · rw [if_pos q, if_pos q]
        exact ⟨rfl, by omega, by omega⟩
      · rw [if_neg q, if_neg q]
        exact ⟨o1, o2, o3⟩
    · rw [a23 7 (by decide), b5633]
      exact h1.2.1
    · rw [a23 7 (by decide)]
      exact t4
    · rw [a23 6 (by decide), b58]
      exact h1.2.2.2
    · rw [a238, b5634]
      exact ⟨rfl, hHr⟩
    · by_cases q : x = (c : Int) ∧ j = h
      · have e : 6 * x + j = r := by omega
        unfold RowI
        rw [e, a24, a25, a26, a27, b72, b73, b74, b75, if_pos rfl, if_pos rfl, if_pos rfl, if_pos rfl, if_pos rfl, if_pos rfl, if_pos rfl, if_pos rfl, q.2]
        exact ⟨rfl, rfl, rfl, rfl, rno⟩
      · have ne : ¬ 6 * x + j = r := by omega
        have o := h3 x j x0 x1 j0 (by omega)
        unfold RowI at o ⊢
        rw [a24, a25, a26, a27, b72, b73, b74, b75, if_neg ne, if_neg ne, if_neg ne, if_neg ne, if_neg ne, if_neg ne, if_neg ne, if_neg ne]
        exact o
    · obtain ⟨o1, o2, o3⟩ := h4 x x0 x1
      by_cases q : x = (c : Int)
      · have e : 6 * x + h = r := by omega
        have lt : x < ((c + 1 : Nat) : Int) := by omega
        rw [a29, if_pos q, if_pos lt, if_pos lt, e, b73, if_pos rfl]
        exact ⟨rfl, by omega, by omega⟩
      · rw [a29, if_neg q]
        by_cases q2 : x < (c : Int)
        · have lt : x < ((c + 1 : Nat) : Int) := by omega
          rw [if_pos q2] at o1 o3
          rw [if_pos lt, if_pos lt, b73, if_neg (by omega)]
          exact ⟨o1, o2, o3⟩
        · have lt : ¬ x < ((c + 1 : Nat) : Int) := by omega
          rw [if_neg q2] at o1 o3
          rw [if_neg lt, if_neg lt, b73, if_neg (show ¬ 6 * x + h - 1 = r by omega)]
          exact ⟨o1, o2, o3⟩
    · by_cases q : x = (c : Int)
      · rw [a28, if_pos q, b72, if_pos (by omega)]
      · rw [a28, if_neg q, b72, if_neg (by omega)]
        exact h5 x x0 (by omega)
    · have o := h6 y' y0 y1
      have e : gs b' h y' (c + 1) = gs b h y' c + if b 58 (7 + (c : Int)) = y' then no else 0 := by
        show gs b' h y' c + (if b' 58 (7 + (c : Int)) = y' then b' 75 (6 * (c : Int) + h) else 0) = _
        rw [gs_cg b58 c (fun x hx => by rw [b75, if_neg (by omega)]), b58, b75, if_pos hr.symm]
      rw [b78, e, hGc]
      unfold zf at hz
      by_cases q5 : h = 5
      · have g : h = 5 ∨ b 58 (7 + (c : Int)) = -9 := Or.inl q5
        rw [if_pos q5] at o
        rw [if_pos g] at hz
        rw [if_pos q5, if_pos g, Int.add_zero]
        split
        · next x => rw [← x, o]
        · exact o
      · rw [if_neg q5] at o
        rw [if_neg q5]
        by_cases q9 : b 58 (7 + (c : Int)) = -9
        · have g : h = 5 ∨ b 58 (7 + (c : Int)) = -9 := Or.inr q9
          rw [if_pos g] at hz
          rw [if_pos g, Int.add_zero, if_neg (show ¬ b 58 (7 + (c : Int)) = y' by omega), Int.add_zero]
          split
          · next x => rw [← x, o]
          · exact o
        · have g : ¬ (h = 5 ∨ b 58 (7 + (c : Int)) = -9) := fun x => x.elim q5 q9
          rw [if_neg g] at hz
          rw [if_neg g, ← hz]
          by_cases x : y' = z
          · rw [if_pos x, if_pos x.symm, ← x, o]
          · rw [if_neg x, if_neg (fun k => x k.symm), Int.add_zero]
            exact o
    · obtain ⟨o1, o2⟩ := h7 y' y0 y1
      rw [b77]
      exact ⟨o1, fun hp => by
        rw [o2 hp]
        exact (gs_cg b58 n (fun x hx => by rw [b75, if_neg (by omega)])).symm⟩
  · unfold tot
    rw [a23 7 (by decide), sm3_up (n := n) (f := a 28) (f' := a' 28) (c := (c : Int)) (y := -y) (by omega) (by omega) (fun x => by
      rw [a28]
      by_cases q : x = (c : Int)
      · rw [if_pos q, if_pos q, q]
        omega
      · rw [if_neg q, if_neg q]), sm3_up (n := n) (f := a 29) (f' := a' 29) (c := (c : Int)) (y := y) (by omega) (by omega) (fun x => by
      rw [a29]
      by_cases q : x = (c : Int)
      · rw [if_pos q, if_pos q, q]
        omega
      · rw [if_neg q, if_neg q])]
    omega

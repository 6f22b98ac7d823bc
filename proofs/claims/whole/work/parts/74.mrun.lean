/-! mornings: a whole one -/
def sTo (b : SG) (h : Int) : Int := if b 56 35 < h then b 56 37 else 0
theorem sTo_f {b b' : SG} (g : FR b b') (h : Int) : sTo b' h = sTo b h := by
  unfold sTo
  rw [g 56 35 (by omega), g 56 37 (by omega)]
theorem sTo_s (b : SG) (h : Int) : sTo b h + sAt b h = sTo b (h + 1) := by
  unfold sTo sAt
  repeat' split
  all_goals omega
theorem l_go {n : Nat} {T : Int} : ∀ (m h : Nat) (a b : SG), h + m = 6 → Mo a b → b 58 0 = n → SecR a b → CrR a b n → HR a b h n (120 + 60 * (h : Int)) → tot n a = T + sTo b h → ∃ a' b', sem 48 62 [aA 23, aA (a 0 9), aA 16, aI (h : Int), aU] [] a = some (aU, a') ∧ sem 205 47 [aA 56, aI (h : Int), aU] [] b = some (aU, b') ∧ RefC a' ∧ RefC b' ∧ HR a' b' 6 n 480 ∧ FC a a' ∧ FR b b' ∧ tot n a' = T + sTo b 6 := by
  intro m
  induction m with
  | zero =>
    intro h a b hm hM hn hS hC hH hT
    have : h = 6 := by omega
    subst this
    rw [g48_62 hM.th hM.1, g205_47 hM.2.1, if_neg (by decide), if_neg (by decide)]
    exact ⟨a, b, rfl, rfl, hM.1, hM.2.1, hH, FC.rf a, FR.rf b, hT⟩
  | succ m ih =>
    intro h a b hm hM hn hS hC hH hT
    obtain ⟨a1, b1, e1, e2, e3, e4, e5, e6, e7, e8⟩ := l_hour hM hn hS hC hH (by omega) (by omega)
    have M1 : Mo a1 b1 := (hM.fa e3 e6.w).fb e4 e7.w
    have t9 : a1 0 9 = a 0 9 := e6.w.k09
    have c1 : (h : Int) + 1 = ((h + 1 : Nat) : Int) := by omega
    have cB : 120 + 60 * (h : Int) + 60 = 120 + 60 * ((h + 1 : Nat) : Int) := by omega
    rw [c1] at e1 e2 e5
    rw [cB] at e5
    obtain ⟨a2, b2, f1, f2, f3, f4, f5, f6, f7, f8⟩ := ih (h + 1) a1 b1 (by omega) M1 (by rw [e7.k58]; exact hn) (hS.f e6 e7) (hC.f e6 e7) e5 (by
      rw [e8, hT, sTo_f e7, ← c1, ← sTo_s]
      omega)
    rw [t9] at f1
    rw [sTo_f e7] at f8
    exact ⟨a2, b2, e1.trans f1, e2.trans f2, f3, f4, f5, e6.tr f6, e7.tr f7, f8⟩
theorem l_go27 {b : SG} {n : Nat} (hn3 : n ≤ 3) : ∀ (m c : Nat) (a : SG), c + m = n → Mo a b → a 23 6 = n → ∃ a', sem 48 23 [aA 23, aA (a 0 9), aA 16, aI (c : Int), aU] [] a = sem 48 62 [aA 23, aA (a 0 9), aA 16, aI 0, aU] [] a' ∧ RefC a' ∧ (∀ x : Int, (c : Int) ≤ x → x < n → a' 28 x = b 66 x ∧ a' 29 x = 0) ∧ (∀ x : Int, x < c → a' 28 x = a 28 x ∧ a' 29 x = a 29 x) ∧ ∀ q, q ≠ 28 → q ≠ 29 → a' q = a q := by
  intro m
  induction m with
  | zero =>
    intro c a hm hM h6
    have : c = n := by omega
    subst this
    rw [g48_23 hM.th hM.1, h6, if_neg (Int.lt_irrefl _)]
    exact ⟨a, rfl, hM.1, fun x h1 h2 => by omega, fun _ _ => ⟨rfl, rfl⟩, fun _ _ _ => rfl⟩
  | succ m ih =>
    intro c a hm hM h6
    have c3 : 0 ≤ (c : Int) ∧ (c : Int) < 3 := by omega
    have cn : (c : Int) < n := by omega
    obtain ⟨a1, ha1⟩ : ∃ z, z = up (up a 28 (c : Int) (a 17 c)) 29 (c : Int) 0 := ⟨_, rfl⟩
    have R1 : RefC a1 := by rw [ha1]; exact RefC.upd (RefC.upd hM.1 (rcb_a (by decide))) (rcb_a (by decide))
    have f1 : ∀ q, q ≠ 28 → q ≠ 29 → a1 q = a q := fun q q1 q2 => by rw [ha1, up_k q2, up_k q1]
    have W1 : WC a a1 := fun k i hk => by rw [f1 k (by omega) (by omega)]
    have t9 : a1 0 9 = a 0 9 := W1.k09
    obtain ⟨a2, e1, e2, e3, e4, e5⟩ := ih (c + 1) a1 (by omega) (hM.fa R1 W1) (by rw [f1 23 (by decide) (by decide)]; exact h6)
    rw [t9] at e1
    have w : w32 ((c : Int) + 1) = ((c + 1 : Nat) : Int) := by rw [w32_id (by omega) (by omega)]; omega
    refine ⟨a2, ?_, e2, fun x h1 h2 => ?_, fun x h1 => ?_, fun q q1 q2 => by rw [e5 q q1 q2, f1 q q1 q2]⟩
    · rw [g48_23 hM.th hM.1, h6, if_pos cn, if_pos c3.2, c_givesAt hM.1 c3, bnI_some, g_t c3, w, ← ha1]
      exact e1
    · clear w
      by_cases e : x = (c : Int)
      · obtain ⟨y1, y2⟩ := e4 x (by omega)
        rw [y1, y2, ha1, up_ne (by decide), up_i, up_i, if_pos e, if_pos e, e]
        exact ⟨(hM.2.2.2.2.1 (c : Int) c3.1 c3.2).1, rfl⟩
      · exact e3 x (by omega) h2
    · clear w
      obtain ⟨y1, y2⟩ := e4 x (by omega)
      rw [y1, y2, ha1, up_ne (by decide), up_i, up_i, if_neg (show ¬ x = (c : Int) by omega), if_neg (show ¬ x = (c : Int) by omega), up_ne (by decide)]
      exact ⟨rfl, rfl⟩
theorem l_lay15 : ∀ (n : Nat) (l : Int) (s : SG), l + n = 3 → 0 ≤ l → RefC s → ∃ s', sem 205 15 [aA 56, aI l, aU] [] s = sem 205 47 [aA 56, aI 0, aU] [] s' ∧ RefC s' ∧ (∀ c, l ≤ c → c < 3 → s' 76 c = s 66 c ∧ s' 77 c = 0) ∧ (∀ c, c < l → s' 76 c = s 76 c ∧ s' 77 c = s 77 c) ∧ ∀ q, q ≠ 76 → q ≠ 77 → s' q = s q := by
  intro n
  induction n with
  | zero =>
    intro l s hl h0 hR
    rw [g205_15 hR, if_neg (by omega)]
    exact ⟨s, rfl, hR, fun c h1 h2 => by omega, fun _ _ => ⟨rfl, rfl⟩, fun _ _ _ => rfl⟩
  | succ n ih =>
    intro l s hl h0 hR
    rw [g205_15 hR, if_pos (by omega), g_t (by omega), w32_id (a := l + 1) (by omega) (by omega)]
    obtain ⟨s', e1, e2, e3, e4, e5⟩ := ih (l + 1) (up (up s 76 l (s 66 l)) 77 l 0) (by omega) (by omega) (RefC.upd (RefC.upd hR (rcb_a (by decide))) (rcb_a (by decide)))
    refine ⟨s', e1, e2, fun c h1 h2 => ?_, fun c h1 => ?_, fun q h1 h2 => by rw [e5 q h1 h2, up_k h2, up_k h1]⟩
    · by_cases e : c = l
      · obtain ⟨y1, y2⟩ := e4 c (by omega)
        rw [y1, y2, up_ne (by decide), up_i, up_i, if_pos e, if_pos e, e]
        exact ⟨rfl, rfl⟩
      · obtain ⟨y1, y2⟩ := e3 c (by omega) h2
        rw [y1, y2, up_ne (by decide), up_ne (by decide)]
        exact ⟨rfl, rfl⟩
    · obtain ⟨y1, y2⟩ := e4 c (by omega)
      rw [y1, y2, up_ne (by decide), up_i, up_i, if_neg (show ¬ c = l by omega), if_neg (show ¬ c = l by omega), up_ne (by decide)]
      exact ⟨rfl, rfl⟩
theorem sm3_cg {n : Int} {f f' : Int → Int} (h : ∀ x, 0 ≤ x → x < n → f x = f' x) : sm3 n f = sm3 n f' := by
  unfold sm3
  by_cases q0 : 0 < n
  · rw [if_pos q0, if_pos q0, h 0 (by decide) q0]
    by_cases q1 : 1 < n
    · rw [if_pos q1, if_pos q1, h 1 (by decide) q1]
      by_cases q2 : 2 < n
      · rw [if_pos q2, if_pos q2, h 2 (by decide) q2]
      · rw [if_neg q2, if_neg q2]
    · rw [if_neg q1, if_neg q1, if_neg (by omega), if_neg (by omega)]
  · rw [if_neg q0, if_neg q0, if_neg (by omega), if_neg (by omega), if_neg (by omega), if_neg (by omega)]
theorem sm3_0 (n : Int) : sm3 n (fun _ => 0) = 0 := by
  unfold sm3
  repeat' split
  all_goals rfl
theorem l_run {a b : SG} {n : Nat} (hM : Mo a b) (hn : b 58 0 = n) (hS : SecR a b) (hC : CrR a b n) : ∃ a' b', sem 48 0 [aA 23, aA (a 0 9), aA 16, aU, aU] [] a = some (aU, a') ∧ sem 205 0 [aA 56, aU, aU] [] b = some (aU, b') ∧ RefC a' ∧ RefC b' ∧ HR a' b' 6 n 480 ∧ FC a a' ∧ FR b b' ∧ tot n a' = sm3 n (b 66) + b 56 19 + sTo b 6 := by
  have n3 := hM.tg.1
  have hn3 : n ≤ 3 := by omega
  have e4 := hM.n4
  have mn : a (a 0 9) 4 = n := e4.trans hn
  have v19 := hM.2.2.2.2.2.1
  obtain ⟨a1, ha1⟩ : ∃ z, z = up (up (up a 23 6 n) 23 7 (a 16 7)) 23 8 0 := ⟨_, rfl⟩
  have R1 : RefC a1 := by rw [ha1]; exact RefC.upd (RefC.upd (RefC.upd hM.1 (rcb_f (c := 3) (j := 6) rfl (by decide) (by decide))) (rcb_f (c := 3) (j := 7) rfl (by decide) (by decide))) (rcb_f (c := 3) (j := 8) rfl (by decide) (by decide))
  have F1 : FC a a1 := fun k i hk => by rw [ha1, up_app, if_neg (by omega), up_app, if_neg (by omega), up_app, if_neg (by omega)]
  have M1 := hM.fa R1 F1.w
  have t9 : a1 0 9 = a 0 9 := F1.w.k09
  have a6 : a1 23 6 = n := by rw [ha1, up_ni (by decide), up_ni (by decide), up_at]
  have a7 : a1 23 7 = b 56 19 := by rw [ha1, up_ni (by decide), up_at, v19.1]
  have a8 : a1 23 8 = 0 := by rw [ha1, up_at]
  obtain ⟨a2, c1, c2, c3, -, c5⟩ := l_go27 hn3 n 0 a1 (by omega) M1 a6
  have F2 : FC a a2 := F1.tr (fun k i hk => by rw [c5 k (by omega) (by omega)])
  have t9' : a2 0 9 = a 0 9 := F2.w.k09
  obtain ⟨b1, hb1⟩ : ∃ z, z = up (up b 56 33 (b 56 19)) 56 34 0 := ⟨_, rfl⟩
  have RB1 : RefC b1 := by rw [hb1]; exact RefC.upd (RefC.upd hM.2.1 (rcb_f (c := 9) (j := 33) rfl (by decide) (by decide))) (rcb_f (c := 9) (j := 34) rfl (by decide) (by decide))
  have FB1 : FR b b1 := fun k i hk => by rw [hb1, up_app, if_neg (by omega), up_app, if_neg (by omega)]
  obtain ⟨b2, d1, d2, d3, -, d5⟩ := l_lay15 3 0 b1 (by decide) (by decide) RB1
  have FB2 : FR b b2 := FB1.tr (fun k i hk => by rw [d5 k (by omega) (by omega)])
  have M2 : Mo a2 b2 := (hM.fa c2 F2.w).fb d2 FB2.w
  have b66 : b1 66 = b 66 := funext fun i => FB1 66 i (by omega)
  have b33 : b2 56 33 = b 56 19 := by rw [d5 56 (by decide) (by decide), hb1, up_ni (by decide), up_at]
  have b34 : b2 56 34 = 0 := by rw [d5 56 (by decide) (by decide), hb1, up_at]
  have a27 : a2 23 7 = b 56 19 := by rw [c5 23 (by decide) (by decide), a7]
  have hold : ∀ x : Int, 0 ≤ x → x < n → a2 28 x = b2 76 x ∧ a2 28 x = b 66 x ∧ a2 29 x = 0 ∧ (0 ≤ b 66 x ∧ b 66 x ≤ 60) := fun x x0 x1 => by
    obtain ⟨y1, y2⟩ := c3 x x0 x1
    obtain ⟨z1, z2⟩ := d3 x x0 (by omega)
    rw [z1, y1, y2, b66]
    exact ⟨rfl, rfl, rfl, (hM.2.2.2.2.1 x x0 (by omega)).2.2.2.1⟩
  have T2 : tot n a2 = sm3 n (b 66) + b 56 19 + sTo b2 0 := by
    have z0 : sTo b2 0 = 0 := by
      rw [sTo_f FB2]
      unfold sTo
      split
      · rcases hS with z | z
        · exact z.2.2
        · omega
      · rfl
    unfold tot
    rw [z0, a27, sm3_cg (f := a2 28) (f' := b 66) (fun x x0 x1 => (hold x x0 x1).2.1), sm3_cg (f := a2 29) (f' := fun _ => 0) (fun x x0 x1 => (hold x x0 x1).2.2.1), sm3_0]
    omega
  have H2 : HR a2 b2 ((0 : Nat) : Int) n (120 + 60 * ((0 : Nat) : Int)) := by
    refine ⟨⟨fun x x0 x1 => ?_, by rw [a27, b33], by rw [a27]; omega, by rw [c5 23 (by decide) (by decide), a6, FB2.k58, hn]⟩, ⟨by rw [c5 23 (by decide) (by decide), a8, b34], by rw [c5 23 (by decide) (by decide), a8]; decide, by rw [c5 23 (by decide) (by decide), a8]; decide⟩, fun x j x0 x1 j0 hj => by omega, fun x x0 x1 => ?_, fun y y0 y1 => ⟨fun _ => (d3 y y0 y1).2, fun h => by omega⟩⟩
    · rw [FB2.k58, hn] at x1
      obtain ⟨y1, y2, y3, y4⟩ := hold x x0 x1
      rw [a27]
      exact ⟨y1, by omega, by omega⟩
    · obtain ⟨y1, y2, y3, y4⟩ := hold x x0 x1
      rw [if_pos (by decide), y3]
      exact ⟨rfl, by decide, fun h => by omega⟩
  obtain ⟨a3, b3, e1, e2, e3, e4', e5, e6, e7, e8⟩ := l_go (n := n) (T := sm3 n (b 66) + b 56 19) 6 0 a2 b2 (by decide) M2 (by rw [FB2.k58]; exact hn) (hS.f F2 FB2) (hC.f F2 FB2) H2 T2
  rw [t9'] at e1
  rw [t9] at c1
  refine ⟨a3, b3, ?_, ?_, e3, e4', e5, F2.tr e6, FB2.tr e7, by rw [e8, sTo_f FB2]⟩
  · rw [g48_0 hM.th hM.1, mn, ← ha1]
    exact c1.trans e1
  · rw [g205_0 hM.2.1, ← hb1]
    exact d1.trans e2

/-! reckon: the chances of a kind -/
/-- in h half hours one more comes in e of them -/
def Pc (x : Int) : Nat → Int → Int
  | 0, e => if e = 0 then 1 else 0
  | h + 1, e => Pc x h e * (10 - x) + Pc x h (e - 1) * x
theorem Pc_neg (x : Int) : ∀ (h : Nat) (e : Int), e < 0 → Pc x h e = 0 := by
  intro h
  induction h with
  | zero => intro e he; exact if_neg (by omega)
  | succ h ih =>
    intro e he
    show Pc x h e * (10 - x) + Pc x h (e - 1) * x = 0
    rw [ih e he, ih (e - 1) (by omega)]
    omega
theorem Pc_big (x : Int) : ∀ (h : Nat) (e : Int), (h : Int) < e → Pc x h e = 0 := by
  intro h
  induction h with
  | zero => intro e he; exact if_neg (by omega)
  | succ h ih =>
    intro e he
    show Pc x h e * (10 - x) + Pc x h (e - 1) * x = 0
    rw [ih e (by omega), ih (e - 1) (by omega)]
    omega
theorem x10 {x : Int} (h : 0 ≤ x ∧ x ≤ 9) : ∃ n : Fin 10, x = (n.val : Int) := ⟨⟨x.toNat, by omega⟩, by simp only; omega⟩
theorem Pc_rng_l : ∀ n : Fin 10, ∀ h : Fin 7, ∀ e : Fin 7, 0 ≤ Pc (n.val : Int) h.val (e.val : Int) ∧ Pc (n.val : Int) h.val (e.val : Int) ≤ 1000000 := by decide +kernel
theorem Pc_rng {x : Int} (hx : 0 ≤ x ∧ x ≤ 9) {h : Nat} (hh : h ≤ 6) {e : Int} (he : 0 ≤ e ∧ e ≤ 6) : 0 ≤ Pc x h e ∧ Pc x h e ≤ 1000000 := by
  obtain ⟨n, rfl⟩ := x10 hx
  have := Pc_rng_l n ⟨h, by omega⟩ ⟨e.toNat, by omega⟩
  have z : ((e.toNat : Nat) : Int) = e := by omega
  simp only [z] at this
  exact this
theorem Pc_chn_l : ∀ n : Fin 10, ∀ e : Fin 7, Pc (n.val : Int) 6 (e.val : Int) = chn (n.val : Int) (e.val : Int) := by decide +kernel
theorem Pc_chn {x : Int} (hx : 0 ≤ x ∧ x ≤ 9) {e : Int} (he : 0 ≤ e ∧ e ≤ 6) : Pc x 6 e = chn x e := by
  obtain ⟨n, rfl⟩ := x10 hx
  have := Pc_chn_l n ⟨e.toNat, by omega⟩
  have z : ((e.toNat : Nat) : Int) = e := by omega
  simp only [z] at this
  exact this
theorem ru8 {s : SG} (h : RefC s) (i v : Int) : RefC (up s 8 i v) := RefC.upd h (rcb_a (by decide))
theorem ru7 {s : SG} (h : RefC s) (i v : Int) : RefC (up s 7 i v) := RefC.upd h (rcb_a (by decide))
theorem ru6 {s : SG} (h : RefC s) (i v : Int) : RefC (up s 6 i v) := RefC.upd h (rcb_a (by decide))
theorem mul_rng {a b A B : Int} (h1 : 0 ≤ a ∧ a ≤ A) (h2 : 0 ≤ b ∧ b ≤ B) : 0 ≤ a * b ∧ a * b ≤ A * B := by
  refine ⟨Int.mul_nonneg h1.1 h2.1, ?_⟩
  have hA : 0 ≤ A := by omega
  exact Int.le_trans (Int.mul_le_mul_of_nonneg_right h1.2 h2.1) (Int.mul_le_mul_of_nonneg_left h2.2 hA)
theorem l_chin {x : Int} (hx : 0 ≤ x ∧ x ≤ 9) {h : Nat} (hh : h < 6) : ∀ (n : Nat) (s : SG), n ≤ 6 → RefC s → (∀ e, 0 ≤ e → e ≤ 6 → s 8 e = if (n : Int) < e then Pc x (h + 1) e else Pc x h e) → ∃ s', sem 3 25 [aA 5, aI x, aI ((h : Int) + 1), aI (n : Int)] [] s = sem 3 17 [aA 5, aI x, aI ((h : Int) + 1 + 1), aU] [] s' ∧ RefC s' ∧ (∀ e, 0 ≤ e → e ≤ 6 → s' 8 e = Pc x (h + 1) e) ∧ ∀ q i, q ≠ 8 → s' q i = s q i := by
  have wx : w32 (10 - x) = 10 - x := w32_id (by omega) (by omega)
  intro n
  induction n with
  | zero =>
    intro s hn hR hs
    have w1 : w32 ((h : Int) + 1 + 1) = (h : Int) + 1 + 1 := w32_id (by omega) (by omega)
    have h0 := hs 0 (by decide) (by decide)
    rw [if_neg (by omega)] at h0
    have r0 := Pc_rng hx (h := h) (by omega) (e := 0) (by decide)
    have m0 := mul_rng r0 (b := 10 - x) (B := 10) (by omega)
    have w2 : w64 (s 8 0 * (10 - x)) = s 8 0 * (10 - x) := by rw [h0]; exact w64_id (by omega) (by omega)
    rw [g3_25 hR, if_pos (by decide), w1, wx, w2]
    refine ⟨_, rfl, ru8 hR _ _, fun e e0 e1 => ?_, fun q i hq => up_ne hq _⟩
    by_cases z : e = 0
    · subst z
      rw [up_at, h0]
      show _ = Pc x h 0 * (10 - x) + Pc x h (0 - 1) * x
      rw [Pc_neg x h (0 - 1) (by decide)]
      omega
    · rw [up_ni z, hs e e0 e1, if_pos (by omega)]
  | succ n ih =>
    intro s hn hR hs
    have e1 : ((n + 1 : Nat) : Int) - 1 = (n : Int) := by omega
    have w1 : w32 (((n + 1 : Nat) : Int) - 1) = (n : Int) := by rw [e1]; exact w32_id (by omega) (by omega)
    have w0 : w32 (((n + 1 : Nat) : Int) + -1) = (n : Int) := by
      rw [show ((n + 1 : Nat) : Int) + -1 = (n : Int) by omega]; exact w32_id (by omega) (by omega)
    have ha := hs ((n + 1 : Nat) : Int) (by omega) (by omega)
    have hb := hs (n : Int) (by omega) (by omega)
    rw [if_neg (by omega)] at ha hb
    have ra := Pc_rng hx (h := h) (by omega) (e := ((n + 1 : Nat) : Int)) (by omega)
    have rb := Pc_rng hx (h := h) (by omega) (e := (n : Int)) (by omega)
    have ma := mul_rng ra (b := 10 - x) (B := 10) (by omega)
    have mb := mul_rng rb (b := x) (B := 10) (by omega)
    have wA : w64 (s 8 ((n + 1 : Nat) : Int) * (10 - x)) = Pc x h ((n + 1 : Nat) : Int) * (10 - x) := by rw [ha]; exact w64_id (by omega) (by omega)
    have wB : w64 (s 8 (n : Int) * x) = Pc x h (n : Int) * x := by rw [hb]; exact w64_id (by omega) (by omega)
    have wC : w64 (Pc x h ((n + 1 : Nat) : Int) * (10 - x) + Pc x h (n : Int) * x) = Pc x h ((n + 1 : Nat) : Int) * (10 - x) + Pc x h (n : Int) * x := w64_id (by omega) (by omega)
    have eP : Pc x (h + 1) ((n + 1 : Nat) : Int) = Pc x h ((n + 1 : Nat) : Int) * (10 - x) + Pc x h (n : Int) * x := by
      show Pc x h ((n + 1 : Nat) : Int) * (10 - x) + Pc x h (((n + 1 : Nat) : Int) - 1) * x = _
      rw [e1]
    rw [g3_25 hR, if_neg (by omega), w1, w0, wx, g_t (by omega), g_t (by omega), wA, wB, wC, ← eP]
    obtain ⟨s', c1, c2, c3, c4⟩ := ih (up s 8 ((n + 1 : Nat) : Int) (Pc x (h + 1) ((n + 1 : Nat) : Int))) (by omega) (ru8 hR _ _) (fun e e0 e1 => by
      by_cases z : e = ((n + 1 : Nat) : Int)
      · rw [z, up_at, if_pos (by omega)]
      · rw [up_ni z, hs e e0 e1]
        by_cases z2 : ((n + 1 : Nat) : Int) < e
        · rw [if_pos z2, if_pos (by omega)]
        · rw [if_neg z2, if_neg (by omega)])
    exact ⟨s', c1, c2, c3, fun q i hq => by rw [c4 q i hq, up_ne hq]⟩
theorem l_chout {x : Int} (hx : 0 ≤ x ∧ x ≤ 9) : ∀ (m h : Nat) (s : SG), h + m = 6 → RefC s → (∀ e, 0 ≤ e → e ≤ 6 → s 8 e = Pc x h e) → ∃ s', sem 3 17 [aA 5, aI x, aI ((h : Int) + 1), aU] [] s = some (aU, s') ∧ RefC s' ∧ (∀ e, 0 ≤ e → e ≤ 6 → s' 8 e = Pc x 6 e) ∧ ∀ q i, q ≠ 8 → s' q i = s q i := by
  intro m
  induction m with
  | zero =>
    intro h s hm hR hs
    have : h = 6 := by omega
    subst this
    rw [g3_17 hR, if_pos (by decide)]
    exact ⟨s, rfl, hR, hs, fun _ _ _ => rfl⟩
  | succ m ih =>
    intro h s hm hR hs
    obtain ⟨s1, a1, a2, a3, a4⟩ := l_chin hx (h := h) (by omega) (h + 1) s (by omega) hR (fun e e0 e1 => by
      rw [hs e e0 e1]
      by_cases z : ((h + 1 : Nat) : Int) < e
      · rw [if_pos z, Pc_big x h e (by omega), Pc_big x (h + 1) e z]
      · rw [if_neg z])
    obtain ⟨s', b1, b2, b3, b4⟩ := ih (h + 1) s1 (by omega) a2 a3
    refine ⟨s', ?_, b2, b3, fun q i hq => by rw [b4 q i hq, a4 q i hq]⟩
    rw [g3_17 hR, if_neg (by omega)]
    exact a1.trans b1
theorem c_chances {x : Int} (hx : 0 ≤ x ∧ x ≤ 9) {s : SG} (hR : RefC s) : ∃ s', sem 3 0 [aA 5, aI x, aU, aU] [] s = some (aU, s') ∧ RefC s' ∧ (∀ e, 0 ≤ e → e ≤ 6 → s' 8 e = chn x e) ∧ ∀ q i, q ≠ 8 → s' q i = s q i := by
  have k8 : kl 8 = 7 := rfl
  have ef := c_fillL (k := 8) (v := 0) rfl (by decide) s
  have hF : RefC (fillS s 8 0 0) := RefC.sem ef rfl hR
  obtain ⟨s', b1, b2, b3, b4⟩ := l_chout hx 6 0 (up (fillS s 8 0 0) 8 0 1) (by decide) (ru8 hF _ _) (fun e e0 e1 => by
    by_cases z : e = 0
    · rw [z, up_at]; rfl
    · rw [up_ni z, fillS_app, if_pos (by omega)]
      exact (if_neg z).symm)
  refine ⟨s', ?_, b2, fun e e0 e1 => by rw [b3 e e0 e1, Pc_chn hx ⟨e0, e1⟩], fun q i hq => by rw [b4 q i hq, up_ne hq, fillS_app, if_neg (fun z => hq z.1)]⟩
  rw [g3_0 hR, ef, bnV_some]
  exact b1

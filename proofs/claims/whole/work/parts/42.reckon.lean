/-! reckon: a corner's rows -/
def Jk (b x i : Int) : Int := if 6 * b ≤ i + 1 ∧ i + 1 ≤ 6 * b + 6 then chn x (i + 1 - 6 * b) else 0
theorem out_e (a g w : Int) : a * (if g < w then 1 else 0) = a * (if g + 1 < w then 1 else 0) + (if w = g + 1 then a else 0) := by
  repeat' split
  all_goals first | omega | (exfalso; omega)
theorem out_step (b x g : Int) : outK b x g = Jk b x g + outK b x (g + 1) := by
  unfold outK sum7 Jk
  dsimp only
  rw [out_e (chn x 0), out_e (chn x 1), out_e (chn x 2), out_e (chn x 3), out_e (chn x 4), out_e (chn x 5), out_e (chn x 6)]
  have key : (if 6 * b + 0 = g + 1 then chn x 0 else 0) + (if 6 * b + 1 = g + 1 then chn x 1 else 0) + (if 6 * b + 2 = g + 1 then chn x 2 else 0) + (if 6 * b + 3 = g + 1 then chn x 3 else 0) + (if 6 * b + 4 = g + 1 then chn x 4 else 0) + (if 6 * b + 5 = g + 1 then chn x 5 else 0) + (if 6 * b + 6 = g + 1 then chn x 6 else 0) = if 6 * b ≤ g + 1 ∧ g + 1 ≤ 6 * b + 6 then chn x (g + 1 - 6 * b) else 0 := by
    by_cases q : 6 * b ≤ g + 1 ∧ g + 1 ≤ 6 * b + 6
    · rw [if_pos q]
      obtain ⟨e, he⟩ : ∃ e, e = g + 1 - 6 * b := ⟨_, rfl⟩
      rw [← he]
      have : e = 0 ∨ e = 1 ∨ e = 2 ∨ e = 3 ∨ e = 4 ∨ e = 5 ∨ e = 6 := by omega
      rcases this with rfl | rfl | rfl | rfl | rfl | rfl | rfl
      · rw [if_pos (by omega), if_neg (by omega), if_neg (by omega), if_neg (by omega), if_neg (by omega), if_neg (by omega), if_neg (by omega)]; omega
      · rw [if_neg (by omega), if_pos (by omega), if_neg (by omega), if_neg (by omega), if_neg (by omega), if_neg (by omega), if_neg (by omega)]; omega
      · rw [if_neg (by omega), if_neg (by omega), if_pos (by omega), if_neg (by omega), if_neg (by omega), if_neg (by omega), if_neg (by omega)]; omega
      · rw [if_neg (by omega), if_neg (by omega), if_neg (by omega), if_pos (by omega), if_neg (by omega), if_neg (by omega), if_neg (by omega)]; omega
      · rw [if_neg (by omega), if_neg (by omega), if_neg (by omega), if_neg (by omega), if_pos (by omega), if_neg (by omega), if_neg (by omega)]; omega
      · rw [if_neg (by omega), if_neg (by omega), if_neg (by omega), if_neg (by omega), if_neg (by omega), if_pos (by omega), if_neg (by omega)]; omega
      · rw [if_neg (by omega), if_neg (by omega), if_neg (by omega), if_neg (by omega), if_neg (by omega), if_neg (by omega), if_pos (by omega)]; omega
    · rw [if_neg q, if_neg (by omega), if_neg (by omega), if_neg (by omega), if_neg (by omega), if_neg (by omega), if_neg (by omega), if_neg (by omega)]
      rfl
  rw [← key]
  omega
theorem out_60 {b x : Int} (hb : b ≤ 3) : outK b x 60 = 0 := by
  unfold outK sum7
  dsimp only
  rw [if_neg (by omega), if_neg (by omega), if_neg (by omega), if_neg (by omega), if_neg (by omega), if_neg (by omega), if_neg (by omega)]
  omega
theorem sold_e (a g w : Int) : a * (if w < g + 1 then w else g + 1) = a * (if w < g then w else g) + a * (if g < w then 1 else 0) := by
  rw [← Int.mul_add]
  congr 1
  repeat' split
  all_goals omega
theorem sold_step (b x g : Int) : soldK b x (g + 1) = soldK b x g + outK b x g := by
  unfold soldK outK sum7
  dsimp only
  rw [sold_e, sold_e, sold_e, sold_e, sold_e, sold_e, sold_e]
  omega
theorem sold_0 {b x : Int} (hb : 0 ≤ b) : soldK b x 0 = 0 := by
  unfold soldK sum7
  dsimp only
  rw [if_neg (by omega), if_neg (by omega), if_neg (by omega), if_neg (by omega), if_neg (by omega), if_neg (by omega), if_neg (by omega)]
  omega
theorem chn_rng {x e : Int} (hx : 0 ≤ x ∧ x ≤ 9) (he : 0 ≤ e ∧ e ≤ 6) : 0 ≤ chn x e ∧ chn x e ≤ 1000000 := by
  rw [← Pc_chn hx he]
  exact Pc_rng hx (by decide) he
theorem Jk_rng {b x i : Int} (hx : 0 ≤ x ∧ x ≤ 9) : 0 ≤ Jk b x i ∧ Jk b x i ≤ 1000000 := by
  unfold Jk
  split
  · exact chn_rng hx (by omega)
  · omega
theorem one_rng {a : Int} {p : Prop} [Decidable p] (h : 0 ≤ a ∧ a ≤ 1000000) : 0 ≤ a * (if p then 1 else 0) ∧ a * (if p then 1 else 0) ≤ 1000000 := by
  split <;> omega
theorem outK_rng {b x g : Int} (hx : 0 ≤ x ∧ x ≤ 9) : 0 ≤ outK b x g ∧ outK b x g ≤ 7000000 := by
  unfold outK sum7
  dsimp only
  have h0 := one_rng (p := g < 6 * b + 0) (chn_rng hx (e := 0) (by decide))
  have h1 := one_rng (p := g < 6 * b + 1) (chn_rng hx (e := 1) (by decide))
  have h2 := one_rng (p := g < 6 * b + 2) (chn_rng hx (e := 2) (by decide))
  have h3 := one_rng (p := g < 6 * b + 3) (chn_rng hx (e := 3) (by decide))
  have h4 := one_rng (p := g < 6 * b + 4) (chn_rng hx (e := 4) (by decide))
  have h5 := one_rng (p := g < 6 * b + 5) (chn_rng hx (e := 5) (by decide))
  have h6 := one_rng (p := g < 6 * b + 6) (chn_rng hx (e := 6) (by decide))
  omega
theorem c_hold {s : SG} (hR : RefC s) {c : Int} (hc : 0 ≤ c ∧ c < 3) (g : Int) : sem 6 0 [aA 5, aI c, aI g] [] s = some (aI (if 0 ≤ g ∧ g ≤ 60 then 1 else 0), s) := by
  rw [g6_0 hR, c_isRow, if_pos hc, bnI_some, if_neg (by decide), c_isPapers, bnI_some]
  by_cases z : 0 ≤ g ∧ g ≤ 60
  · rw [if_pos z, if_neg (by decide)]
  · rw [if_neg z, if_pos rfl]
theorem l_addk {c b x sh : Int} (hc : 0 ≤ c ∧ c < 3) (hb : 0 ≤ b ∧ b ≤ 3) (hx : 0 ≤ x ∧ x ≤ 9) (hs : 0 ≤ sh ∧ sh ≤ 9) : ∀ (n : Nat) (l : Int) (s : SG), l + n = 7 → 0 ≤ l → RefC s → (∀ e, 0 ≤ e → e ≤ 6 → s 8 e = chn x e) → (∀ i, 0 ≤ i → 6 * b + l ≤ i + 1 → i + 1 ≤ 6 * b + 6 → 0 ≤ s 7 (61 * c + i) ∧ s 7 (61 * c + i) ≤ 1000000000) → ∃ s', sem 2 8 [aA 5, aI c, aI b, aU, aI sh, aI l, aU] [] s = some (aU, s') ∧ RefC s' ∧ (∀ i, 0 ≤ i → s' 7 (61 * c + i) = s 7 (61 * c + i) + (if 6 * b + l ≤ i + 1 ∧ i + 1 ≤ 6 * b + 6 then chn x (i + 1 - 6 * b) * sh else 0)) ∧ ∀ q i, ¬ (q = 7 ∧ 61 * c ≤ i ∧ i < 61 * c + 60) → s' q i = s q i := by
  intro n
  induction n with
  | zero =>
    intro l s hl h0 hR h8 h7
    rw [g2_8 hR, if_pos (by omega)]
    refine ⟨s, rfl, hR, fun i i0 => ?_, fun _ _ _ => rfl⟩
    rw [if_neg (by omega)]
    omega
  | succ n ih =>
    intro l s hl h0 hR h8 h7
    have w1 : w32 (l + 1) = l + 1 := w32_id (by omega) (by omega)
    have w2 : w32 (w32 (w32 (6 * b) + l) - 1) = 6 * b + l - 1 := by rw [w32_id (a := 6 * b) (by omega) (by omega), w32_id (a := 6 * b + l) (by omega) (by omega), w32_id (by omega) (by omega)]
    rw [g2_8 hR, if_neg (by omega), w2, w1, c_hold hR hc, bnI_some]
    by_cases q : 6 * b + l < 1
    · rw [if_neg (show ¬ (0 ≤ 6 * b + l - 1 ∧ 6 * b + l - 1 ≤ 60) by omega), if_pos rfl]
      obtain ⟨s', a1, a2, a3, a4⟩ := ih (l + 1) s (by omega) (by omega) hR h8 (fun i i0 i1 i2 => h7 i i0 (by omega) i2)
      refine ⟨s', a1, a2, fun i i0 => ?_, a4⟩
      rw [a3 i i0]
      by_cases z : 6 * b + l ≤ i + 1 ∧ i + 1 ≤ 6 * b + 6
      · rw [if_pos z, if_pos (by omega)]
      · rw [if_neg z, if_neg (by omega)]
    · have w3 : w32 (w32 (c * 61) + (6 * b + l - 1)) = 61 * c + (6 * b + l - 1) := by
        rw [w32_id (a := c * 61) (by omega) (by omega), w32_id (by omega) (by omega)]
        omega
      have r8 := chn_rng hx (e := l) (by omega)
      have m8 := mul_rng r8 hs
      have r7 := h7 (6 * b + l - 1) (by omega) (by omega) (by omega)
      have w4 : w64 (s 8 l * sh) = chn x l * sh := by rw [h8 l h0 (by omega)]; exact w64_id (by omega) (by omega)
      have w5 : w64 (s 7 (61 * c + (6 * b + l - 1)) + chn x l * sh) = s 7 (61 * c + (6 * b + l - 1)) + chn x l * sh := w64_id (by omega) (by omega)
      rw [if_pos (show 0 ≤ 6 * b + l - 1 ∧ 6 * b + l - 1 ≤ 60 by omega), if_neg (by decide), w3, w4, w5, g_t (by omega), g_t (by omega)]
      obtain ⟨s', a1, a2, a3, a4⟩ := ih (l + 1) (up s 7 (61 * c + (6 * b + l - 1)) (s 7 (61 * c + (6 * b + l - 1)) + chn x l * sh)) (by omega) (by omega) (ru7 hR _ _) (fun e e0 e1 => by rw [up_ne (by decide)]; exact h8 e e0 e1) (fun i i0 i1 i2 => by rw [up_ni (by omega)]; exact h7 i i0 (by omega) i2)
      refine ⟨s', a1, a2, fun i i0 => ?_, fun q i hq => by rw [a4 q i hq, up_app, if_neg (by omega)]⟩
      rw [a3 i i0]
      by_cases z : i = 6 * b + l - 1
      · have z2 : i + 1 - 6 * b = l := by omega
        rw [if_neg (by omega), if_pos (by omega), z2, z, up_at]
        omega
      · rw [up_ni (by omega)]
        by_cases z3 : 6 * b + l ≤ i + 1 ∧ i + 1 ≤ 6 * b + 6
        · rw [if_pos z3, if_pos (by omega)]
        · rw [if_neg z3, if_neg (by omega)]
theorem c_addKind {c b x sh : Int} (hc : 0 ≤ c ∧ c < 3) (hb : 0 ≤ b ∧ b ≤ 3) (hx : 0 ≤ x ∧ x ≤ 9) (hs : 0 ≤ sh ∧ sh ≤ 9) {s : SG} (hR : RefC s) (h7 : ∀ i, 0 ≤ i → i < 60 → 0 ≤ s 7 (61 * c + i) ∧ s 7 (61 * c + i) ≤ 1000000000) : ∃ s', sem 2 0 [aA 5, aI c, aI b, aI x, aI sh, aU, aU] [] s = some (aU, s') ∧ RefC s' ∧ (∀ i, 0 ≤ i → s' 7 (61 * c + i) = s 7 (61 * c + i) + Jk b x i * sh) ∧ ∀ q i, q ≠ 8 → ¬ (q = 7 ∧ 61 * c ≤ i ∧ i < 61 * c + 60) → s' q i = s q i := by
  obtain ⟨s1, a1, a2, a3, a4⟩ := c_chances hx hR
  obtain ⟨s', b1, b2, b3, b4⟩ := l_addk hc hb hx hs 7 0 s1 (by decide) (by decide) a2 a3 (fun i i0 i1 i2 => by rw [a4 7 _ (by decide)]; exact h7 i i0 (by omega))
  refine ⟨s', ?_, b2, fun i i0 => ?_, fun q i h1 h2 => by rw [b4 q i h2, a4 q i h1]⟩
  · rw [g2_0 hR, a1, bnV_some, b1]
  · rw [b3 i i0, a4 7 _ (by decide)]
    unfold Jk
    by_cases z : 6 * b ≤ i + 1 ∧ i + 1 ≤ 6 * b + 6
    · rw [if_pos (by omega), if_pos z]
    · rw [if_neg (by omega), if_neg z]
      omega

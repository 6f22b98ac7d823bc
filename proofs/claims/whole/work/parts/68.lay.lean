/-! the van: the reference's plan, half hour by half hour -/
theorem ru64 {s : SG} (h : RefC s) (i v : Int) : RefC (up s 64 i v) := RefC.upd h (rcb_a (by decide))
theorem ru65 {s : SG} (h : RefC s) (i v : Int) : RefC (up s 65 i v) := RefC.upd h (rcb_a (by decide))
def Vr (s s' : SG) : Prop := ∀ k i, ¬ (k = 64 ∨ k = 65 ∨ (k = 56 ∧ i = 14)) → s' k i = s k i
theorem Sc.vr {s s' : SG} (h : Vr s s') : Sc s s' := fun k i hk => by
  unfold scr at hk
  exact h k i (by omega)
theorem l_clear65 {a1 a2 a3 a4 a5 : Int} : ∀ (n : Nat) (l : Int) (s : SG), l + n = 2197 → 0 ≤ l → RefC s → ∃ s', sem 191 3 [aA 56, aI a1, aI a2, aI a3, aI a4, aI a5, aI l, aU, aU, aU, aU, aU] [] s = sem 191 31 [aA 56, aI a1, aI a2, aI a3, aI a4, aI a5, aL 1, aU, aI 0, aU, aU, aU] [] s' ∧ RefC s' ∧ (∀ i, l ≤ i → i < 2197 → s' 65 i = 0) ∧ (∀ i, i < l → s' 65 i = s 65 i) ∧ ∀ q, q ≠ 65 → s' q = s q := by
  intro n
  induction n with
  | zero =>
    intro l s hl h0 hR
    rw [g191_3 hR, if_neg (by omega)]
    exact ⟨s, rfl, hR, fun c h1 h2 => by omega, fun _ _ => rfl, fun _ _ => rfl⟩
  | succ n ih =>
    intro l s hl h0 hR
    have w2 : w32 (l + 1) = l + 1 := w32_id (by omega) (by omega)
    rw [g191_3 hR, if_pos (by omega), g_t (by omega), w2]
    obtain ⟨s', e1, e2, e3, e4, e5⟩ := ih (l + 1) (up s 65 l 0) (by omega) (by omega) (ru65 hR _ _)
    refine ⟨s', e1, e2, fun c h1 h2 => ?_, fun c h1 => ?_, fun q h1 => by rw [e5 q h1, up_k h1]⟩
    · by_cases e : c = l
      · rw [e, e4 l (by omega), up_at]
      · exact e3 c (by omega) h2
    · rw [e4 c (by omega), up_ni (by omega)]
theorem l_copy65 {a1 a2 a3 a4 a5 U h : Int} (hU : 0 ≤ U ∧ U ≤ 10000000000) (hh : 0 ≤ h ∧ h ≤ 6) : ∀ (n : Nat) (l : Int) (s : SG), l + n = 2197 → 0 ≤ l → RefC s → ∃ s', sem 191 127 [aA 56, aI a1, aI a2, aI a3, aI a4, aI a5, aL U, aU, aI h, aI l, aU, aU] [] s = sem 191 31 [aA 56, aI a1, aI a2, aI a3, aI a4, aI a5, aL (U * 100), aU, aI (h + 1), aU, aU, aU] [] s' ∧ RefC s' ∧ (∀ i, l ≤ i → i < 2197 → s' 65 i = s 64 i) ∧ (∀ i, i < l → s' 65 i = s 65 i) ∧ ∀ q, q ≠ 65 → s' q = s q := by
  intro n
  induction n with
  | zero =>
    intro l s hl h0 hR
    rw [g191_127 hR, if_neg (by omega), w64_id (a := U * 100) (by omega) (by omega), w32_id (a := h + 1) (by omega) (by omega)]
    exact ⟨s, rfl, hR, fun c h1 h2 => by omega, fun _ _ => rfl, fun _ _ => rfl⟩
  | succ n ih =>
    intro l s hl h0 hR
    have w2 : w32 (l + 1) = l + 1 := w32_id (by omega) (by omega)
    rw [g191_127 hR, if_pos (by omega), g_t (by omega), w2]
    obtain ⟨s', e1, e2, e3, e4, e5⟩ := ih (l + 1) (up s 65 l (s 64 l)) (by omega) (by omega) (ru65 hR _ _)
    refine ⟨s', e1, e2, fun c h1 h2 => ?_, fun c h1 => ?_, fun q h1 => by rw [e5 q h1, up_k h1]⟩
    · by_cases e : c = l
      · rw [e, e4 l (by omega), up_at]
      · rw [e3 c (by omega) h2, up_ne (by decide)]
    · rw [e4 c (by omega), up_ni (by omega)]
theorem c_layFill {s : SG} (hR : RefC s) {one other k b1 x1 b2 x2 U M P t h : Int} (h1 : 0 ≤ one ∧ one < 3) (h2 : 0 ≤ other ∧ other < 3) (hk : 0 ≤ k ∧ k < 3) (hT : TP (s 58) one other k b1 x1 b2 x2) (hp : VP b1 x1 b2 x2) {F : Int → Int → Int → Int} (hF : Cl s 65 P P F) (hP : 0 ≤ P ∧ P ≤ 12) (hU : 0 ≤ U ∧ U ≤ 1000000000000) (hM : 0 ≤ M ∧ M ≤ 10000000000000000 - 12 * U) (hr : ∀ a b v, dom P P a b v → 0 ≤ F a b v ∧ F a b v ≤ M) : ∃ s', sem 191 41 [aA 56, aI one, aI other, aI k, aI P, aI t, aL U, aU, aI h, aI 0, aU, aU] [] s = sem 191 127 [aA 56, aI one, aI other, aI k, aI P, aI t, aL U, aU, aI h, aI 0, aU, aU] [] s' ∧ (RefC s' ∧ ∀ k i, ¬ (k = 64 ∨ (k = 56 ∧ i = 14)) → s' k i = s k i) ∧ Cl s' 64 P P (fun a b v => Gf (HH b1 x1 b2 x2 U F) a b v v.toNat) := by
  refine fill3 64 P P (fun a b v => Gf (HH b1 x1 b2 x2 U F) a b v v.toNat) (fun z => RefC z ∧ ∀ k i, ¬ (k = 64 ∨ (k = 56 ∧ i = 14)) → z k i = s k i) (fun a z => sem 191 41 [aA 56, aI one, aI other, aI k, aI P, aI t, aL U, aU, aI h, aI a, aU, aU] [] z) (fun a b z => sem 191 51 [aA 56, aI one, aI other, aI k, aI P, aI t, aL U, aU, aI h, aI a, aI b, aU] [] z) (fun a b v z => sem 191 64 [aA 56, aI one, aI other, aI k, aI P, aI t, aL U, aU, aI h, aI a, aI b, aI v] [] z) (fun z => sem 191 127 [aA 56, aI one, aI other, aI k, aI P, aI t, aL U, aU, aI h, aI 0, aU, aU] [] z) hP hP ?_ ?_ ?_ ?_ s ⟨hR, fun _ _ _ => rfl⟩
  · intro a z hz h0 h1
    exact g191_41 hz.1 one other k P t U h a
  · intro a b z hz h0 h1 h2 h3
    show sem 191 51 [aA 56, aI one, aI other, aI k, aI P, aI t, aL U, aU, aI h, aI a, aI b, aU] [] z = if P < a + b then sem 191 41 [aA 56, aI one, aI other, aI k, aI P, aI t, aL U, aU, aI h, aI (a + 1), aU, aU] [] z else sem 191 64 [aA 56, aI one, aI other, aI k, aI P, aI t, aL U, aU, aI h, aI a, aI b, aI 0] [] z
    rw [g191_51 hz.1, w32_id (a := a + b) (by omega) (by omega), w32_id (a := a + 1) (by omega) (by omega)]
  · intro a b v z hz h0 h1 h2 h3 h4 hd
    show sem 191 64 [aA 56, aI one, aI other, aI k, aI P, aI t, aL U, aU, aI h, aI a, aI b, aI v] [] z = sem 191 51 [aA 56, aI one, aI other, aI k, aI P, aI t, aL U, aU, aI h, aI a, aI (b + 1), aU] [] z
    unfold dom at hd
    rw [g191_64 hz.1, w32_id (a := a + b) (by omega) (by omega), w32_id (a := a + b + v) (by omega) (by omega), w32_id (a := b + 1) (by omega) (by omega), if_pos (by omega)]
  · intro a b v z hz hd
    have hd' := hd
    unfold dom at hd
    have e65 : Cl z 65 P P F := fun x y w d => by
      rw [hz.2 65 _ (by omega)]
      exact hF x y w d
    have e58 : z 58 = s 58 := funext fun i => hz.2 58 i (by omega)
    obtain ⟨z1, y1, y2, y3, y4⟩ := c_layGift hz.1 h1 h2 hk (by rw [e58]; exact hT) hp e65 hP.2 hU hM hr hd'
    refine ⟨up z1 64 (ix a b v) (Gf (HH b1 x1 b2 x2 U F) a b v v.toNat), ?_, ⟨ru64 y2 _ _, fun p i hk => by rw [up_app, if_neg (by omega), y4 p i (by omega), hz.2 p i hk]⟩, fun i => by rw [up_i, y4 64 i (by omega)]⟩
    show sem 191 64 [aA 56, aI one, aI other, aI k, aI P, aI t, aL U, aU, aI h, aI a, aI b, aI v] [] z = sem 191 64 [aA 56, aI one, aI other, aI k, aI P, aI t, aL U, aU, aI h, aI a, aI b, aI (v + 1)] [] (up z1 64 (ix a b v) (Gf (HH b1 x1 b2 x2 U F) a b v v.toNat))
    rw [g191_64 hz.1, w32_id (a := a + b) (by omega) (by omega), w32_id (a := a + b + v) (by omega) (by omega), if_neg (by omega), c_place (by omega) (by omega) (by omega), bnI_some, y1, bnL_some, g_t (ix_rng (by omega) (by omega) (by omega)), w32_id (a := v + 1) (by omega) (by omega)]
theorem l_layVan {one other k b1 x1 b2 x2 P : Int} (h1 : 0 ≤ one ∧ one < 3) (h2 : 0 ≤ other ∧ other < 3) (hk : 0 ≤ k ∧ k < 3) (hp : VP b1 x1 b2 x2) (hP : 0 ≤ P ∧ P ≤ 12) {t : Nat} (ht : t ≤ 6) : ∀ (m j : Nat) (s : SG), j + m = t → RefC s → TP (s 58) one other k b1 x1 b2 x2 → Cl s 65 P P (Bf b1 x1 b2 x2 j) → ∃ s', sem 191 31 [aA 56, aI one, aI other, aI k, aI P, aI (t : Int), aL (100 ^ j), aU, aI (j : Int), aU, aU, aU] [] s = some (aL (100 ^ t), s') ∧ RefC s' ∧ Cl s' 65 P P (Bf b1 x1 b2 x2 t) ∧ Vr s s' := by
  intro m
  induction m with
  | zero =>
    intro j s hj hR hT hF
    have : j = t := by omega
    subst this
    rw [g191_31 hR, if_neg (by omega)]
    exact ⟨s, rfl, hR, hF, fun _ _ _ => rfl⟩
  | succ m ih =>
    intro j s hj hR hT hF
    have mb := Mb5_l ⟨j, by omega⟩
    have mr := Mb_rng (j := j) (by omega)
    have mb1 : Mb j ≤ 1000000000000000 := mb.1
    have mb2 : (100 : Int) ^ j ≤ 10000000000 := mb.2
    obtain ⟨s1, a1, ⟨a2, a3⟩, a4⟩ := c_layFill hR h1 h2 hk hT hp hF hP (U := 100 ^ j) (M := Mb j) (t := (t : Int)) (h := (j : Int)) (by omega) (by omega) (fun a b v d => by
      unfold dom at d
      exact Bf_rng hp (by omega) (by omega) (by omega) (by omega) (by omega))
    obtain ⟨s2, b1', b2', b3', -, b5'⟩ := l_copy65 (a1 := one) (a2 := other) (a3 := k) (a4 := P) (a5 := (t : Int)) (U := 100 ^ j) (h := (j : Int)) (by omega) (by omega) 2197 0 s1 (by decide) (by decide) a2
    have e58 : s2 58 = s 58 := (b5' 58 (by decide)).trans (funext fun i => a3 58 i (by omega))
    have f65 : Cl s2 65 P P (Bf b1 x1 b2 x2 (j + 1)) := fun a b v d => by
      have d' := d
      unfold dom at d
      have r := ix_rng (a := a) (b := b) (v := v) (by omega) (by omega) (by omega)
      rw [b3' _ r.1 r.2, a4 a b v d']
      rfl
    obtain ⟨s', i1, i2, i3, i4⟩ := ih (j + 1) s2 (by omega) b2' (by rw [e58]; exact hT) f65
    refine ⟨s', ?_, i2, i3, fun p i hk => ?_⟩
    · rw [g191_31 hR, if_pos (by omega), a1, b1', ← Int.pow_succ]
      exact i1
    · rw [i4 p i hk, b5' p (by omega), a3 p i (by omega)]
theorem c_layVan {s : SG} (hR : RefC s) {one other k b1 x1 b2 x2 P : Int} (h1 : 0 ≤ one ∧ one < 3) (h2 : 0 ≤ other ∧ other < 3) (hk : 0 ≤ k ∧ k < 3) (hp : VP b1 x1 b2 x2) (hP : 0 ≤ P ∧ P ≤ 12) {t : Nat} (ht : t ≤ 6) (hT : TP (s 58) one other k b1 x1 b2 x2) : ∃ s', sem 191 0 [aA 56, aI one, aI other, aI k, aI P, aI (t : Int), aU, aU, aU, aU, aU, aU] [] s = some (aL (100 ^ t), s') ∧ RefC s' ∧ Cl s' 65 P P (Bf b1 x1 b2 x2 t) ∧ Vr s s' := by
  obtain ⟨s1, a1, a2, a3, -, a5⟩ := l_clear65 (a1 := one) (a2 := other) (a3 := k) (a4 := P) (a5 := (t : Int)) 2197 0 s (by decide) (by decide) hR
  have e58 : s1 58 = s 58 := a5 58 (by decide)
  obtain ⟨s', i1, i2, i3, i4⟩ := l_layVan h1 h2 hk hp hP ht t 0 s1 (by omega) a2 (by rw [e58]; exact hT) (fun a b v d => by
    unfold dom at d
    have r := ix_rng (a := a) (b := b) (v := v) (by omega) (by omega) (by omega)
    rw [a3 _ r.1 r.2]
    exact (Gf_zero a b v v.toNat).symm)
  refine ⟨s', ?_, i2, i3, fun p i hk => by rw [i4 p i hk, a5 p (by omega)]⟩
  rw [g191_0 hR, a1]
  exact i1
/-! best, now -/
def rP (n c1 c2 k a b v t l : Int) : Int := if (0 ≤ c1 ∧ c1 < n) ∧ (0 ≤ c2 ∧ c2 < n) ∧ (0 ≤ k ∧ k < 3) then (if ((0 ≤ a ∧ a ≤ 12) ∧ (0 ≤ b ∧ b ≤ 12) ∧ (0 ≤ v ∧ v ≤ 12) ∧ a + b + v ≤ 12) ∧ l ≤ t ∧ t ≤ 6 then (if c1 = c2 then -3 else 0) else -2) else -1
theorem c_isSome (a : Int) (s : SG) : sem 92 0 [aI a] [] s = some (aI (if 0 ≤ a ∧ a ≤ 12 then 1 else 0), s) := by
  rw [e92_0]
  repeat' split
  all_goals first | rfl | omega
theorem c_vholds (a b v : Int) (s : SG) : sem 91 0 [aI a, aI b, aI v] [] s = some (aI (if (0 ≤ a ∧ a ≤ 12) ∧ (0 ≤ b ∧ b ≤ 12) ∧ (0 ≤ v ∧ v ≤ 12) ∧ a + b + v ≤ 12 then 1 else 0), s) := by
  rw [e91_0, c_isSome, bnI_some]
  by_cases q1 : 0 ≤ a ∧ a ≤ 12
  · rw [if_pos q1, if_neg (by decide), c_isSome, bnI_some]
    by_cases q2 : 0 ≤ b ∧ b ≤ 12
    · rw [if_pos q2, if_neg (by decide), c_isSome, bnI_some]
      by_cases q3 : 0 ≤ v ∧ v ≤ 12
      · rw [if_pos q3, if_neg (by decide), w32_id (a := a + b) (by omega) (by omega), w32_id (by omega) (by omega)]
        by_cases q4 : 12 < a + b + v
        · rw [if_pos q4, if_neg (by omega)]
        · rw [if_neg q4, if_pos (by omega)]
      · rw [if_neg q3, if_pos rfl, if_neg (fun y => q3 y.2.2.1)]
    · rw [if_neg q2, if_pos rfl, if_neg (fun y => q2 y.2.1)]
  · rw [if_neg q1, if_pos rfl, if_neg (fun y => q1 y.1)]
theorem c_mayVan {s : SG} (h : Inv s) (c1 c2 k a b v t l : Int) : sem 192 0 [aA 56, aI c1, aI c2, aI k, aI a, aI b, aI v, aI t, aI l] [] s = some (aI (rP (s 58 0) c1 c2 k a b v t l), s) := by
  unfold rP
  rw [g192_0 h.1, c_isCorner h, bnI_some]
  by_cases q1 : 0 ≤ c1 ∧ c1 < s 58 0
  · rw [if_pos q1, if_neg (by decide), c_isCorner h, bnI_some]
    by_cases q2 : 0 ≤ c2 ∧ c2 < s 58 0
    · rw [if_pos q2, if_neg (by decide), c_isKind9, bnI_some]
      by_cases q3 : 0 ≤ k ∧ k < 3
      · rw [if_pos q3, if_neg (by decide), if_pos ⟨q1, q2, q3⟩, c_in, bnI_some]
        by_cases r1 : 0 ≤ a ∧ a ≤ 12
        · rw [if_pos r1, if_neg (by decide), c_in, bnI_some]
          by_cases r2 : 0 ≤ b ∧ b ≤ 12
          · rw [if_pos r2, if_neg (by decide), c_in, bnI_some]
            by_cases r3 : 0 ≤ v ∧ v ≤ 12
            · rw [if_pos r3, if_neg (by decide), w32_id (a := a + b) (by omega) (by omega), w32_id (by omega) (by omega)]
              by_cases r4 : 12 < a + b + v
              · rw [if_pos r4, if_neg (fun y => by have := y.1.2.2.2; omega)]
              · rw [if_neg r4, c_in, bnI_some]
                by_cases r5 : l ≤ t ∧ t ≤ 6
                · have Q2 : ((0 ≤ a ∧ a ≤ 12) ∧ (0 ≤ b ∧ b ≤ 12) ∧ (0 ≤ v ∧ v ≤ 12) ∧ a + b + v ≤ 12) ∧ l ≤ t ∧ t ≤ 6 := ⟨⟨r1, r2, r3, by omega⟩, r5⟩
                  rw [if_pos r5, if_neg (by decide), if_pos Q2]
                  split <;> rfl
                · rw [if_neg r5, if_pos rfl, if_neg (fun y => r5 y.2)]
            · rw [if_neg r3, if_pos rfl, if_neg (fun y => r3 y.1.2.2.1)]
          · rw [if_neg r2, if_pos rfl, if_neg (fun y => r2 y.1.2.1)]
        · rw [if_neg r1, if_pos rfl, if_neg (fun y => r1 y.1.1)]
      · rw [if_neg q3, if_pos rfl, if_neg (fun y => q3 y.2.2)]
    · rw [if_neg q2, if_pos rfl, if_neg (fun y => q2 y.2.1)]
  · rw [if_neg q1, if_pos rfl, if_neg (fun y => q1 y.1)]
theorem td_rng {a n : Int} (ha : -2147483648 ≤ a ∧ a < 2147483648) (hn : n = 10 ∨ n = 100) : w32 (Int.tdiv a n) = Int.tdiv a n ∧ n * Int.tdiv a n + remA a n = a := by
  have e : n * Int.tdiv a n + remA a n = a := Int.mul_tdiv_add_tmod a n
  refine ⟨w32_id ?_ ?_, e⟩
  · have l := Int.natAbs_tdiv_le_natAbs a n
    omega
  · have l := Int.natAbs_tdiv_le_natAbs a n
    by_cases z : a = -2147483648
    · subst z
      rcases hn with rfl | rfl <;> decide
    · omega
theorem c_refPlan {s : SG} (h : Inv s) {cs k ps v t l : Int} (hcs : -2147483648 ≤ cs ∧ cs < 2147483648) (hps : -2147483648 ≤ ps ∧ ps < 2147483648) : sem 146 0 [aA 0, aI cs, aI k, aI ps, aI v, aI t, aI l] [] s = some (aI (rP (s 58 0) (Int.tdiv cs 10) (remA cs 10) k (Int.tdiv ps 100) (remA ps 100) v t l), s) := by
  obtain ⟨e1, e2⟩ := td_rng hcs (Or.inl rfl)
  obtain ⟨e3, e4⟩ := td_rng hps (Or.inr rfl)
  rw [g146_0 h.th h.1 h.tw, e1, e3]
  obtain ⟨c1, hc1⟩ : ∃ c1, c1 = Int.tdiv cs 10 := ⟨_, rfl⟩
  obtain ⟨c2, hc2⟩ : ∃ c2, c2 = remA cs 10 := ⟨_, rfl⟩
  obtain ⟨a, ha⟩ : ∃ a, a = Int.tdiv ps 100 := ⟨_, rfl⟩
  obtain ⟨b, hb⟩ : ∃ b, b = remA ps 100 := ⟨_, rfl⟩
  rw [← hc1, ← hc2] at e2 ⊢
  rw [← ha, ← hb] at e4 ⊢
  unfold rP
  by_cases q0 : cs < 0
  · rw [if_pos q0, if_neg (by omega)]
  · rw [if_neg q0, c_hasC h, bnI_some]
    by_cases q1 : 0 ≤ c1 ∧ c1 < s 58 0
    · rw [if_pos q1, if_neg (by decide), c_hasC h, bnI_some]
      by_cases q2 : 0 ≤ c2 ∧ c2 < s 58 0
      · rw [if_pos q2, if_neg (by decide), c_isKind, bnI_some]
        by_cases q3 : 0 ≤ k ∧ k < 3
        · have Q1 : (0 ≤ c1 ∧ c1 < s 58 0) ∧ (0 ≤ c2 ∧ c2 < s 58 0) ∧ (0 ≤ k ∧ k < 3) := ⟨q1, q2, q3⟩
          rw [if_pos q3, if_neg (by decide), if_pos Q1]
          by_cases r0 : ps < 0
          · rw [if_pos r0, if_neg (by omega)]
          · rw [if_neg r0, c_vholds, bnI_some]
            by_cases r1 : (0 ≤ a ∧ a ≤ 12) ∧ (0 ≤ b ∧ b ≤ 12) ∧ (0 ≤ v ∧ v ≤ 12) ∧ a + b + v ≤ 12
            · rw [if_pos r1, if_neg (by decide)]
              by_cases r2 : t < l
              · rw [if_pos r2, if_neg (fun y => by have := y.2.1; omega)]
              · rw [if_neg r2]
                by_cases r3 : 6 < t
                · rw [if_pos r3, if_neg (fun y => by have := y.2.2; omega)]
                · have Q2 : ((0 ≤ a ∧ a ≤ 12) ∧ (0 ≤ b ∧ b ≤ 12) ∧ (0 ≤ v ∧ v ≤ 12) ∧ a + b + v ≤ 12) ∧ l ≤ t ∧ t ≤ 6 := ⟨r1, by omega, by omega⟩
                  rw [if_neg r3, if_pos Q2]
                  split <;> rfl
            · rw [if_neg r1, if_pos rfl, if_neg (fun y => r1 y.1)]
        · rw [if_neg q3, if_pos rfl, if_neg (fun y => q3 y.2.2)]
      · rw [if_neg q2, if_pos rfl, if_neg (fun y => q2 y.2.1)]
    · rw [if_neg q1, if_pos rfl, if_neg (fun y => q1 y.1)]
theorem rP_0 {n c1 c2 k a b v t l : Int} (h : rP n c1 c2 k a b v t l = 0) : ((0 ≤ c1 ∧ c1 < n) ∧ (0 ≤ c2 ∧ c2 < n) ∧ (0 ≤ k ∧ k < 3)) ∧ ((0 ≤ a ∧ a ≤ 12) ∧ (0 ≤ b ∧ b ≤ 12) ∧ (0 ≤ v ∧ v ≤ 12) ∧ a + b + v ≤ 12) ∧ l ≤ t ∧ t ≤ 6 := by
  unfold rP at h
  by_cases q1 : (0 ≤ c1 ∧ c1 < n) ∧ (0 ≤ c2 ∧ c2 < n) ∧ (0 ≤ k ∧ k < 3)
  · rw [if_pos q1] at h
    by_cases q2 : ((0 ≤ a ∧ a ≤ 12) ∧ (0 ≤ b ∧ b ≤ 12) ∧ (0 ≤ v ∧ v ≤ 12) ∧ a + b + v ≤ 12) ∧ l ≤ t ∧ t ≤ 6
    · exact ⟨q1, q2⟩
    · rw [if_neg q2] at h
      omega
  · rw [if_neg q1] at h
    omega
theorem rP_neg {n c1 c2 k a b v t l : Int} (h : ¬ rP n c1 c2 k a b v t l = 0) : rP n c1 c2 k a b v t l < 0 := by
  unfold rP at h ⊢
  repeat' split
  all_goals first | decide | (exfalso; simp_all)
theorem Inv.u13 {s : SG} (h : Inv s) {i : Int} (hi : 2 ≤ i) (v : Int) : Inv (up s 13 i v) := h.sc (fun k j hk => by
  unfold scr at hk
  rw [up_app, if_neg (by omega)])
theorem c_choose {s : SG} (h : Inv s) {c1 c2 k : Int} (h1 : 0 ≤ c1 ∧ c1 < 3) (h2 : 0 ≤ c2 ∧ c2 < 3) (hk : 0 ≤ k ∧ k < 3) : ∃ s', sem 94 0 [aA 13, aA (s 0 9), aI c1, aI c2, aI k] [] s = some (aU, s') ∧ Inv s' ∧ VC s' (s 58 (10 + 3 * c1 + k)) (s 58 (19 + 3 * c1 + k)) (s 58 (10 + 3 * c2 + k)) (s 58 (19 + 3 * c2 + k)) (s' 13 2) ∧ s' 58 = s 58 := by
  obtain ⟨u1, hu1⟩ : ∃ z, z = up s 13 3 (s 58 (10 + 3 * c1 + k)) := ⟨_, rfl⟩
  obtain ⟨u2, hu2⟩ : ∃ z, z = up u1 13 4 (s 58 (10 + 3 * c2 + k)) := ⟨_, rfl⟩
  obtain ⟨u3, hu3⟩ : ∃ z, z = up u2 13 5 (s 58 (19 + 3 * c1 + k)) := ⟨_, rfl⟩
  have I1 : Inv u1 := by rw [hu1]; exact h.u13 (by decide) _
  have I2 : Inv u2 := by rw [hu2]; exact I1.u13 (by decide) _
  have I3 : Inv u3 := by rw [hu3]; exact I2.u13 (by decide) _
  have f1 : ∀ q, q ≠ 13 → u1 q = s q := fun q hq => by rw [hu1, up_k hq]
  have f2 : ∀ q, q ≠ 13 → u2 q = s q := fun q hq => by rw [hu2, up_k hq, f1 q hq]
  have f3 : ∀ q, q ≠ 13 → u3 q = s q := fun q hq => by rw [hu3, up_k hq, f2 q hq]
  have o1 : s 0 9 = u1 0 9 := by rw [f1 0 (by decide)]
  have o2 : s 0 9 = u2 0 9 := by rw [f2 0 (by decide)]
  have o3 : s 0 9 = u3 0 9 := by rw [f3 0 (by decide)]
  refine ⟨up u3 13 6 (s 58 (19 + 3 * c2 + k)), ?_, I3.u13 (by decide) _, ?_, by rw [up_k (by decide), f3 58 (by decide)]⟩
  · have y1 : sem 84 0 [aA (s 0 9), aI c2, aI k, aU] [] u1 = some (aI (s 58 (10 + 3 * c2 + k)), u1) := by
      rw [o1, I1.coI h2 hk, f1 58 (by decide)]
    have y2 : sem 85 0 [aA (s 0 9), aI c1, aI k, aU] [] u2 = some (aI (s 58 (19 + 3 * c1 + k)), u2) := by
      rw [o2, I2.teI h1 hk, f2 58 (by decide)]
    have y3 : sem 85 0 [aA (s 0 9), aI c2, aI k, aU] [] u3 = some (aI (s 58 (19 + 3 * c2 + k)), u3) := by
      rw [o3, I3.teI h2 hk, f3 58 (by decide)]
    rw [g94_0 h.th h.1, h.coI h1 hk, bnI_some, ← hu1, y1, bnI_some, ← hu2, y2, bnI_some, ← hu3, y3, bnI_some]
  · unfold VC
    refine ⟨?_, ?_, ?_, ?_, rfl⟩
    · rw [up_ni (by decide), hu3, up_ni (by decide), hu2, up_ni (by decide), hu1, up_at]
    · rw [up_ni (by decide), hu3, up_ni (by decide), hu2, up_at]
    · rw [up_ni (by decide), hu3, up_at]
    · rw [up_at]
theorem q_best {s : SG} (h : Inv s) {cs ps : Int} (k v t f : Int) (hcs : -2147483648 ≤ cs ∧ cs < 2147483648) (hps : -2147483648 ≤ ps ∧ ps < 2147483648) : ∃ r s1 s2, sem 120 0 [aA 0, aI cs, aI k, aI ps, aI v, aI t, aI f, aU] [] s = some (aL r, s1) ∧ sem 193 0 [aA 56, aI cs, aI k, aI ps, aI v, aI t, aI f, aU, aU, aU, aU, aU, aU, aU] [] s1 = some (aL r, s2) ∧ Inv s2 := by
  have n3 := h.tg.1
  obtain ⟨e1, e2⟩ := td_rng hcs (Or.inl rfl)
  obtain ⟨e3, e4⟩ := td_rng hps (Or.inr rfl)
  have cp := c_refPlan h (k := k) (v := v) (t := t) (l := 0) hcs hps
  obtain ⟨c1, hc1⟩ : ∃ c1, c1 = Int.tdiv cs 10 := ⟨_, rfl⟩
  obtain ⟨c2, hc2⟩ : ∃ c2, c2 = remA cs 10 := ⟨_, rfl⟩
  obtain ⟨a, ha⟩ : ∃ a, a = Int.tdiv ps 100 := ⟨_, rfl⟩
  obtain ⟨b, hb⟩ : ∃ b, b = remA ps 100 := ⟨_, rfl⟩
  rw [← hc1, ← hc2, ← ha, ← hb] at cp
  rw [← hc1] at e1
  rw [← ha] at e3
  by_cases z : rP (s 58 0) c1 c2 k a b v t 0 = 0
  · obtain ⟨⟨z1, z2, z3⟩, ⟨z4, z5, z6, z7⟩, z8, z9⟩ := rP_0 z
    obtain ⟨n, hn⟩ : ∃ n : Nat, t = n := ⟨t.toNat, by omega⟩
    subst hn
    obtain ⟨s1, a1, a2, a3, a4⟩ := c_choose h (c1 := c1) (c2 := c2) (k := k) (by omega) (by omega) z3
    have bI1 := h.bI (c := c1) (k := k) (by omega) z3
    have bI2 := h.bI (c := c2) (k := k) (by omega) z3
    have hp : VP (s 58 (10 + 3 * c1 + k)) (s 58 (19 + 3 * c1 + k)) (s 58 (10 + 3 * c2 + k)) (s 58 (19 + 3 * c2 + k)) := ⟨bI1.1, bI1.2, bI2.1, bI2.2⟩
    obtain ⟨B1, hB1⟩ : ∃ x, x = s 58 (10 + 3 * c1 + k) := ⟨_, rfl⟩
    obtain ⟨X1, hX1⟩ : ∃ x, x = s 58 (19 + 3 * c1 + k) := ⟨_, rfl⟩
    obtain ⟨B2, hB2⟩ : ∃ x, x = s 58 (10 + 3 * c2 + k) := ⟨_, rfl⟩
    obtain ⟨X2, hX2⟩ : ∃ x, x = s 58 (19 + 3 * c2 + k) := ⟨_, rfl⟩
    rw [← hB1, ← hX1, ← hB2, ← hX2] at hp a3
    obtain ⟨s2, d1, d2, d3, d4, d5⟩ := c_vreckon a2.1 hp a3 (A := a + b) (V := v) (by omega) (by omega) (by omega) (t := n) (by omega)
    have I2 : Inv s2 := a2.sc (Sc.vs d5)
    have f58 : s2 58 = s 58 := (funext fun i => d5 58 i (by omega)).trans a4
    have db : dom (a + b + v) v a b v := by unfold dom; omega
    have db2 : dom (a + b + v) (a + b + v) a b v := by unfold dom; omega
    have cb := c_bestOf d2 d4 (by omega) (by omega) db
    obtain ⟨s3, i1, i2, i3, i4⟩ := c_layVan I2.1 (one := c1) (other := c2) (k := k) (by omega) (by omega) z3 hp (P := a + b + v) (by omega) (t := n) (by omega) (by rw [f58]; exact ⟨hB1.symm, hX1.symm, hB2.symm, hX2.symm⟩)
    have I3 : Inv s3 := I2.sc (Sc.vr i4)
    have rB := Bf_rng hp (j := n) (by omega) (a := a) (b := b) (v := v) (by omega) (by omega) (by omega) (by omega)
    have rM := Mb_rng (j := n) (by omega)
    have eB : Gf (Bh B1 X1 B2 X2 n) a b v v.toNat = Bf B1 X1 B2 X2 n a b v := rfl
    rw [eB] at cb
    refine ⟨frac (Bf B1 X1 B2 X2 n a b v) (100 ^ n) f, s2, s3, ?_, ?_, I3⟩
    · rw [g120_0 h.th h.1 h.tw, cp, bnI_some, if_pos z, ← hc1, ← hc2, ← ha, ← hb, e1, e3, a1, bnV_some, w32_id (a := a + b) (by omega) (by omega), d1, bnV_some, cb, bnL_some, g95_0 d2, d3.2.2.2.2, bnL_some, c_fraction (by omega) (by omega), bnL_some]
    · have cm := c_mayVan I2 c1 c2 k a b v (n : Int) 0
      rw [f58, z] at cm
      rw [g193_0 I2.1, ← hc1, ← hc2, ← ha, ← hb, e1, e3, cm, bnI_some, if_neg (by decide), w32_id (a := a + b) (by omega) (by omega), w32_id (a := a + b + v) (by omega) (by omega), i1, bnL_some, c_place (by omega) (by omega) (by omega), bnI_some, g_t (ix_rng (by omega) (by omega) (by omega)), i3 a b v db2, c_part (by omega) (by omega), bnL_some]
  · have cm := c_mayVan h c1 c2 k a b v t 0
    refine ⟨rP (s 58 0) c1 c2 k a b v t 0, s, s, ?_, ?_, h⟩
    · rw [g120_0 h.th h.1 h.tw, cp, bnI_some, if_neg z]
    · rw [g193_0 h.1, ← hc1, ← hc2, ← ha, ← hb, e1, e3, cm, bnI_some, if_pos (rP_neg z)]
theorem q_now {s : SG} (h : Inv s) {cs ps : Int} (k v t : Int) (hcs : -2147483648 ≤ cs ∧ cs < 2147483648) (hps : -2147483648 ≤ ps ∧ ps < 2147483648) : ∃ r s1 s2, sem 121 0 [aA 0, aI cs, aI k, aI ps, aI v, aI t, aU] [] s = some (aI r, s1) ∧ sem 194 0 [aA 56, aI cs, aI k, aI ps, aI v, aI t, aU, aU, aU, aU, aU, aU, aU] [] s1 = some (aI r, s2) ∧ Inv s2 := by
  have n3 := h.tg.1
  obtain ⟨e1, e2⟩ := td_rng hcs (Or.inl rfl)
  obtain ⟨e3, e4⟩ := td_rng hps (Or.inr rfl)
  have cp := c_refPlan h (k := k) (v := v) (t := t) (l := 1) hcs hps
  obtain ⟨c1, hc1⟩ : ∃ c1, c1 = Int.tdiv cs 10 := ⟨_, rfl⟩
  obtain ⟨c2, hc2⟩ : ∃ c2, c2 = remA cs 10 := ⟨_, rfl⟩
  obtain ⟨a, ha⟩ : ∃ a, a = Int.tdiv ps 100 := ⟨_, rfl⟩
  obtain ⟨b, hb⟩ : ∃ b, b = remA ps 100 := ⟨_, rfl⟩
  rw [← hc1, ← hc2, ← ha, ← hb] at cp
  rw [← hc1] at e1
  rw [← ha] at e3
  by_cases z : rP (s 58 0) c1 c2 k a b v t 1 = 0
  · obtain ⟨⟨z1, z2, z3⟩, ⟨z4, z5, z6, z7⟩, z8, z9⟩ := rP_0 z
    obtain ⟨n, hn⟩ : ∃ n : Nat, t = ((n + 1 : Nat) : Int) := ⟨(t - 1).toNat, by omega⟩
    subst hn
    obtain ⟨s1, a1, a2, a3, a4⟩ := c_choose h (c1 := c1) (c2 := c2) (k := k) (by omega) (by omega) z3
    have bI1 := h.bI (c := c1) (k := k) (by omega) z3
    have bI2 := h.bI (c := c2) (k := k) (by omega) z3
    have hp : VP (s 58 (10 + 3 * c1 + k)) (s 58 (19 + 3 * c1 + k)) (s 58 (10 + 3 * c2 + k)) (s 58 (19 + 3 * c2 + k)) := ⟨bI1.1, bI1.2, bI2.1, bI2.2⟩
    obtain ⟨B1, hB1⟩ : ∃ x, x = s 58 (10 + 3 * c1 + k) := ⟨_, rfl⟩
    obtain ⟨X1, hX1⟩ : ∃ x, x = s 58 (19 + 3 * c1 + k) := ⟨_, rfl⟩
    obtain ⟨B2, hB2⟩ : ∃ x, x = s 58 (10 + 3 * c2 + k) := ⟨_, rfl⟩
    obtain ⟨X2, hX2⟩ : ∃ x, x = s 58 (19 + 3 * c2 + k) := ⟨_, rfl⟩
    rw [← hB1, ← hX1, ← hB2, ← hX2] at hp a3
    obtain ⟨s2, d1, d2, d3, d4, d5⟩ := c_vreckon a2.1 hp a3 (A := a + b) (V := v) (by omega) (by omega) (by omega) (t := n + 1) (by omega)
    have I2 : Inv s2 := a2.sc (Sc.vs d5)
    have f58 : s2 58 = s 58 := (funext fun i => d5 58 i (by omega)).trans a4
    have db : dom (a + b + v) v a b v := by unfold dom; omega
    have db2 : dom (a + b + v) (a + b + v) a b v := by unfold dom; omega
    have cb := c_firstMove d2 d4 (by omega) (by omega) db
    obtain ⟨s3, i1, i2, i3, i4⟩ := c_layVan I2.1 (one := c1) (other := c2) (k := k) (by omega) (by omega) z3 hp (P := a + b + v) (by omega) (t := n) (by omega) (by rw [f58]; exact ⟨hB1.symm, hX1.symm, hB2.symm, hX2.symm⟩)
    have I3 : Inv s3 := I2.sc (Sc.vr i4)
    have g58 : s3 58 = s 58 := (funext fun i => i4 58 i (by omega)).trans f58
    have rM := Mb_rng (j := n) (by omega)
    have mb := Mb5_l ⟨n, by omega⟩
    have mb1 : Mb n ≤ 1000000000000000 := mb.1
    have mb2 : (100 : Int) ^ n ≤ 10000000000 := mb.2
    obtain ⟨s4, j1, j2, j3, j4⟩ := c_layGift I3.1 (one := c1) (other := c2) (k := k) (by omega) (by omega) z3 (by rw [g58]; exact ⟨hB1.symm, hX1.symm, hB2.symm, hX2.symm⟩) hp i3 (by omega) (U := 100 ^ n) (M := Mb n) (by omega) (by omega) (fun a b v d => by
      unfold dom at d
      exact Bf_rng hp (by omega) (by omega) (by omega) (by omega) (by omega)) db2
    have I4 : Inv s4 := I3.sc (fun k i hk => by
      unfold scr at hk
      exact j4 k i (by omega))
    refine ⟨fg (Bh B1 X1 B2 X2 (n + 1)) a b v v.toNat, s2, s4, ?_, ?_, I4⟩
    · rw [g121_0 h.th h.1 h.tw, cp, bnI_some, if_pos z, ← hc1, ← hc2, ← ha, ← hb, e1, e3, a1, bnV_some, w32_id (a := a + b) (by omega) (by omega), d1, bnV_some, cb, bnI_some]
    · have cm := c_mayVan I2 c1 c2 k a b v ((n + 1 : Nat) : Int) 1
      rw [f58, z] at cm
      rw [g194_0 I2.1, ← hc1, ← hc2, ← ha, ← hb, e1, e3, cm, bnI_some, if_neg (by decide), w32_id (a := a + b) (by omega) (by omega), w32_id (a := a + b + v) (by omega) (by omega), w32_id (a := ((n + 1 : Nat) : Int) - 1) (by omega) (by omega), show ((n + 1 : Nat) : Int) - 1 = (n : Int) from by omega, i1, bnL_some, j1, bnL_some, j3]
      rfl
  · have cm := c_mayVan h c1 c2 k a b v t 1
    refine ⟨rP (s 58 0) c1 c2 k a b v t 1, s, s, ?_, ?_, h⟩
    · rw [g121_0 h.th h.1 h.tw, cp, bnI_some, if_neg z]
    · rw [g194_0 h.1, ← hc1, ← hc2, ← ha, ← hb, e1, e3, cm, bnI_some, if_pos (rP_neg z)]

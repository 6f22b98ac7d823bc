/-! the van: the class fills its cells and reckons -/
theorem ru14 {s : SG} (h : RefC s) (i v : Int) : RefC (up s 14 i v) := RefC.upd h (rcb_a (by decide))
theorem ru15 {s : SG} (h : RefC s) (i v : Int) : RefC (up s 15 i v) := RefC.upd h (rcb_a (by decide))
theorem up_i (s : SG) (q j v i : Int) : up s q j v q i = if i = j then v else s q i := by
  rw [up_app]
  by_cases z : i = j
  · rw [if_pos ⟨rfl, z⟩, if_pos z]
  · rw [if_neg (fun y => z y.2), if_neg z]
theorem c_fillAhead {s : SG} (hR : RefC s) {P V : Int} {H : Int → Int → Int → Int} (hH : Cl s 15 P V H) (hP : 0 ≤ P ∧ P ≤ 12) (hV : 0 ≤ V ∧ V ≤ 12) : ∃ s', sem 97 0 [aA 13, aI P, aI V, aU, aU, aU] [] s = some (aU, s') ∧ (RefC s' ∧ ∀ k, k ≠ 14 → s' k = s k) ∧ Cl s' 14 P V (fun a b v => Gf H a b v v.toNat) := by
  rw [g97_0 hR]
  refine fill3 14 P V (fun a b v => Gf H a b v v.toNat) (fun z => RefC z ∧ ∀ k, k ≠ 14 → z k = s k) (fun a z => sem 97 2 [aA 13, aI P, aI V, aI a, aU, aU] [] z) (fun a b z => sem 97 10 [aA 13, aI P, aI V, aI a, aI b, aU] [] z) (fun a b v z => sem 97 21 [aA 13, aI P, aI V, aI a, aI b, aI v] [] z) (fun z => some (aU, z)) hP hV ?_ ?_ ?_ ?_ s ⟨hR, fun _ _ => rfl⟩
  · intro a z hz h0 h1
    exact g97_2 hz.1 P V a
  · intro a b z hz h0 h1 h2 h3
    show sem 97 10 [aA 13, aI P, aI V, aI a, aI b, aU] [] z = if P < a + b then sem 97 2 [aA 13, aI P, aI V, aI (a + 1), aU, aU] [] z else sem 97 21 [aA 13, aI P, aI V, aI a, aI b, aI 0] [] z
    rw [g97_10 hz.1, w32_id (a := a + b) (by omega) (by omega), w32_id (a := a + 1) (by omega) (by omega)]
  · intro a b v z hz h0 h1 h2 h3 h4 hd
    show sem 97 21 [aA 13, aI P, aI V, aI a, aI b, aI v] [] z = sem 97 10 [aA 13, aI P, aI V, aI a, aI (b + 1), aU] [] z
    unfold dom at hd
    rw [g97_21 hz.1, w32_id (a := a + b) (by omega) (by omega), w32_id (a := a + b + v) (by omega) (by omega), w32_id (a := b + 1) (by omega) (by omega)]
    by_cases q : V < v
    · rw [if_pos q]
    · rw [if_neg q, if_pos (by omega)]
  · intro a b v z hz hd
    have hd' := hd
    unfold dom at hd
    have e15 : Cl z 15 P V H := by
      unfold Cl
      rw [hz.2 15 (by decide)]
      exact hH
    refine ⟨up z 14 (ix a b v) (Gf H a b v v.toNat), ?_, ⟨ru14 hz.1 _ _, fun k hk => by rw [up_k hk, hz.2 k hk]⟩, fun i => up_i z 14 _ _ i⟩
    show sem 97 21 [aA 13, aI P, aI V, aI a, aI b, aI v] [] z = sem 97 21 [aA 13, aI P, aI V, aI a, aI b, aI (v + 1)] [] (up z 14 (ix a b v) (Gf H a b v v.toNat))
    rw [g97_21 hz.1, if_neg (by omega), w32_id (a := a + b) (by omega) (by omega), w32_id (a := a + b + v) (by omega) (by omega), if_neg (by omega), c_cell (by omega) (by omega) (by omega), bnI_some, c_bestOf hz.1 e15 hP.2 hV.2 hd', bnL_some, g_t (ix_rng (by omega) (by omega) (by omega)), w32_id (a := v + 1) (by omega) (by omega)]
theorem c_fillBehind {s : SG} (hR : RefC s) {b1 x1 b2 x2 U M P V : Int} (hp : VP b1 x1 b2 x2) (hc : VC s b1 x1 b2 x2 U) {F : Int → Int → Int → Int} (hF : Cl s 14 P V F) (hP : 0 ≤ P ∧ P ≤ 12) (hV : 0 ≤ V ∧ V ≤ 12) (hU : 0 ≤ U ∧ U ≤ 1000000000000) (hM : 0 ≤ M ∧ M ≤ 10000000000000000 - 12 * U) (hr : ∀ a b v, dom P V a b v → 0 ≤ F a b v ∧ F a b v ≤ M) : ∃ s', sem 98 0 [aA 13, aI P, aI V, aU, aU, aU] [] s = some (aU, s') ∧ (RefC s' ∧ ∀ k, k ≠ 15 → s' k = s k) ∧ Cl s' 15 P V (HH b1 x1 b2 x2 U F) := by
  rw [g98_0 hR]
  refine fill3 15 P V (HH b1 x1 b2 x2 U F) (fun z => RefC z ∧ ∀ k, k ≠ 15 → z k = s k) (fun a z => sem 98 2 [aA 13, aI P, aI V, aI a, aU, aU] [] z) (fun a b z => sem 98 10 [aA 13, aI P, aI V, aI a, aI b, aU] [] z) (fun a b v z => sem 98 21 [aA 13, aI P, aI V, aI a, aI b, aI v] [] z) (fun z => some (aU, z)) hP hV ?_ ?_ ?_ ?_ s ⟨hR, fun _ _ => rfl⟩
  · intro a z hz h0 h1
    exact g98_2 hz.1 P V a
  · intro a b z hz h0 h1 h2 h3
    show sem 98 10 [aA 13, aI P, aI V, aI a, aI b, aU] [] z = if P < a + b then sem 98 2 [aA 13, aI P, aI V, aI (a + 1), aU, aU] [] z else sem 98 21 [aA 13, aI P, aI V, aI a, aI b, aI 0] [] z
    rw [g98_10 hz.1, w32_id (a := a + b) (by omega) (by omega), w32_id (a := a + 1) (by omega) (by omega)]
  · intro a b v z hz h0 h1 h2 h3 h4 hd
    show sem 98 21 [aA 13, aI P, aI V, aI a, aI b, aI v] [] z = sem 98 10 [aA 13, aI P, aI V, aI a, aI (b + 1), aU] [] z
    unfold dom at hd
    rw [g98_21 hz.1, w32_id (a := a + b) (by omega) (by omega), w32_id (a := a + b + v) (by omega) (by omega), w32_id (a := b + 1) (by omega) (by omega)]
    by_cases q : V < v
    · rw [if_pos q]
    · rw [if_neg q, if_pos (by omega)]
  · intro a b v z hz hd
    have hd' := hd
    unfold dom at hd
    have e14 : Cl z 14 P V F := by
      unfold Cl
      rw [hz.2 14 (by decide)]
      exact hF
    have ec : VC z b1 x1 b2 x2 U := by
      unfold VC
      rw [hz.2 13 (by decide)]
      exact hc
    refine ⟨up z 15 (ix a b v) (HH b1 x1 b2 x2 U F a b v), ?_, ⟨ru15 hz.1 _ _, fun k hk => by rw [up_k hk, hz.2 k hk]⟩, fun i => up_i z 15 _ _ i⟩
    show sem 98 21 [aA 13, aI P, aI V, aI a, aI b, aI v] [] z = sem 98 21 [aA 13, aI P, aI V, aI a, aI b, aI (v + 1)] [] (up z 15 (ix a b v) (HH b1 x1 b2 x2 U F a b v))
    rw [g98_21 hz.1, if_neg (by omega), w32_id (a := a + b) (by omega) (by omega), w32_id (a := a + b + v) (by omega) (by omega), if_neg (by omega), c_cell (by omega) (by omega) (by omega), bnI_some, c_vmean hz.1 hp ec e14 hP.2 hV.2 hU hM hr hd', bnL_some, g_t (ix_rng (by omega) (by omega) (by omega)), w32_id (a := v + 1) (by omega) (by omega)]
theorem Mb5_l : ∀ j : Fin 6, Mb j.val ≤ 1000000000000000 ∧ (100 : Int) ^ j.val ≤ 10000000000 := by decide +kernel
def Vs (s s' : SG) : Prop := ∀ k i, ¬ (k = 14 ∨ k = 15 ∨ (k = 13 ∧ 2 ≤ i)) → s' k i = s k i
theorem Sc.vs {s s' : SG} (h : Vs s s') : Sc s s' := fun k i hk => by
  unfold scr at hk
  exact h k i (by omega)
theorem ru132 {s : SG} (h : RefC s) (v : Int) : RefC (up s 13 2 v) := RefC.upd h (rcb_f (c := 7) (j := 2) rfl (by decide) (by decide))
theorem l_reckon {b1 x1 b2 x2 A V : Int} (hp : VP b1 x1 b2 x2) (hA : 0 ≤ A) (hV : 0 ≤ V) (hAV : A + V ≤ 12) {t : Nat} (ht : t ≤ 6) : ∀ (m j : Nat) (s : SG), j + m = t → RefC s → VC s b1 x1 b2 x2 (100 ^ j) → Cl s 15 (A + V) V (Bh b1 x1 b2 x2 j) → (j = 0 → Cl s 14 (A + V) V (Bf b1 x1 b2 x2 0)) → ∃ s', sem 96 24 [aA 13, aI A, aI V, aI (t : Int), aI ((j + 1 : Nat) : Int)] [] s = some (aU, s') ∧ RefC s' ∧ VC s' b1 x1 b2 x2 (100 ^ t) ∧ Cl s' 15 (A + V) V (Bh b1 x1 b2 x2 t) ∧ Vs s s' := by
  have wA : w32 (A + V) = A + V := w32_id (by omega) (by omega)
  intro m
  induction m with
  | zero =>
    intro j s hj hR hc h15 h14
    have : j = t := by omega
    subst this
    rw [g96_24 hR, if_pos (by omega)]
    exact ⟨s, rfl, hR, hc, h15, fun _ _ _ => rfl⟩
  | succ m ih =>
    intro j s hj hR hc h15 h14
    have w : w32 (((j + 1 : Nat) : Int) + 1) = ((j + 1 + 1 : Nat) : Int) := by rw [w32_id (by omega) (by omega)]; omega
    have key : ∃ s1, sem 96 24 [aA 13, aI A, aI V, aI (t : Int), aI ((j + 1 : Nat) : Int)] [] s = bnV (sem 98 0 [aA 13, aI (A + V), aI V, aU, aU, aU] [] s1) (fun s2 => sem 96 24 [aA 13, aI A, aI V, aI (t : Int), aI ((j + 1 + 1 : Nat) : Int)] [] (up s2 13 2 (w64 (s2 13 2 * 100)))) ∧ RefC s1 ∧ VC s1 b1 x1 b2 x2 (100 ^ j) ∧ Cl s1 14 (A + V) V (Bf b1 x1 b2 x2 j) ∧ Vs s s1 := by
      rw [g96_24 hR, if_neg (by omega), wA, w]
      by_cases z : j = 0
      · rw [if_neg (by omega)]
        subst z
        exact ⟨s, rfl, hR, hc, h14 rfl, fun _ _ _ => rfl⟩
      · rw [if_pos (by omega)]
        obtain ⟨s1, e1, ⟨e2, e3⟩, e4⟩ := c_fillAhead hR h15 (P := A + V) (by omega) (by omega)
        rw [e1, bnV_some]
        refine ⟨s1, rfl, e2, ?_, e4, fun k i hk => by rw [e3 k (by omega)]⟩
        unfold VC
        rw [e3 13 (by decide)]
        exact hc
    obtain ⟨s1, k1, k2, k3, k4, k5⟩ := key
    have mb := Mb5_l ⟨j, by omega⟩
    have mr := Mb_rng (j := j) (by omega)
    have mb1 : Mb j ≤ 1000000000000000 := mb.1
    have mb2 : (100 : Int) ^ j ≤ 10000000000 := mb.2
    obtain ⟨s2, f1, ⟨f2, f3⟩, f4⟩ := c_fillBehind k2 hp k3 k4 (M := Mb j) (by omega) (by omega) (by omega) (by omega) (fun a b v d => by
      unfold dom at d
      exact Bf_rng hp (by omega) (by omega) (by omega) (by omega) (by omega))
    have eU : s2 13 2 = 100 ^ j := by
      rw [f3 13 (by decide)]
      exact k3.2.2.2.2
    have wU : w64 (s2 13 2 * 100) = 100 ^ (j + 1) := by
      rw [eU, Int.pow_succ, w64_id (by omega) (by omega)]
    have i := ih (j + 1) (up s2 13 2 (100 ^ (j + 1))) (by omega) (ru132 f2 _) (by
      obtain ⟨c1, c2, c3, c4, c5⟩ := k3
      unfold VC
      rw [up_ni (by decide), up_ni (by decide), up_ni (by decide), up_ni (by decide), up_at, f3 13 (by decide)]
      exact ⟨c1, c2, c3, c4, rfl⟩) (by
      unfold Cl
      rw [up_k (by decide)]
      exact f4) (fun z => by omega)
    obtain ⟨s', i1, i2, i3, i4, i5⟩ := i
    refine ⟨s', ?_, i2, i3, i4, fun k i hk => ?_⟩
    · rw [k1, f1, bnV_some, wU]
      exact i1
    · rw [i5 k i hk, up_app, if_neg (by omega), f3 k (by omega), k5 k i hk]
theorem c_vreckon {s : SG} (hR : RefC s) {b1 x1 b2 x2 A V U : Int} (hp : VP b1 x1 b2 x2) (hc : VC s b1 x1 b2 x2 U) (hA : 0 ≤ A) (hV : 0 ≤ V) (hAV : A + V ≤ 12) {t : Nat} (ht : t ≤ 6) : ∃ s', sem 96 0 [aA 13, aI A, aI V, aI (t : Int), aU] [] s = some (aU, s') ∧ RefC s' ∧ VC s' b1 x1 b2 x2 (100 ^ t) ∧ Cl s' 15 (A + V) V (Bh b1 x1 b2 x2 t) ∧ Vs s s' := by
  have k14 : kl 14 = 2197 := rfl
  have k15 : kl 15 = 2197 := rfl
  have e1 := c_fillL (k := 14) (v := 0) rfl (by decide) s
  have R1 : RefC (fillS s 14 0 0) := RefC.sem e1 rfl hR
  have e2 := c_fillL (k := 15) (v := 0) rfl (by decide) (fillS s 14 0 0)
  have R2 : RefC (fillS (fillS s 14 0 0) 15 0 0) := RefC.sem e2 rfl R1
  have z15 : ∀ i : Int, 0 ≤ i → i < 2197 → up (fillS (fillS s 14 0 0) 15 0 0) 13 2 1 15 i = 0 := fun i i0 i1 => by
    rw [up_ne (by decide), fillS_app, if_pos (by omega)]
  have z14 : ∀ i : Int, 0 ≤ i → i < 2197 → up (fillS (fillS s 14 0 0) 15 0 0) 13 2 1 14 i = 0 := fun i i0 i1 => by
    rw [up_ne (by decide), fillS_app, if_neg (by omega), fillS_app, if_pos (by omega)]
  have f13 : ∀ i : Int, i ≠ 2 → up (fillS (fillS s 14 0 0) 15 0 0) 13 2 1 13 i = s 13 i := fun i hi => by
    rw [up_ni hi, fillS_app, if_neg (by omega), fillS_app, if_neg (by omega)]
  obtain ⟨s', i1, i2, i3, i4, i5⟩ := l_reckon hp hA hV hAV ht t 0 (up (fillS (fillS s 14 0 0) 15 0 0) 13 2 1) (by omega) (ru132 R2 _) (by
    obtain ⟨c1, c2, c3, c4, c5⟩ := hc
    unfold VC
    rw [f13 3 (by decide), f13 4 (by decide), f13 5 (by decide), f13 6 (by decide), up_at]
    exact ⟨c1, c2, c3, c4, rfl⟩) (fun a b v d => by
    unfold dom at d
    have r := ix_rng (a := a) (b := b) (v := v) (by omega) (by omega) (by omega)
    rw [z15 _ r.1 r.2]
    rfl) (fun _ a b v d => by
    unfold dom at d
    have r := ix_rng (a := a) (b := b) (v := v) (by omega) (by omega) (by omega)
    rw [z14 _ r.1 r.2]
    exact (Gf_zero a b v v.toNat).symm)
  refine ⟨s', ?_, i2, i3, i4, fun k i hk => ?_⟩
  · rw [g96_0 hR, e1, bnV_some, e2, bnV_some]
    exact i1
  · rw [i5 k i hk, up_app, if_neg (by omega), fillS_app, if_neg (by omega), fillS_app, if_neg (by omega)]

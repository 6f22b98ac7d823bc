theorem RArr.i {ws : va_W} {k : Nat} {ty : FieldType} {av : vp_A} {s : SG} (h : RArr ws k ty av s) (hk : kd k = 101) : ty = .int ∧ ∃ f : Nat → Int32, av = (av.1, .inl f) ∧ ∀ i : Nat, i < av.1 → (f i).toInt = s k i := by
  obtain ⟨n, av⟩ := av
  unfold RArr at h
  rcases av with f | f | f | f | f
  · rcases h.1 with h1 | h1
    · exact ⟨h1.2, f, rfl, h.2⟩
    · omega
  · have := h.1.1; omega
  · exact h.elim
  · exact h.elim
  · have := h.1.1; omega
theorem RArr.z {ws : va_W} {k : Nat} {ty : FieldType} {av : vp_A} {s : SG} (h : RArr ws k ty av s) (hk : kd k = 102) : ty = .boolean ∧ ∃ f : Nat → Int32, av = (av.1, .inl f) ∧ ∀ i : Nat, i < av.1 → (f i).toInt = s k i := by
  obtain ⟨n, av⟩ := av
  unfold RArr at h
  rcases av with f | f | f | f | f
  · rcases h.1 with h1 | h1
    · omega
    · exact ⟨h1.2, f, rfl, h.2⟩
  · have := h.1.1; omega
  · exact h.elim
  · exact h.elim
  · have := h.1.1; omega
theorem RArr.l {ws : va_W} {k : Nat} {ty : FieldType} {av : vp_A} {s : SG} (h : RArr ws k ty av s) (hk : kd k = 103) : ty = .long ∧ ∃ f : Nat → Int64, av = (av.1, .inr (.inl f)) ∧ ∀ i : Nat, i < av.1 → (f i).toInt = s k i := by
  obtain ⟨n, av⟩ := av
  unfold RArr at h
  rcases av with f | f | f | f | f
  · rcases h.1 with h1 | h1 <;> omega
  · exact ⟨h.1.2, f, rfl, h.2⟩
  · exact h.elim
  · exact h.elim
  · have := h.1.1; omega
theorem RArr.q {ws : va_W} {k : Nat} {ty : FieldType} {av : vp_A} {s : SG} (h : RArr ws k ty av s) (hk : kd k = 104) : ty = .object RX1 ∧ ∃ f : Nat → Option Nat, av = (av.1, .inr (.inr (.inr (.inr f)))) ∧ ∀ i : Nat, i < av.1 → RO ws (s k i) (f i) := by
  obtain ⟨n, av⟩ := av
  unfold RArr at h
  rcases av with f | f | f | f | f
  · rcases h.1 with h1 | h1 <;> omega
  · have := h.1.1; omega
  · exact h.elim
  · exact h.elim
  · exact ⟨h.1.2, f, rfl, h.2⟩
theorem alc_0 {s : SG} {n : Int} {d : Int → Int} (h : 0 ≤ s (-1) 0) : alc s n d (-1) 0 = s (-1) 0 + 1 := by
  unfold alc
  rw [if_neg (by omega), if_pos ⟨rfl, rfl⟩]
theorem alc_1 {s : SG} {n : Int} {d : Int → Int} (h : 0 ≤ s (-1) 0) : alc s n d (-1) 1 = s (-1) 1 + n := by
  unfold alc
  rw [if_neg (by omega), if_neg (by omega), if_pos ⟨rfl, rfl⟩]
theorem alc_n (s : SG) (n : Int) (d : Int → Int) (i : Int) : alc s n d (s (-1) 0) i = d i := by
  unfold alc
  rw [if_pos rfl]
theorem alc_k {s : SG} {n k : Int} {d : Int → Int} (h : k ≠ s (-1) 0) (h1 : k ≠ -1) (i : Int) : alc s n d k i = s k i := by
  unfold alc
  rw [if_neg h, if_neg (fun q => h1 q.1), if_neg (fun q => h1 q.1)]
theorem RW.new {b : Nat} {D : va_G} {U : State} {H1 : Heap} {A : Nat → Prop} {ws : va_W} {sg : SG} {n : Int} {d : Int → Int} {tys tys' : List (ClassId × FieldType)} {x : Nat} {e1 : va_E} (hn : sg (-1) 0 = ws.length) (hc : ∀ (k : Nat) (q : Nat × va_E), ws[k]? = some q → RCl b tys ws k q.2 sg) (hK : va_K D vwCl tys' U) (htt : ∀ (t : Nat) (y : ClassId × FieldType), tys[t]? = some y → tys'[t]? = some y)
    (hP1 : va_P D vwCl (ws ++ [(x, e1)]) H1) (hD1 : va_D A (ws ++ [(x, e1)])) (h1 : RCl b tys' (ws ++ [(x, e1)]) ws.length e1 (alc sg n d)) : RW b D U H1 A (ws ++ [(x, e1)]) (alc sg n d) := by
  refine ⟨tys', hK, hP1, hD1, ?_, fun k q hq => ?_⟩
  · rw [alc_0 (by omega), hn, List.length_append]; rfl
  · by_cases hk : k < ws.length
    · rw [List.getElem?_append_left hk] at hq
      have h2 := RCl.mono (ws' := ws ++ [(x, e1)]) (s' := alc sg n d) Ext.app (fun i => alc_k (by omega) (by omega) i) (hc k q hq)
      obtain ⟨qa, qe⟩ := q
      rcases qe with ⟨cA, av⟩ | ⟨ci, fs⟩
      · obtain ⟨h0, t, ty, h3, h4⟩ := h2
        exact ⟨h0, t, ty, htt _ _ h3, h4⟩
      · exact h2
    · have hk2 : k = ws.length := by
        have := (List.getElem?_eq_some_iff.mp hq).1
        rw [List.length_append] at this
        simp at this
        omega
      subst hk2
      rw [List.getElem?_append_right (Nat.le_refl _), Nat.sub_self] at hq
      cases hq
      exact h1

theorem r_iald {cc : ByteArray} {own nm : String} {nL dp : Nat} {law : Bool} {pc : Nat} (hd : decode cc pc = .ok (.iaload, 1)) : RowP cc own nm nL dp law pc .iaload (pc + 1) := by
  intro p l e R s m args below meth c Q b D A H locs ws sg ls st la sa cells slots F hsc hW hS hL hT hbud q hq
  obtain ⟨hx, hcb, hml, hown, hts, hfr, hlo, hnm, hnw⟩ := F
  simp only [stp, iA] at hq
  split at hq
  · next i k r =>
    unfold grd at hq
    split at hq
    · next hk =>
      split at hq
      · next hi =>
        cases hq
        obtain ⟨y, xs1, rfl, e1, hT1⟩ := hT.i
        obtain ⟨a, xs2, rfl, e2, hT2⟩ := hT1.a
        subst e1
        obtain ⟨tys, hK, hP, hD, hn, hcl⟩ := hW
        obtain ⟨n, cA, av, t, ty, rfl, hw, hkl, hsz, hty, hra⟩ := RW.arr hcl e2 (by omega)
        obtain ⟨rfl, f, hav, hf⟩ := hra.i hk
        rw [hav] at hw
        have hi2 := i32n hi.1
        have hlt : y.toNatClampNeg < av.1 := by omega
        refine ⟨rfl, fun K => va_iald hx hcb hK hP n t hw hty (in_of hi.1 (by omega)) hd ?_⟩
        exact K _ _ hL ⟨⟨_, rfl, by rw [hf _ hlt, hi2]⟩, hT2⟩
      · cases hq
    · cases hq
  · cases hq

theorem r_zald {cc : ByteArray} {own nm : String} {nL dp : Nat} {law : Bool} {pc : Nat} (hd : decode cc pc = .ok (.baload, 1)) : RowP cc own nm nL dp law pc .baload (pc + 1) := by
  intro p l e R s m args below meth c Q b D A H locs ws sg ls st la sa cells slots F hsc hW hS hL hT hbud q hq
  obtain ⟨hx, hcb, hml, hown, hts, hfr, hlo, hnm, hnw⟩ := F
  simp only [stp, iA] at hq
  split at hq
  · next i k r =>
    unfold grd at hq
    split at hq
    · next hk =>
      split at hq
      · next hi =>
        cases hq
        obtain ⟨y, xs1, rfl, e1, hT1⟩ := hT.i
        obtain ⟨a, xs2, rfl, e2, hT2⟩ := hT1.a
        subst e1
        obtain ⟨tys, hK, hP, hD, hn, hcl⟩ := hW
        obtain ⟨n, cA, av, t, ty, rfl, hw, hkl, hsz, hty, hra⟩ := RW.arr hcl e2 (by omega)
        obtain ⟨rfl, f, hav, hf⟩ := hra.z hk
        rw [hav] at hw
        have hi2 := i32n hi.1
        have hlt : y.toNatClampNeg < av.1 := by omega
        refine ⟨rfl, fun K => va_zald hx hcb hK hP n t hw hty (in_of hi.1 (by omega)) hd ?_⟩
        exact K _ _ hL ⟨⟨_, rfl, by rw [hf _ hlt, hi2]⟩, hT2⟩
      · cases hq
    · cases hq
  · cases hq

theorem r_lald {cc : ByteArray} {own nm : String} {nL dp : Nat} {law : Bool} {pc : Nat} (hd : decode cc pc = .ok (.laload, 1)) : RowP cc own nm nL dp law pc .laload (pc + 1) := by
  intro p l e R s m args below meth c Q b D A H locs ws sg ls st la sa cells slots F hsc hW hS hL hT hbud q hq
  obtain ⟨hx, hcb, hml, hown, hts, hfr, hlo, hnm, hnw⟩ := F
  simp only [stp, iA] at hq
  split at hq
  · next i k r =>
    unfold grd at hq
    split at hq
    · next hk =>
      split at hq
      · next hi =>
        cases hq
        obtain ⟨y, xs1, rfl, e1, hT1⟩ := hT.i
        obtain ⟨a, xs2, rfl, e2, hT2⟩ := hT1.a
        subst e1
        obtain ⟨tys, hK, hP, hD, hn, hcl⟩ := hW
        obtain ⟨n, cA, av, t, ty, rfl, hw, hkl, hsz, hty, hra⟩ := RW.arr hcl e2 (by omega)
        obtain ⟨rfl, f, hav, hf⟩ := hra.l hk
        rw [hav] at hw
        have hi2 := i32n hi.1
        have hlt : y.toNatClampNeg < av.1 := by omega
        refine ⟨rfl, fun K => va_lald hx hcb hK hP n t hw hty (in_of hi.1 (by omega)) hd ?_⟩
        exact K _ _ hL ⟨⟨_, rfl, by rw [hf _ hlt, hi2]⟩, hT2⟩
      · cases hq
    · cases hq
  · cases hq

theorem r_aald {cc : ByteArray} {own nm : String} {nL dp : Nat} {law : Bool} {pc : Nat} (hd : decode cc pc = .ok (.aaload, 1)) : RowP cc own nm nL dp law pc .aaload (pc + 1) := by
  intro p l e R s m args below meth c Q b D A H locs ws sg ls st la sa cells slots F hsc hW hS hL hT hbud q hq
  obtain ⟨hx, hcb, hml, hown, hts, hfr, hlo, hnm, hnw⟩ := F
  simp only [stp, iA] at hq
  split at hq
  · next i k r =>
    unfold grd at hq
    split at hq
    · next hk =>
      split at hq
      · next hi =>
        split at hq
        · next hge =>
          cases hq
          obtain ⟨y, xs1, rfl, e1, hT1⟩ := hT.i
          obtain ⟨a, xs2, rfl, e2, hT2⟩ := hT1.a
          subst e1
          obtain ⟨tys, hK, hP, hD, hn, hcl⟩ := hW
          obtain ⟨n, cA, av, t, ty, rfl, hw, hkl, hsz, hty, hra⟩ := RW.arr hcl e2 (by omega)
          obtain ⟨rfl, f, hav, hf⟩ := hra.q hk
          rw [hav] at hw
          have hi2 := i32n hi.1
          have hlt : y.toNatClampNeg < av.1 := by omega
          refine ⟨rfl, fun K => va_aldq hx hcb hK hP n t hw hty (in_of hi.1 (by omega)) hd ?_⟩
          refine K _ _ hL ⟨?_, hT2⟩
          have h := hf _ hlt
          rw [hi2] at h
          rcases h with ⟨h1, -⟩ | ⟨n2, q2, h1, h2, h3⟩
          · omega
          · exact ⟨q2.1, by rw [h3]; rfl, Or.inl ⟨n2, q2, h1, h2, rfl⟩⟩
        · cases hq
      · cases hq
    · cases hq
  · cases hq

theorem r_alen {cc : ByteArray} {own nm : String} {nL dp : Nat} {law : Bool} {pc : Nat} (hd : decode cc pc = .ok (.arraylength, 1)) : RowP cc own nm nL dp law pc .arraylength (pc + 1) := by
  intro p l e R s m args below meth c Q b D A H locs ws sg ls st la sa cells slots F hsc hW hS hL hT hbud q hq
  obtain ⟨hx, hcb, hml, hown, hts, hfr, hlo, hnm, hnw⟩ := F
  simp only [stp, uA] at hq
  split at hq
  · next k r =>
    unfold grd at hq
    split at hq
    · next hk =>
      cases hq
      obtain ⟨a, xs2, rfl, e2, hT2⟩ := hT.a
      obtain ⟨tys, hK, hP, hD, hn, hcl⟩ := hW
      obtain ⟨n, cA, av, t, ty, rfl, hw, hkl, hsz, hty, hra⟩ := RW.arr hcl e2 (by omega)
      refine ⟨rfl, fun K => va_alen hx hcb hK hP n t hw hty rfl hd ?_⟩
      exact K _ _ hL ⟨⟨_, rfl, by rw [hkl]; exact Int32.toInt_ofNat_of_lt hsz⟩, hT2⟩
    · cases hq
  · cases hq

theorem r_iast {cc : ByteArray} {own nm : String} {nL dp : Nat} {law : Bool} {pc : Nat} (hd : decode cc pc = .ok (.iastore, 1)) : Row cc own nm nL dp law pc .iastore (pc + 1) := by
  intro p l e R s m args below meth c Q b D A H locs ws sg ls st la sa cells slots F hsc hA X q hq hbud K
  obtain ⟨hx, hcb, hml, hown, hts, hfr, hlo, hnm, hnw⟩ := F
  obtain ⟨hW, hS, hL, hT⟩ := X
  simp only [stp, uI] at hq
  split at hq
  case h_2 => cases hq
  next v r0 =>
  simp only [iA] at hq
  split at hq
  · next i k r =>
    unfold grd at hq
    split at hq
    · next hk =>
      split at hq
      · next hi =>
        cases hq
        obtain ⟨x, xs0, rfl, e0, hT0⟩ := hT.i
        obtain ⟨y, xs1, rfl, e1, hT1⟩ := hT0.i
        obtain ⟨a, xs2, rfl, e2, hT2⟩ := hT1.a
        subst e0; subst e1
        obtain ⟨tys, hK, hP, hD, hn, hcl⟩ := hW
        obtain ⟨n, cA, av, t, ty, rfl, hw, hkl, hsz, hty, hra⟩ := RW.arr hcl e2 (by omega)
        obtain ⟨rfl, f, hav, hf⟩ := hra.i hk
        rw [hav] at hw
        have hi2 := i32n hi.1
        have hlt : y.toNatClampNeg < av.1 := by omega
        have ed0 : dd sg (up sg n y.toInt x.toInt) 0 = 0 := by unfold dd; rw [up_ne (by omega)]; omega
        have ed1 : dd sg (up sg n y.toInt x.toInt) 1 = 0 := by unfold dd; rw [up_ne (by omega)]; omega
        refine va_iast hx hcb hK hP hD hS n t hw hty (in_of hi.1 (by omega)) hd (fun H1 locs1 hP1 hD1 hS1 => ?_)
        have k := K H1 locs1 (ws.set n (a, .inl (cA, av.1, .inl (upd f y.toNatClampNeg x)))) la _ (Ext.set hw) ⟨RW.put hK hn hcl hw (fun k i hk => up_ne hk i) hP1 hD1 ⟨⟨hkl, hsz⟩, t, _, hty, ⟨Or.inl ⟨hk, rfl⟩, fun i9 hi9 => ?_⟩⟩, hS1, hL.ext (Ext.set hw), hT2.ext (Ext.set hw)⟩
        · simpa only [ed0, ed1, Nat.add_zero] using k
        · show (upd f y.toNatClampNeg x i9).toInt = up sg n y.toInt x.toInt n i9
          unfold upd
          by_cases hj : i9 = y.toNatClampNeg
          · rw [if_pos hj, hj, hi2, up_at]
          · rw [if_neg hj, up_ni (by omega)]
            exact hf i9 hi9
      · cases hq
    · cases hq
  · cases hq

theorem r_last {cc : ByteArray} {own nm : String} {nL dp : Nat} {law : Bool} {pc : Nat} (hd : decode cc pc = .ok (.lastore, 1)) : Row cc own nm nL dp law pc .lastore (pc + 1) := by
  intro p l e R s m args below meth c Q b D A H locs ws sg ls st la sa cells slots F hsc hA X q hq hbud K
  obtain ⟨hx, hcb, hml, hown, hts, hfr, hlo, hnm, hnw⟩ := F
  obtain ⟨hW, hS, hL, hT⟩ := X
  simp only [stp, uL] at hq
  split at hq
  case h_2 => cases hq
  next v r0 =>
  simp only [iA] at hq
  split at hq
  · next i k r =>
    unfold grd at hq
    split at hq
    · next hk =>
      split at hq
      · next hi =>
        cases hq
        obtain ⟨x, xs0, rfl, e0, hT0⟩ := hT.l
        obtain ⟨y, xs1, rfl, e1, hT1⟩ := hT0.i
        obtain ⟨a, xs2, rfl, e2, hT2⟩ := hT1.a
        subst e0; subst e1
        obtain ⟨tys, hK, hP, hD, hn, hcl⟩ := hW
        obtain ⟨n, cA, av, t, ty, rfl, hw, hkl, hsz, hty, hra⟩ := RW.arr hcl e2 (by omega)
        obtain ⟨rfl, f, hav, hf⟩ := hra.l hk
        rw [hav] at hw
        have hi2 := i32n hi.1
        have hlt : y.toNatClampNeg < av.1 := by omega
        have ed0 : dd sg (up sg n y.toInt x.toInt) 0 = 0 := by unfold dd; rw [up_ne (by omega)]; omega
        have ed1 : dd sg (up sg n y.toInt x.toInt) 1 = 0 := by unfold dd; rw [up_ne (by omega)]; omega
        refine va_last hx hcb hK hP hD hS n t hw hty (in_of hi.1 (by omega)) hd (fun H1 locs1 hP1 hD1 hS1 => ?_)
        have k := K H1 locs1 (ws.set n (a, .inl (cA, av.1, .inr (.inl (vp_updL f y.toNatClampNeg x))))) la _ (Ext.set hw) ⟨RW.put hK hn hcl hw (fun k i hk => up_ne hk i) hP1 hD1 ⟨⟨hkl, hsz⟩, t, _, hty, ⟨⟨hk, rfl⟩, fun i9 hi9 => ?_⟩⟩, hS1, hL.ext (Ext.set hw), hT2.ext (Ext.set hw)⟩
        · simpa only [ed0, ed1, Nat.add_zero] using k
        · show (vp_updL f y.toNatClampNeg x i9).toInt = up sg n y.toInt x.toInt n i9
          unfold vp_updL
          by_cases hj : i9 = y.toNatClampNeg
          · rw [if_pos hj, hj, hi2, up_at]
          · rw [if_neg hj, up_ni (by omega)]
            exact hf i9 hi9
      · cases hq
    · cases hq
  · cases hq

theorem r_zast {cc : ByteArray} {own nm : String} {nL dp : Nat} {law : Bool} {pc : Nat} (hd : decode cc pc = .ok (.bastore, 1)) : Row cc own nm nL dp law pc .bastore (pc + 1) := by
  intro p l e R s m args below meth c Q b D A H locs ws sg ls st la sa cells slots F hsc hA X q hq hbud K
  obtain ⟨hx, hcb, hml, hown, hts, hfr, hlo, hnm, hnw⟩ := F
  obtain ⟨hW, hS, hL, hT⟩ := X
  simp only [stp, uI] at hq
  split at hq
  case h_2 => cases hq
  next v r0 =>
  simp only [iA] at hq
  split at hq
  · next i k r =>
    unfold grd at hq
    split at hq
    · next hk =>
      split at hq
      · next hi =>
        split at hq
        case isFalse => cases hq
        next hbo =>
        cases hq
        obtain ⟨x, xs0, rfl, e0, hT0⟩ := hT.i
        obtain ⟨y, xs1, rfl, e1, hT1⟩ := hT0.i
        obtain ⟨a, xs2, rfl, e2, hT2⟩ := hT1.a
        subst e0; subst e1
        obtain ⟨tys, hK, hP, hD, hn, hcl⟩ := hW
        obtain ⟨n, cA, av, t, ty, rfl, hw, hkl, hsz, hty, hra⟩ := RW.arr hcl e2 (by omega)
        obtain ⟨rfl, f, hav, hf⟩ := hra.z hk
        rw [hav] at hw
        have hi2 := i32n hi.1
        have hlt : y.toNatClampNeg < av.1 := by omega
        have ed0 : dd sg (up sg n y.toInt x.toInt) 0 = 0 := by unfold dd; rw [up_ne (by omega)]; omega
        have ed1 : dd sg (up sg n y.toInt x.toInt) 1 = 0 := by unfold dd; rw [up_ne (by omega)]; omega
        have hnar : vp_nar .boolean x = x := by
          rcases hbo with hbo | hbo
          · have : x = 0 := Int32.toInt_inj.mp hbo
            rw [this]; rfl
          · have : x = 1 := Int32.toInt_inj.mp hbo
            rw [this]; rfl
        refine va_zast hx hcb hK hP hD hS n t hw hty (in_of hi.1 (by omega)) hd (fun H1 locs1 hP1 hD1 hS1 => ?_)
        rw [hnar] at hP1 hD1
        have k := K H1 locs1 (ws.set n (a, .inl (cA, av.1, .inl (upd f y.toNatClampNeg x)))) la _ (Ext.set hw) ⟨RW.put hK hn hcl hw (fun k i hk => up_ne hk i) hP1 hD1 ⟨⟨hkl, hsz⟩, t, _, hty, ⟨Or.inr ⟨hk, rfl⟩, fun i9 hi9 => ?_⟩⟩, hS1, hL.ext (Ext.set hw), hT2.ext (Ext.set hw)⟩
        · simpa only [ed0, ed1, Nat.add_zero] using k
        · show (upd f y.toNatClampNeg x i9).toInt = up sg n y.toInt x.toInt n i9
          unfold upd
          by_cases hj : i9 = y.toNatClampNeg
          · rw [if_pos hj, hj, hi2, up_at]
          · rw [if_neg hj, up_ni (by omega)]
            exact hf i9 hi9
      · cases hq
    · cases hq
  · cases hq

theorem r_aast {cc : ByteArray} {own nm : String} {nL dp : Nat} {law : Bool} {pc : Nat} (hd : decode cc pc = .ok (.aastore, 1)) : Row cc own nm nL dp law pc .aastore (pc + 1) := by
  intro p l e R s m args below meth c Q b D A H locs ws sg ls st la sa cells slots F hsc hA X q hq hbud K
  obtain ⟨hx, hcb, hml, hown, hts, hfr, hlo, hnm, hnw⟩ := F
  obtain ⟨hW, hS, hL, hT⟩ := X
  simp only [stp, uA] at hq
  split at hq
  case h_2 => cases hq
  next v r0 =>
  simp only [iA] at hq
  split at hq
  · next i k r =>
    unfold grd at hq
    split at hq
    · next hk =>
      split at hq
      · next hi =>
        split at hq
        case isFalse => cases hq
        next hv1 =>
        cases hq
        obtain ⟨x, xs0, rfl, e0, hT0⟩ := hT.a
        obtain ⟨y, xs1, rfl, e1, hT1⟩ := hT0.i
        obtain ⟨a, xs2, rfl, e2, hT2⟩ := hT1.a
        subst e1
        obtain ⟨tys, hK, hP, hD, hn, hcl⟩ := hW
        obtain ⟨n, cA, av, t, ty, rfl, hw, hkl, hsz, hty, hra⟩ := RW.arr hcl e2 (by omega)
        obtain ⟨n0, fs0, rfl, hw0, -, -⟩ := RW.obj (A := A) (D := D) (U := s) (H := H) (ci := 1) (r := (RX1, TX1, 11)) hcl e0 hv1 rfl
        obtain ⟨rfl, f, hav, hf⟩ := hra.q hk
        rw [hav] at hw
        have hi2 := i32n hi.1
        have hlt : y.toNatClampNeg < av.1 := by omega
        have ed0 : dd sg (up sg n y.toInt n0) 0 = 0 := by unfold dd; rw [up_ne (by omega)]; omega
        have ed1 : dd sg (up sg n y.toInt n0) 1 = 0 := by unfold dd; rw [up_ne (by omega)]; omega
        refine va_astq (r := (RX1, TX1, 11)) hx hcb hK hP hD hS n t n0 1 hw hty hw0 rfl (in_of hi.1 (by omega)) hd (fun H1 locs1 hP1 hD1 hS1 => ?_)
        have k := K H1 locs1 (ws.set n (a, .inl (cA, av.1, .inr (.inr (.inr (.inr (va_up f y.toNatClampNeg (some x)))))))) la _ (Ext.set hw) ⟨RW.put hK hn hcl hw (fun k i hk => up_ne hk i) hP1 hD1 ⟨⟨hkl, hsz⟩, t, _, hty, ⟨⟨hk, rfl⟩, fun i9 hi9 => ?_⟩⟩, hS1, hL.ext (Ext.set hw), hT2.ext (Ext.set hw)⟩
        · simpa only [ed0, ed1, Nat.add_zero] using k
        · show RO _ (up sg n y.toInt n0 n i9) (va_up f y.toNatClampNeg (some x) i9)
          unfold va_up
          by_cases hj : i9 = y.toNatClampNeg
          · rw [if_pos hj, hj, hi2, up_at]
            obtain ⟨e9, he9⟩ := Ext.set (e := .inl (cA, av.1, .inr (.inr (.inr (.inr (va_up f y.toNatClampNeg (some x))))))) hw n0 _ hw0
            exact Or.inr ⟨n0, _, rfl, he9, rfl⟩
          · rw [if_neg hj, up_ni (by omega)]
            exact (hf i9 hi9).ext (Ext.set hw)
      · cases hq
    · cases hq
  · cases hq

theorem r_sld {cc : ByteArray} {own nm : String} {nL dp : Nat} {law : Bool} {pc : Nat} (hd : decode cc pc = .ok (.iaload, 1)) (hlaw : law = true) : RowP cc own nm nL dp law pc .faload (pc + 1) := by
  intro p l e R s m args below meth c Q b D A H locs ws sg ls st la sa cells slots F hsc hW hS hL hT hbud q hq
  obtain ⟨hx, hcb, hml, hown, hts, hfr, hlo, hnm, hnw⟩ := F
  simp only [stp, iA] at hq
  obtain ⟨L, xs, hX, hbl, hbA, hL3, hLs, hxs⟩ := hsc hlaw
  split at hq
  · next i k r =>
    unfold grd at hq
    split at hq
    · next hk =>
      split at hq
      · next hi =>
        cases hq
        obtain ⟨y, xs1, rfl, e1, hT1⟩ := hT.i
        obtain ⟨a, xs2, rfl, e2, hT2⟩ := hT1.a
        subst e1
        obtain ⟨a', ha', e2⟩ := e2
        cases ha'
        have hab : a = b := by
          rcases e2 with ⟨n, q, f1, -⟩ | ⟨-, f2⟩
          · omega
          · exact f2
        subst hab
        have hi2 := i32n hi.1
        refine ⟨rfl, fun K => va_sld hx hcb hX hbl hbA hS (in_of hi.1 (by omega)) hd ?_⟩
        exact K _ _ hL ⟨⟨_, rfl, by rw [hxs _ (by omega), hi2]⟩, hT2⟩
      · cases hq
    · cases hq
  · cases hq

theorem r_slen {cc : ByteArray} {own nm : String} {nL dp : Nat} {law : Bool} {pc : Nat} (hd : decode cc pc = .ok (.arraylength, 1)) (hlaw : law = true) : RowP cc own nm nL dp law pc .f2l (pc + 1) := by
  intro p l e R s m args below meth c Q b D A H locs ws sg ls st la sa cells slots F hsc hW hS hL hT hbud q hq
  obtain ⟨hx, hcb, hml, hown, hts, hfr, hlo, hnm, hnw⟩ := F
  simp only [stp, uA] at hq
  obtain ⟨L, xs, hX, hbl, hbA, hL3, hLs, hxs⟩ := hsc hlaw
  split at hq
  · next k r =>
    unfold grd at hq
    split at hq
    · next hk =>
      cases hq
      obtain ⟨a, xs2, rfl, e2, hT2⟩ := hT.a
      obtain ⟨a', ha', e2⟩ := e2
      cases ha'
      have hab : a = b := by
        rcases e2 with ⟨n, q, f1, -⟩ | ⟨-, f2⟩
        · omega
        · exact f2
      subst hab
      refine ⟨rfl, fun K => va_slen hx hcb hX hbl hbA hS hd ?_⟩
      exact K _ _ hL ⟨⟨_, rfl, by rw [hLs]; exact Int32.toInt_ofNat_of_lt (by omega)⟩, hT2⟩
    · cases hq
  · cases hq

def defOk (ci N : Nat) (ty : Nat → FieldType) : Bool := (List.range N).all fun j => match fty ci j, ty j with
  | 0, .int => true
  | 1, .long => true
  | 2, .object _ => true
  | 2, .array _ => true
  | _, _ => false
theorem defOk_spec {ci N : Nat} {ty : Nat → FieldType} (h : defOk ci N ty = true) (b : Nat) (ws : va_W) {j : Nat} (hj : j < N) : RF b ws (fty ci j) (if fty ci j = 2 then -1 else 0) (defaultValue (ty j)) := by
  have h1 := List.all_eq_true.mp h j (List.mem_range.mpr hj)
  revert h1
  generalize fty ci j = t
  generalize ty j = f
  intro h1
  split at h1
  · exact ⟨0, rfl, rfl⟩
  · exact ⟨0, rfl, rfl⟩
  · exact Or.inl ⟨by decide, rfl⟩
  · exact Or.inl ⟨by decide, rfl⟩
  · cases h1

theorem r_new {cc : ByteArray} {own nm : String} {nL dp : Nat} {law : Bool} {pc : Nat} {ci idx N : Nat} {C : String} {T : u_T} (hd : decode cc pc = .ok (.new idx, 3)) (hc : vwCl[ci]? = some (C, T, N)) (hin : ∀ w ∈ u_ws C T N, w ∈ Gtbl) (ty0 : Nat → FieldType) (hty0 : ∀ k, k < N → parseFieldDescriptor (T k).2.2.1 = some (ty0 k)) (hcl : Cond.classLink own idx C ∈ Gtbl) (hinst : Cond.instantiable C N ∈ Gtbl) (hini : Cond.initialized C ∈ Gtbl) (hdef : defOk ci N ty0 = true) (hkl : kdl.all (fun q => !(q.1 == (ci : Int)) || q.2 == (N : Int)) = true) : Row cc own nm nL dp law pc (.new ci) (pc + 3) := by
  intro p l e R s m args below meth c Q b D A H locs ws sg ls st la sa cells slots F hsc hA X q hq hbud K
  obtain ⟨hx, hcb, hml, hown, hts, hfr, hlo, hnm, hnw⟩ := F
  obtain ⟨hW, hS, hL, hT⟩ := X
  simp only [stp] at hq
  unfold grd at hq
  split at hq
  · next hk =>
    cases hq
    obtain ⟨tys, hK, hP, hD, hn, hcells⟩ := hW
    have hge := kd_nn hk
    have hkN : kl (sg (-1) 0) = N := by
      rw [hn] at hk ⊢
      have e1 : kd ((ws.length : Nat) : Int) = (match kdl[ws.length]? with | some q => q.1 | none => -1) := rfl
      have e2 : kl ((ws.length : Nat) : Int) = (match kdl[ws.length]? with | some q => q.2 | none => -1) := rfl
      rw [e1] at hk
      rw [e2]
      cases hq9 : kdl[ws.length]? with
      | none =>
        rw [hq9] at hk
        have hk' : (-1 : Int) = ci := hk
        omega
      | some q9 =>
        rw [hq9] at hk
        have h9 := List.all_eq_true.mp hkl q9 (List.mem_of_getElem? hq9)
        have hk' : q9.1 = (ci : Int) := hk
        rw [hk'] at h9
        simp at h9
        exact h9
    rw [hkN] at hbud K
    have ed0 : dd sg (alc sg N (fun i => if fty ci i.toNat = 2 then -1 else 0)) 0 = 1 := by unfold dd; rw [alc_0 hge]; omega
    have ed1 : dd sg (alc sg N (fun i => if fty ci i.toNat = 2 then -1 else 0)) 1 = N := by unfold dd; rw [alc_1 hge]; omega
    simp only [ed0, ed1] at hbud K
    refine va_new (ci := ci) (fs := (List.range N).map (fun j => defaultValue (ty0 j))) hx hcb hts hin ty0 hty0 hown (hts _ hcl) (hts _ hinst) (hts _ hini) hK hP hD hS hA hc (fun j hj => ?_) hbud.1 hbud.2 hd (fun q H1 hP1 hD1 hS1 => ?_)
    · simp [vp_V, List.getD, hj]
    · refine K H1 locs (ws ++ [(q, .inr (ci, (List.range N).map (fun j => defaultValue (ty0 j))))]) la _ Ext.app ⟨RW.new (e1 := .inr (ci, (List.range N).map (fun j => defaultValue (ty0 j)))) hn hcells hK (fun _ _ h => h) hP1 hD1 ⟨by rw [← hn]; exact hk, _, hc, by simp, fun j y hy => ?_⟩, hS1, hL.ext Ext.app, ⟨q, rfl, Or.inl ⟨ws.length, _, hn, by rw [List.getElem?_append_right (Nat.le_refl _), Nat.sub_self]; rfl, rfl⟩⟩, hT.ext Ext.app⟩
      rw [← hn, alc_n]
      have hj : j < N := by
        have := (List.getElem?_eq_some_iff.mp hy).1
        simpa using this
      rw [List.getElem?_map, List.getElem?_range hj] at hy
      cases hy
      have h9 := defOk_spec hdef b (ws ++ [(q, .inr (ci, (List.range N).map (fun j => defaultValue (ty0 j))))]) hj
      simpa using h9
  · cases hq

theorem r_newi {cc : ByteArray} {own nm : String} {nL dp : Nat} {law : Bool} {pc : Nat} (hd : decode cc pc = .ok (.newarray .int, 2)) (harr : Cond.arrayClass .int ∈ Gtbl) : Row cc own nm nL dp law pc (.newarray .int) (pc + 2) := by
  intro p l e R s m args below meth c Q b D A H locs ws sg ls st la sa cells slots F hsc hA X q hq hbud K
  obtain ⟨hx, hcb, hml, hown, hts, hfr, hlo, hnm, hnw⟩ := F
  obtain ⟨hW, hS, hL, hT⟩ := X
  simp only [stp, uI] at hq
  split at hq
  case h_2 => cases hq
  next n0 r =>
  unfold grd at hq
  split at hq
  · next hk =>
    cases hq
    obtain ⟨x, xs1, rfl, e1, hT1⟩ := hT.i
    subst e1
    obtain ⟨tys, hK, hP, hD, hn, hcells⟩ := hW
    have hsm := kd_small (sg (-1) 0)
    have hka : kd (sg (-1) 0) = akind .int := hk.1
    have hsm2 : 0 ≤ sg (-1) 0 ∧ 0 ≤ kl (sg (-1) 0) ∧ kl (sg (-1) 0) ≤ 4000 := by
      rcases hsm with h | h
      · rw [h] at hka; exact absurd hka (by decide)
      · exact h
    have hx0 : 0 ≤ x.toInt := by omega
    have hxn := i32n hx0
    have ed0 : dd sg (alc sg x.toInt (fun _ => 0)) 0 = 1 := by unfold dd; rw [alc_0 hsm2.1]; omega
    have ed1 : dd sg (alc sg x.toInt (fun _ => 0)) 1 = x.toNatClampNeg := by unfold dd; rw [alc_1 hsm2.1]; omega
    simp only [ed0, ed1] at hbud K
    have hk1 : kd ws.length = akind .int := by rw [← hn]; exact hka
    have hk2 : kl ws.length = x.toNatClampNeg := by rw [← hn]; omega
    refine va_newa (atype := .int) (a0 := (x.toNatClampNeg, .inl (fun _ => 0))) hx hcb (hts _ harr) rfl hK hP hD hS hA (fun _ => rfl) (fun h => ?_) rfl ?_ hbud.1 hbud.2 hd (fun q cA H1 hK1 hP1 hD1 hS1 => ?_)
    · have := Int32.lt_iff_toInt_lt.mp h
      have hz : (0 : Int32).toInt = 0 := rfl
      omega
    · have hle : x.toNatClampNeg ≤ 4000 := by omega
      refine Nat.le_trans (Nat.mul_le_mul_right _ hle) (by decide)
    · refine K H1 locs (ws ++ [(q, .inl (cA, x.toNatClampNeg, .inl (fun _ => 0)))]) la _ Ext.app ⟨RW.new (e1 := .inl (cA, x.toNatClampNeg, .inl (fun _ => 0))) hn hcells hK1 (fun t y h => ?_) hP1 hD1 ⟨⟨hk2, by show x.toNatClampNeg < 2 ^ 31; omega⟩, tys.length, .int, ?_, ?_⟩, hS1, hL.ext Ext.app, ⟨q, rfl, Or.inl ⟨ws.length, _, hn, by rw [List.getElem?_append_right (Nat.le_refl _), Nat.sub_self]; rfl, rfl⟩⟩, hT1.ext Ext.app⟩
      · rw [List.getElem?_append_left (List.getElem?_eq_some_iff.mp h).1]; exact h
      · rw [List.getElem?_append_right (Nat.le_refl _), Nat.sub_self]; rfl
      · refine ⟨Or.inl ⟨hk1, rfl⟩, fun i9 _ => ?_⟩
        rw [← hn, alc_n]
        rfl
  · cases hq

theorem r_newz {cc : ByteArray} {own nm : String} {nL dp : Nat} {law : Bool} {pc : Nat} (hd : decode cc pc = .ok (.newarray .boolean, 2)) (harr : Cond.arrayClass .boolean ∈ Gtbl) : Row cc own nm nL dp law pc (.newarray .boolean) (pc + 2) := by
  intro p l e R s m args below meth c Q b D A H locs ws sg ls st la sa cells slots F hsc hA X q hq hbud K
  obtain ⟨hx, hcb, hml, hown, hts, hfr, hlo, hnm, hnw⟩ := F
  obtain ⟨hW, hS, hL, hT⟩ := X
  simp only [stp, uI] at hq
  split at hq
  case h_2 => cases hq
  next n0 r =>
  unfold grd at hq
  split at hq
  · next hk =>
    cases hq
    obtain ⟨x, xs1, rfl, e1, hT1⟩ := hT.i
    subst e1
    obtain ⟨tys, hK, hP, hD, hn, hcells⟩ := hW
    have hsm := kd_small (sg (-1) 0)
    have hka : kd (sg (-1) 0) = akind .boolean := hk.1
    have hsm2 : 0 ≤ sg (-1) 0 ∧ 0 ≤ kl (sg (-1) 0) ∧ kl (sg (-1) 0) ≤ 4000 := by
      rcases hsm with h | h
      · rw [h] at hka; exact absurd hka (by decide)
      · exact h
    have hx0 : 0 ≤ x.toInt := by omega
    have hxn := i32n hx0
    have ed0 : dd sg (alc sg x.toInt (fun _ => 0)) 0 = 1 := by unfold dd; rw [alc_0 hsm2.1]; omega
    have ed1 : dd sg (alc sg x.toInt (fun _ => 0)) 1 = x.toNatClampNeg := by unfold dd; rw [alc_1 hsm2.1]; omega
    simp only [ed0, ed1] at hbud K
    have hk1 : kd ws.length = akind .boolean := by rw [← hn]; exact hka
    have hk2 : kl ws.length = x.toNatClampNeg := by rw [← hn]; omega
    refine va_newa (atype := .boolean) (a0 := (x.toNatClampNeg, .inl (fun _ => 0))) hx hcb (hts _ harr) rfl hK hP hD hS hA (fun _ => rfl) (fun h => ?_) rfl ?_ hbud.1 hbud.2 hd (fun q cA H1 hK1 hP1 hD1 hS1 => ?_)
    · have := Int32.lt_iff_toInt_lt.mp h
      have hz : (0 : Int32).toInt = 0 := rfl
      omega
    · have hle : x.toNatClampNeg ≤ 4000 := by omega
      refine Nat.le_trans (Nat.mul_le_mul_right _ hle) (by decide)
    · refine K H1 locs (ws ++ [(q, .inl (cA, x.toNatClampNeg, .inl (fun _ => 0)))]) la _ Ext.app ⟨RW.new (e1 := .inl (cA, x.toNatClampNeg, .inl (fun _ => 0))) hn hcells hK1 (fun t y h => ?_) hP1 hD1 ⟨⟨hk2, by show x.toNatClampNeg < 2 ^ 31; omega⟩, tys.length, .boolean, ?_, ?_⟩, hS1, hL.ext Ext.app, ⟨q, rfl, Or.inl ⟨ws.length, _, hn, by rw [List.getElem?_append_right (Nat.le_refl _), Nat.sub_self]; rfl, rfl⟩⟩, hT1.ext Ext.app⟩
      · rw [List.getElem?_append_left (List.getElem?_eq_some_iff.mp h).1]; exact h
      · rw [List.getElem?_append_right (Nat.le_refl _), Nat.sub_self]; rfl
      · refine ⟨Or.inr ⟨hk1, rfl⟩, fun i9 _ => ?_⟩
        rw [← hn, alc_n]
        rfl
  · cases hq

theorem r_newl {cc : ByteArray} {own nm : String} {nL dp : Nat} {law : Bool} {pc : Nat} (hd : decode cc pc = .ok (.newarray .long, 2)) (harr : Cond.arrayClass .long ∈ Gtbl) : Row cc own nm nL dp law pc (.newarray .long) (pc + 2) := by
  intro p l e R s m args below meth c Q b D A H locs ws sg ls st la sa cells slots F hsc hA X q hq hbud K
  obtain ⟨hx, hcb, hml, hown, hts, hfr, hlo, hnm, hnw⟩ := F
  obtain ⟨hW, hS, hL, hT⟩ := X
  simp only [stp, uI] at hq
  split at hq
  case h_2 => cases hq
  next n0 r =>
  unfold grd at hq
  split at hq
  · next hk =>
    cases hq
    obtain ⟨x, xs1, rfl, e1, hT1⟩ := hT.i
    subst e1
    obtain ⟨tys, hK, hP, hD, hn, hcells⟩ := hW
    have hsm := kd_small (sg (-1) 0)
    have hka : kd (sg (-1) 0) = akind .long := hk.1
    have hsm2 : 0 ≤ sg (-1) 0 ∧ 0 ≤ kl (sg (-1) 0) ∧ kl (sg (-1) 0) ≤ 4000 := by
      rcases hsm with h | h
      · rw [h] at hka; exact absurd hka (by decide)
      · exact h
    have hx0 : 0 ≤ x.toInt := by omega
    have hxn := i32n hx0
    have ed0 : dd sg (alc sg x.toInt (fun _ => 0)) 0 = 1 := by unfold dd; rw [alc_0 hsm2.1]; omega
    have ed1 : dd sg (alc sg x.toInt (fun _ => 0)) 1 = x.toNatClampNeg := by unfold dd; rw [alc_1 hsm2.1]; omega
    simp only [ed0, ed1] at hbud K
    have hk1 : kd ws.length = akind .long := by rw [← hn]; exact hka
    have hk2 : kl ws.length = x.toNatClampNeg := by rw [← hn]; omega
    refine va_newa (atype := .long) (a0 := (x.toNatClampNeg, .inr (.inl (fun _ => 0)))) hx hcb (hts _ harr) rfl hK hP hD hS hA (fun _ => rfl) (fun h => ?_) rfl ?_ hbud.1 hbud.2 hd (fun q cA H1 hK1 hP1 hD1 hS1 => ?_)
    · have := Int32.lt_iff_toInt_lt.mp h
      have hz : (0 : Int32).toInt = 0 := rfl
      omega
    · have hle : x.toNatClampNeg ≤ 4000 := by omega
      refine Nat.le_trans (Nat.mul_le_mul_right _ hle) (by decide)
    · refine K H1 locs (ws ++ [(q, .inl (cA, x.toNatClampNeg, .inr (.inl (fun _ => 0))))]) la _ Ext.app ⟨RW.new (e1 := .inl (cA, x.toNatClampNeg, .inr (.inl (fun _ => 0)))) hn hcells hK1 (fun t y h => ?_) hP1 hD1 ⟨⟨hk2, by show x.toNatClampNeg < 2 ^ 31; omega⟩, tys.length, .long, ?_, ?_⟩, hS1, hL.ext Ext.app, ⟨q, rfl, Or.inl ⟨ws.length, _, hn, by rw [List.getElem?_append_right (Nat.le_refl _), Nat.sub_self]; rfl, rfl⟩⟩, hT1.ext Ext.app⟩
      · rw [List.getElem?_append_left (List.getElem?_eq_some_iff.mp h).1]; exact h
      · rw [List.getElem?_append_right (Nat.le_refl _), Nat.sub_self]; rfl
      · refine ⟨⟨hk1, rfl⟩, fun i9 _ => ?_⟩
        rw [← hn, alc_n]
        rfl
  · cases hq

theorem r_newq {cc : ByteArray} {own nm : String} {nL dp : Nat} {law : Bool} {pc : Nat} {idx : Nat} (hd : decode cc pc = .ok (.anewarray idx, 3)) (hcl : Cond.classLink own idx RX1 ∈ Gtbl) : Row cc own nm nL dp law pc (.anewarray 0) (pc + 3) := by
  intro p l e R s m args below meth c Q b D A H locs ws sg ls st la sa cells slots F hsc hA X q hq hbud K
  obtain ⟨hx, hcb, hml, hown, hts, hfr, hlo, hnm, hnw⟩ := F
  obtain ⟨hW, hS, hL, hT⟩ := X
  simp only [stp, uI] at hq
  split at hq
  case h_2 => cases hq
  next n0 r =>
  unfold grd at hq
  split at hq
  · next hk =>
    cases hq
    obtain ⟨x, xs1, rfl, e1, hT1⟩ := hT.i
    subst e1
    obtain ⟨tys, hK, hP, hD, hn, hcells⟩ := hW
    have hsm := kd_small (sg (-1) 0)
    have hka : kd (sg (-1) 0) = 104 := hk.1
    have hsm2 : 0 ≤ sg (-1) 0 ∧ 0 ≤ kl (sg (-1) 0) ∧ kl (sg (-1) 0) ≤ 4000 := by
      rcases hsm with h | h
      · rw [h] at hka; exact absurd hka (by decide)
      · exact h
    have hx0 : 0 ≤ x.toInt := by omega
    have hxn := i32n hx0
    have ed0 : dd sg (alc sg x.toInt (fun _ => -1)) 0 = 1 := by unfold dd; rw [alc_0 hsm2.1]; omega
    have ed1 : dd sg (alc sg x.toInt (fun _ => -1)) 1 = x.toNatClampNeg := by unfold dd; rw [alc_1 hsm2.1]; omega
    simp only [ed0, ed1] at hbud K
    have hk1 : kd ws.length = 104 := by rw [← hn]; exact hka
    have hk2 : kl ws.length = x.toNatClampNeg := by rw [← hn]; omega
    refine va_newq hx hcb hown (hts _ hcl) hnw.2 hK hP hD hS hA (fun h => ?_) rfl (by omega) hbud.1 hbud.2 hd (fun q cA H1 hK1 hP1 hD1 hS1 => ?_)
    · have := Int32.lt_iff_toInt_lt.mp h
      have hz : (0 : Int32).toInt = 0 := rfl
      omega
    · refine K H1 locs (ws ++ [(q, .inl (cA, x.toNatClampNeg, .inr (.inr (.inr (.inr (fun _ => none))))))]) la _ Ext.app ⟨RW.new (e1 := .inl (cA, x.toNatClampNeg, .inr (.inr (.inr (.inr (fun _ => none)))))) hn hcells hK1 (fun t y h => ?_) hP1 hD1 ⟨⟨hk2, by show x.toNatClampNeg < 2 ^ 31; omega⟩, tys.length, .object RX1, ?_, ⟨⟨hk1, rfl⟩, fun i9 _ => Or.inl ⟨?_, rfl⟩⟩⟩, hS1, hL.ext Ext.app, ⟨q, rfl, Or.inl ⟨ws.length, _, hn, by rw [List.getElem?_append_right (Nat.le_refl _), Nat.sub_self]; rfl, rfl⟩⟩, hT1.ext Ext.app⟩
      · rw [List.getElem?_append_left (List.getElem?_eq_some_iff.mp h).1]; exact h
      · rw [List.getElem?_append_right (Nat.le_refl _), Nat.sub_self]; rfl
      · rw [← hn, alc_n]
        decide
  · cases hq

theorem kd_small : ∀ k : Int, kd k = -1 ∨ (0 ≤ k ∧ 0 ≤ kl k ∧ kl k ≤ 4000) := by
  intro k
  cases k with
  | ofNat n =>
    have e1 : kd (Int.ofNat n) = (match kdl[n]? with | some q => q.1 | none => -1) := rfl
    have e2 : kl (Int.ofNat n) = (match kdl[n]? with | some q => q.2 | none => -1) := rfl
    rw [e1, e2]
    cases h : kdl[n]? with
    | none => left; rfl
    | some q =>
      right
      have hm := List.mem_of_getElem? h
      have ha : ∀ q ∈ kdl, 0 ≤ q.2 ∧ q.2 ≤ 4000 := by decide +kernel
      exact ⟨Int.natCast_nonneg n, (ha q hm).1, (ha q hm).2⟩
  | negSucc n => left; rfl
theorem kd_nn {k : Int} {c : Nat} (h : kd k = c) : 0 ≤ k := by
  rcases kd_small k with h1 | h1
  · omega
  · exact h1.1
theorem vwCl_lt {ci : Nat} {r : vw_C} (h : vwCl[ci]? = some r) : ci < 10 := (List.getElem?_eq_some_iff.mp h).1
theorem RW.obj {b : Nat} {D : va_G} {U : State} {H : Heap} {A : Nat → Prop} {ws : va_W} {sg : SG} {tys : List (ClassId × FieldType)} (hc : ∀ (k : Nat) (q : Nat × va_E), ws[k]? = some q → RCl b tys ws k q.2 sg) {k : Int} {x ci : Nat} (hv : RV b ws (aA k) (.ref x)) (hk : kd k = ci) {r : vw_C} (hr : vwCl[ci]? = some r) :
    ∃ (n : Nat) (fs : List Value), k = n ∧ ws[n]? = some (x, .inr (ci, fs)) ∧ fs.length = r.2.2 ∧ ∀ (j : Nat) (y : Value), fs[j]? = some y → RF b ws (fty ci j) (sg n j) y := by
  have h10 := vwCl_lt hr
  obtain ⟨a, ha, hv⟩ := hv
  cases ha
  rcases hv with ⟨n, q, e1, e2, e3⟩ | ⟨e1, -⟩
  · subst e1
    have h := hc n q e2
    obtain ⟨qa, qe⟩ := q
    cases e3
    rcases qe with ⟨cA, av⟩ | ⟨ci', fs⟩
    · exfalso
      obtain ⟨-, t, ty, -, h⟩ := h
      unfold RArr at h
      split at h
      · rcases h.1 with h | h <;> omega
      · omega
      · omega
      · exact h
    · obtain ⟨h1, r', h2, h3, h4⟩ := h
      have hci : ci' = ci := by omega
      subst hci
      rw [hr] at h2
      cases h2
      exact ⟨n, fs, rfl, e2, h3, h4⟩
  · subst e1
    have h : kd (-7) = -1 := rfl
    omega
theorem RW.arr {b : Nat} {ws : va_W} {sg : SG} {tys : List (ClassId × FieldType)} (hc : ∀ (k : Nat) (q : Nat × va_E), ws[k]? = some q → RCl b tys ws k q.2 sg) {k : Int} {x : Nat} (hv : RV b ws (aA k) (.ref x)) (hk : 100 < kd k) :
    ∃ (n : Nat) (cA : ClassId) (av : vp_A) (t : Nat) (ty : FieldType), k = n ∧ ws[n]? = some (x, .inl (cA, av)) ∧ kl n = av.1 ∧ av.1 < 2 ^ 31 ∧ tys[t]? = some (cA, ty) ∧ RArr ws n ty av sg := by
  obtain ⟨a, ha, hv⟩ := hv
  cases ha
  rcases hv with ⟨n, q, e1, e2, e3⟩ | ⟨e1, -⟩
  · subst e1
    have h := hc n q e2
    obtain ⟨qa, qe⟩ := q
    cases e3
    rcases qe with ⟨cA, av⟩ | ⟨ci', fs⟩
    · obtain ⟨⟨h1, h2⟩, t, ty, h3, h4⟩ := h
      exact ⟨n, cA, av, t, ty, rfl, e2, h1, h2, h3, h4⟩
    · exfalso
      obtain ⟨h1, r', h2, -⟩ := h
      have := vwCl_lt h2
      omega
  · subst e1
    have h : kd (-7) = -1 := rfl
    omega
theorem RCl.mono {b : Nat} {tys : List (ClassId × FieldType)} {ws ws' : va_W} {k : Nat} {e : va_E} {s s' : SG} (hE : Ext ws ws') (hs : ∀ i, s' k i = s k i) (h : RCl b tys ws k e s) : RCl b tys ws' k e s' := by
  rcases e with ⟨cA, av⟩ | ⟨ci, fs⟩
  · obtain ⟨h0, t, ty, h1, h2⟩ := h
    refine ⟨h0, t, ty, h1, ?_⟩
    unfold RArr at h2 ⊢
    split at h2
    · exact ⟨h2.1, fun i hi => by rw [hs]; exact h2.2 i hi⟩
    · exact ⟨h2.1, fun i hi => by rw [hs]; exact h2.2 i hi⟩
    · exact ⟨h2.1, fun i hi => by rw [hs]; exact (h2.2 i hi).ext hE⟩
    · exact h2.elim
  · obtain ⟨h1, r, h2, h3, h4⟩ := h
    exact ⟨h1, r, h2, h3, fun j x hx => by rw [hs]; exact (h4 j x hx).ext hE⟩
theorem up_ne {s : SG} {k i v : Int} {k' : Int} (h : k' ≠ k) (i' : Int) : up s k i v k' i' = s k' i' := by
  unfold up
  rw [if_neg (fun q => h q.1)]
theorem up_at (s : SG) (k i v : Int) : up s k i v k i = v := by
  unfold up
  rw [if_pos ⟨rfl, rfl⟩]
theorem up_ni {s : SG} {k i v i' : Int} (h : i' ≠ i) (k' : Int) : up s k i v k' i' = s k' i' := by
  unfold up
  rw [if_neg (fun q => h q.2)]
theorem RW.put {b : Nat} {D : va_G} {U : State} {H1 : Heap} {A : Nat → Prop} {ws : va_W} {sg sg' : SG} {tys : List (ClassId × FieldType)} {n x : Nat} {e0 e1 : va_E} (hK : va_K D vwCl tys U) (hn : sg (-1) 0 = ws.length) (hc : ∀ (k : Nat) (q : Nat × va_E), ws[k]? = some q → RCl b tys ws k q.2 sg) (hw : ws[n]? = some (x, e0)) (hs : ∀ k i : Int, k ≠ n → sg' k i = sg k i)
    (hP1 : va_P D vwCl (ws.set n (x, e1)) H1) (hD1 : va_D A (ws.set n (x, e1))) (h1 : RCl b tys (ws.set n (x, e1)) n e1 sg') : RW b D U H1 A (ws.set n (x, e1)) sg' := by
  refine ⟨tys, hK, hP1, hD1, by rw [hs _ _ (by omega), hn, List.length_set], fun k q hq => ?_⟩
  by_cases hk : n = k
  · subst hk
    rw [List.getElem?_set_self (List.getElem?_eq_some_iff.mp hw).1] at hq
    cases hq
    exact h1
  · rw [List.getElem?_set_ne hk] at hq
    exact RCl.mono (Ext.set hw) (fun i => hs _ _ (by omega)) (hc k q hq)
theorem i32n {i : Int32} (h : 0 ≤ i.toInt) : (i.toNatClampNeg : Int) = i.toInt := by
  have : i.toNatClampNeg = i.toInt.toNat := rfl
  rw [this]
  omega
theorem in_of {i : Int32} {n : Nat} (h0 : 0 ≤ i.toInt) (h1 : i.toInt < n) : vp_in i n := by
  intro h
  rcases h with h | h
  · have := Int32.lt_iff_toInt_lt.mp h
    have hz : (0 : Int32).toInt = 0 := rfl
    omega
  · have := i32n h0
    omega

theorem r_get {cc : ByteArray} {own nm : String} {nL dp : Nat} {law : Bool} {pc : Nat} {ci j idx N : Nat} {C ref : String} {T : u_T} (hd : decode cc pc = .ok (.getfield idx, 3)) (hc : vwCl[ci]? = some (C, T, N)) (hin : ∀ w ∈ u_ws C T N, w ∈ Gtbl) (hj : j < N) (hlink : Cond.fieldLink own idx ref (T j).2.1 (T j).2.2.1 ∈ Gtbl) (href : (T j).1 = ref) : RowP cc own nm nL dp law pc (.invokeinterface ci j) (pc + 3) := by
  intro p l e R s m args below meth c Q b D A H locs ws sg ls st la sa cells slots F hsc hW hS hL hT hbud q hq
  obtain ⟨hx, hcb, hml, hown, hts, hfr, hlo, hnm, hnw⟩ := F
  subst href
  simp only [stp, uA] at hq
  split at hq
  · next k r =>
    unfold grd at hq
    split at hq
    · next hk =>
      obtain ⟨x, xs, rfl, hv, hT1⟩ := hT.a
      obtain ⟨tys, hK, hP, hD, hn, hcl⟩ := hW
      obtain ⟨n, fs, rfl, hw, hlen, hrf⟩ := RW.obj (A := A) (D := D) (U := s) (H := H) hcl hv hk hc
      obtain ⟨y, hy⟩ : ∃ y, fs[j]? = some y := ⟨_, List.getElem?_eq_getElem (by rw [hlen]; exact hj)⟩
      have hr := hrf j y hy
      split at hq
      · next h0 =>
        rw [h0] at hr
        cases hq
        refine ⟨rfl, fun K => va_get hx hcb hts hin hown hK hP n hw hc j hj (hts _ hlink) (fun _ h9 => h9) hy hd ?_⟩
        exact K _ _ hL ⟨hr, hT1⟩
      · next h0 =>
        rw [h0] at hr
        cases hq
        refine ⟨rfl, fun K => va_get hx hcb hts hin hown hK hP n hw hc j hj (hts _ hlink) (fun _ h9 => h9) hy hd ?_⟩
        exact K _ _ hL ⟨hr, hT1⟩
      · next h0 =>
        rw [h0] at hr
        split at hq
        · next hp =>
          cases hq
          rcases hr with hr | hr
          · exact absurd hr.1 (by omega)
          · refine ⟨rfl, fun K => va_get hx hcb hts hin hown hK hP n hw hc j hj (hts _ hlink) (fun _ h9 => h9) hy hd ?_⟩
            exact K _ _ hL ⟨hr.2, hT1⟩
        · cases hq
      · cases hq
    · cases hq
  · cases hq

theorem r_getN {cc : ByteArray} {own nm : String} {nL dp : Nat} {law : Bool} {pc : Nat} {ci j idx N : Nat} {C ref : String} {T : u_T} {host : String} (hd : decode cc pc = .ok (.getfield idx, 3)) (hc : vwCl[ci]? = some (C, T, N)) (hin : ∀ w ∈ u_ws C T N, w ∈ Gtbl) (hj : j < N) (hlink : Cond.fieldLinkNest own idx ref (T j).2.1 (T j).2.2.1 host ∈ Ntbl) (href : (T j).1 = ref) : RowP cc own nm nL dp law pc (.invokeinterface ci j) (pc + 3) := by
  intro p l e R s m args below meth c Q b D A H locs ws sg ls st la sa cells slots F hsc hW hS hL hT hbud q hq
  obtain ⟨hx, hcb, hml, hown, hts, hfr, hlo, hnm, hnw⟩ := F
  subst href
  simp only [stp, uA] at hq
  split at hq
  · next k r =>
    unfold grd at hq
    split at hq
    · next hk =>
      obtain ⟨x, xs, rfl, hv, hT1⟩ := hT.a
      obtain ⟨tys, hK, hP, hD, hn, hcl⟩ := hW
      obtain ⟨n, fs, rfl, hw, hlen, hrf⟩ := RW.obj (A := A) (D := D) (U := s) (H := H) hcl hv hk hc
      obtain ⟨y, hy⟩ : ∃ y, fs[j]? = some y := ⟨_, List.getElem?_eq_getElem (by rw [hlen]; exact hj)⟩
      have hr := hrf j y hy
      split at hq
      · next h0 =>
        rw [h0] at hr
        cases hq
        refine ⟨rfl, fun K => va_getN hx hcb hts hin hown hK hP n hw hc j hj (va_Nw.use rfl (hnw.1 _ hlink)) (fun _ h9 => h9) hy hd ?_⟩
        exact K _ _ hL ⟨hr, hT1⟩
      · next h0 =>
        rw [h0] at hr
        cases hq
        refine ⟨rfl, fun K => va_getN hx hcb hts hin hown hK hP n hw hc j hj (va_Nw.use rfl (hnw.1 _ hlink)) (fun _ h9 => h9) hy hd ?_⟩
        exact K _ _ hL ⟨hr, hT1⟩
      · next h0 =>
        rw [h0] at hr
        split at hq
        · next hp =>
          cases hq
          rcases hr with hr | hr
          · exact absurd hr.1 (by omega)
          · refine ⟨rfl, fun K => va_getN hx hcb hts hin hown hK hP n hw hc j hj (va_Nw.use rfl (hnw.1 _ hlink)) (fun _ h9 => h9) hy hd ?_⟩
            exact K _ _ hL ⟨hr.2, hT1⟩
        · cases hq
      · cases hq
    · cases hq
  · cases hq

theorem r_putI {cc : ByteArray} {own nm : String} {nL dp : Nat} {law : Bool} {pc : Nat} {ci j idx N : Nat} {C ref : String} {T : u_T} (hd : decode cc pc = .ok (.putfield idx, 3)) (hc : vwCl[ci]? = some (C, T, N)) (hin : ∀ w ∈ u_ws C T N, w ∈ Gtbl) (ty0 : Nat → FieldType) (hty0 : ∀ k, k < N → parseFieldDescriptor (T k).2.2.1 = some (ty0 k)) (hnms : ∀ a, a < N → ∀ b, b < N → a ≠ b → (T a).2.1 ≠ (T b).2.1) (hj : j < N) (hlink : Cond.fieldLink own idx ref (T j).2.1 (T j).2.2.1 ∈ Gtbl) (href : (T j).1 = ref) (hfin : (T j).2.2.2 = false) (hty : parseFieldDescriptor (T j).2.2.1 = some .int) (hft : fty ci j = 0) : Row cc own nm nL dp law pc (.multianewarray ci j) (pc + 3) := by
  intro p l e R s m args below meth c Q b D A H locs ws sg ls st la sa cells slots F hsc hA X q hq hbud K
  obtain ⟨hx, hcb, hml, hown, hts, hfr, hlo, hnm, hnw⟩ := F
  obtain ⟨hW, hS, hL, hT⟩ := X
  subst href
  simp only [stp, hft] at hq
  split at hq
  · next v k r =>
    unfold grd at hq
    split at hq
    · next hk =>
      cases hq
      obtain ⟨x, xs1, rfl, e1, hT1⟩ := hT.i
      obtain ⟨a, xs2, rfl, e2, hT2⟩ := hT1.a
      obtain ⟨tys, hK, hP, hD, hn, hcl⟩ := hW
      obtain ⟨n, fs, rfl, hw, hlen, hrf⟩ := RW.obj (A := A) (D := D) (U := s) (H := H) hcl e2 hk hc
      have ed0 : dd sg (up sg n j v) 0 = 0 := by unfold dd; rw [up_ne (by omega)]; omega
      have ed1 : dd sg (up sg n j v) 1 = 0 := by unfold dd; rw [up_ne (by omega)]; omega
      refine va_put hx hcb hts hin ty0 hty0 hnms hown hK hP hD hS n hw hc j hj (hts _ hlink) (fun _ h9 => h9) hfin hty rfl rfl (by rw [hlen]; exact hj) hd (fun H1 locs1 hP1 hD1 hS1 => ?_)
      have k := K H1 locs1 (ws.set n (a, .inr (ci, fs.set j (.int x)))) la _ (Ext.set hw) ⟨RW.put hK hn hcl hw (fun k i hk => up_ne hk i) hP1 hD1 ⟨hk, _, hc, by rw [List.length_set]; exact hlen, fun j' y hy => ?_⟩, hS1, hL.ext (Ext.set hw), hT2.ext (Ext.set hw)⟩
      · simpa only [ed0, ed1, Nat.add_zero] using k
      · by_cases hjj : j = j'
        · subst hjj
          rw [List.getElem?_set_self (by rw [hlen]; exact hj)] at hy
          cases hy
          show RF b _ (fty ci j) (up sg n j v n j) _
          rw [hft, up_at]
          subst e1; exact ⟨x, rfl, rfl⟩
        · rw [List.getElem?_set_ne hjj] at hy
          show RF b _ (fty ci j') (up sg n j v n j') _
          rw [up_ni (by omega)]
          exact (hrf j' y hy).ext (Ext.set hw)
    · cases hq
  · cases hq

theorem r_putL {cc : ByteArray} {own nm : String} {nL dp : Nat} {law : Bool} {pc : Nat} {ci j idx N : Nat} {C ref : String} {T : u_T} (hd : decode cc pc = .ok (.putfield idx, 3)) (hc : vwCl[ci]? = some (C, T, N)) (hin : ∀ w ∈ u_ws C T N, w ∈ Gtbl) (ty0 : Nat → FieldType) (hty0 : ∀ k, k < N → parseFieldDescriptor (T k).2.2.1 = some (ty0 k)) (hnms : ∀ a, a < N → ∀ b, b < N → a ≠ b → (T a).2.1 ≠ (T b).2.1) (hj : j < N) (hlink : Cond.fieldLink own idx ref (T j).2.1 (T j).2.2.1 ∈ Gtbl) (href : (T j).1 = ref) (hfin : (T j).2.2.2 = false) (hty : parseFieldDescriptor (T j).2.2.1 = some .long) (hft : fty ci j = 1) : Row cc own nm nL dp law pc (.multianewarray ci j) (pc + 3) := by
  intro p l e R s m args below meth c Q b D A H locs ws sg ls st la sa cells slots F hsc hA X q hq hbud K
  obtain ⟨hx, hcb, hml, hown, hts, hfr, hlo, hnm, hnw⟩ := F
  obtain ⟨hW, hS, hL, hT⟩ := X
  subst href
  simp only [stp, hft] at hq
  split at hq
  · next v k r =>
    unfold grd at hq
    split at hq
    · next hk =>
      cases hq
      obtain ⟨x, xs1, rfl, e1, hT1⟩ := hT.l
      obtain ⟨a, xs2, rfl, e2, hT2⟩ := hT1.a
      obtain ⟨tys, hK, hP, hD, hn, hcl⟩ := hW
      obtain ⟨n, fs, rfl, hw, hlen, hrf⟩ := RW.obj (A := A) (D := D) (U := s) (H := H) hcl e2 hk hc
      have ed0 : dd sg (up sg n j v) 0 = 0 := by unfold dd; rw [up_ne (by omega)]; omega
      have ed1 : dd sg (up sg n j v) 1 = 0 := by unfold dd; rw [up_ne (by omega)]; omega
      refine va_put hx hcb hts hin ty0 hty0 hnms hown hK hP hD hS n hw hc j hj (hts _ hlink) (fun _ h9 => h9) hfin hty rfl rfl (by rw [hlen]; exact hj) hd (fun H1 locs1 hP1 hD1 hS1 => ?_)
      have k := K H1 locs1 (ws.set n (a, .inr (ci, fs.set j (.long x)))) la _ (Ext.set hw) ⟨RW.put hK hn hcl hw (fun k i hk => up_ne hk i) hP1 hD1 ⟨hk, _, hc, by rw [List.length_set]; exact hlen, fun j' y hy => ?_⟩, hS1, hL.ext (Ext.set hw), hT2.ext (Ext.set hw)⟩
      · simpa only [ed0, ed1, Nat.add_zero] using k
      · by_cases hjj : j = j'
        · subst hjj
          rw [List.getElem?_set_self (by rw [hlen]; exact hj)] at hy
          cases hy
          show RF b _ (fty ci j) (up sg n j v n j) _
          rw [hft, up_at]
          subst e1; exact ⟨x, rfl, rfl⟩
        · rw [List.getElem?_set_ne hjj] at hy
          show RF b _ (fty ci j') (up sg n j v n j') _
          rw [up_ni (by omega)]
          exact (hrf j' y hy).ext (Ext.set hw)
    · cases hq
  · cases hq

theorem r_putR {cc : ByteArray} {own nm : String} {nL dp : Nat} {law : Bool} {pc : Nat} {ci j idx N : Nat} {C ref : String} {T : u_T} (hd : decode cc pc = .ok (.putfield idx, 3)) (hc : vwCl[ci]? = some (C, T, N)) (hin : ∀ w ∈ u_ws C T N, w ∈ Gtbl) (ty0 : Nat → FieldType) (hty0 : ∀ k, k < N → parseFieldDescriptor (T k).2.2.1 = some (ty0 k)) (hnms : ∀ a, a < N → ∀ b, b < N → a ≠ b → (T a).2.1 ≠ (T b).2.1) (hj : j < N) (hlink : Cond.fieldLink own idx ref (T j).2.1 (T j).2.2.1 ∈ Gtbl) (href : (T j).1 = ref) (hfin : (T j).2.2.2 = false) {ty : FieldType} (hty : parseFieldDescriptor (T j).2.2.1 = some ty) (hnf : ∀ a : Nat, narrow ty (.ref a) = .ref a ∧ fits ty (.ref a) = true) (hft : fty ci j = 2) : Row cc own nm nL dp law pc (.multianewarray ci j) (pc + 3) := by
  intro p l e R s m args below meth c Q b D A H locs ws sg ls st la sa cells slots F hsc hA X q hq hbud K
  obtain ⟨hx, hcb, hml, hown, hts, hfr, hlo, hnm, hnw⟩ := F
  obtain ⟨hW, hS, hL, hT⟩ := X
  subst href
  simp only [stp, hft] at hq
  split at hq
  · next v k r =>
    unfold grd at hq
    split at hq
    · next hk =>
      split at hq
      case isFalse => cases hq
      next hge =>
      cases hq
      obtain ⟨x, xs1, rfl, e1, hT1⟩ := hT.a
      obtain ⟨a, xs2, rfl, e2, hT2⟩ := hT1.a
      obtain ⟨tys, hK, hP, hD, hn, hcl⟩ := hW
      obtain ⟨n, fs, rfl, hw, hlen, hrf⟩ := RW.obj (A := A) (D := D) (U := s) (H := H) hcl e2 hk hc
      have ed0 : dd sg (up sg n j v) 0 = 0 := by unfold dd; rw [up_ne (by omega)]; omega
      have ed1 : dd sg (up sg n j v) 1 = 0 := by unfold dd; rw [up_ne (by omega)]; omega
      refine va_put hx hcb hts hin ty0 hty0 hnms hown hK hP hD hS n hw hc j hj (hts _ hlink) (fun _ h9 => h9) hfin hty (hnf x).1 (hnf x).2 (by rw [hlen]; exact hj) hd (fun H1 locs1 hP1 hD1 hS1 => ?_)
      have k := K H1 locs1 (ws.set n (a, .inr (ci, fs.set j (.ref x)))) la _ (Ext.set hw) ⟨RW.put hK hn hcl hw (fun k i hk => up_ne hk i) hP1 hD1 ⟨hk, _, hc, by rw [List.length_set]; exact hlen, fun j' y hy => ?_⟩, hS1, hL.ext (Ext.set hw), hT2.ext (Ext.set hw)⟩
      · simpa only [ed0, ed1, Nat.add_zero] using k
      · by_cases hjj : j = j'
        · subst hjj
          rw [List.getElem?_set_self (by rw [hlen]; exact hj)] at hy
          cases hy
          show RF b _ (fty ci j) (up sg n j v n j) _
          rw [hft, up_at]
          exact Or.inr ⟨hge, e1.ext (Ext.set hw)⟩
        · rw [List.getElem?_set_ne hjj] at hy
          show RF b _ (fty ci j') (up sg n j v n j') _
          rw [up_ni (by omega)]
          exact (hrf j' y hy).ext (Ext.set hw)
    · cases hq
  · cases hq

theorem r_putNI {cc : ByteArray} {own nm : String} {nL dp : Nat} {law : Bool} {pc : Nat} {ci j idx N : Nat} {C ref : String} {T : u_T} {host : String} (hd : decode cc pc = .ok (.putfield idx, 3)) (hc : vwCl[ci]? = some (C, T, N)) (hin : ∀ w ∈ u_ws C T N, w ∈ Gtbl) (ty0 : Nat → FieldType) (hty0 : ∀ k, k < N → parseFieldDescriptor (T k).2.2.1 = some (ty0 k)) (hnms : ∀ a, a < N → ∀ b, b < N → a ≠ b → (T a).2.1 ≠ (T b).2.1) (hj : j < N) (hlink : Cond.fieldLinkNest own idx ref (T j).2.1 (T j).2.2.1 host ∈ Ntbl) (href : (T j).1 = ref) (hfin : (T j).2.2.2 = false) (hty : parseFieldDescriptor (T j).2.2.1 = some .int) (hft : fty ci j = 0) : Row cc own nm nL dp law pc (.multianewarray ci j) (pc + 3) := by
  intro p l e R s m args below meth c Q b D A H locs ws sg ls st la sa cells slots F hsc hA X q hq hbud K
  obtain ⟨hx, hcb, hml, hown, hts, hfr, hlo, hnm, hnw⟩ := F
  obtain ⟨hW, hS, hL, hT⟩ := X
  subst href
  simp only [stp, hft] at hq
  split at hq
  · next v k r =>
    unfold grd at hq
    split at hq
    · next hk =>
      cases hq
      obtain ⟨x, xs1, rfl, e1, hT1⟩ := hT.i
      obtain ⟨a, xs2, rfl, e2, hT2⟩ := hT1.a
      obtain ⟨tys, hK, hP, hD, hn, hcl⟩ := hW
      obtain ⟨n, fs, rfl, hw, hlen, hrf⟩ := RW.obj (A := A) (D := D) (U := s) (H := H) hcl e2 hk hc
      have ed0 : dd sg (up sg n j v) 0 = 0 := by unfold dd; rw [up_ne (by omega)]; omega
      have ed1 : dd sg (up sg n j v) 1 = 0 := by unfold dd; rw [up_ne (by omega)]; omega
      refine va_putN hx hcb hts hin ty0 hty0 hnms hown hK hP hD hS n hw hc j hj (va_Nw.use rfl (hnw.1 _ hlink)) (fun _ h9 => h9) hfin hty rfl rfl (by rw [hlen]; exact hj) hd (fun H1 locs1 hP1 hD1 hS1 => ?_)
      have k := K H1 locs1 (ws.set n (a, .inr (ci, fs.set j (.int x)))) la _ (Ext.set hw) ⟨RW.put hK hn hcl hw (fun k i hk => up_ne hk i) hP1 hD1 ⟨hk, _, hc, by rw [List.length_set]; exact hlen, fun j' y hy => ?_⟩, hS1, hL.ext (Ext.set hw), hT2.ext (Ext.set hw)⟩
      · simpa only [ed0, ed1, Nat.add_zero] using k
      · by_cases hjj : j = j'
        · subst hjj
          rw [List.getElem?_set_self (by rw [hlen]; exact hj)] at hy
          cases hy
          show RF b _ (fty ci j) (up sg n j v n j) _
          rw [hft, up_at]
          subst e1; exact ⟨x, rfl, rfl⟩
        · rw [List.getElem?_set_ne hjj] at hy
          show RF b _ (fty ci j') (up sg n j v n j') _
          rw [up_ni (by omega)]
          exact (hrf j' y hy).ext (Ext.set hw)
    · cases hq
  · cases hq

theorem r_putNL {cc : ByteArray} {own nm : String} {nL dp : Nat} {law : Bool} {pc : Nat} {ci j idx N : Nat} {C ref : String} {T : u_T} {host : String} (hd : decode cc pc = .ok (.putfield idx, 3)) (hc : vwCl[ci]? = some (C, T, N)) (hin : ∀ w ∈ u_ws C T N, w ∈ Gtbl) (ty0 : Nat → FieldType) (hty0 : ∀ k, k < N → parseFieldDescriptor (T k).2.2.1 = some (ty0 k)) (hnms : ∀ a, a < N → ∀ b, b < N → a ≠ b → (T a).2.1 ≠ (T b).2.1) (hj : j < N) (hlink : Cond.fieldLinkNest own idx ref (T j).2.1 (T j).2.2.1 host ∈ Ntbl) (href : (T j).1 = ref) (hfin : (T j).2.2.2 = false) (hty : parseFieldDescriptor (T j).2.2.1 = some .long) (hft : fty ci j = 1) : Row cc own nm nL dp law pc (.multianewarray ci j) (pc + 3) := by
  intro p l e R s m args below meth c Q b D A H locs ws sg ls st la sa cells slots F hsc hA X q hq hbud K
  obtain ⟨hx, hcb, hml, hown, hts, hfr, hlo, hnm, hnw⟩ := F
  obtain ⟨hW, hS, hL, hT⟩ := X
  subst href
  simp only [stp, hft] at hq
  split at hq
  · next v k r =>
    unfold grd at hq
    split at hq
    · next hk =>
      cases hq
      obtain ⟨x, xs1, rfl, e1, hT1⟩ := hT.l
      obtain ⟨a, xs2, rfl, e2, hT2⟩ := hT1.a
      obtain ⟨tys, hK, hP, hD, hn, hcl⟩ := hW
      obtain ⟨n, fs, rfl, hw, hlen, hrf⟩ := RW.obj (A := A) (D := D) (U := s) (H := H) hcl e2 hk hc
      have ed0 : dd sg (up sg n j v) 0 = 0 := by unfold dd; rw [up_ne (by omega)]; omega
      have ed1 : dd sg (up sg n j v) 1 = 0 := by unfold dd; rw [up_ne (by omega)]; omega
      refine va_putN hx hcb hts hin ty0 hty0 hnms hown hK hP hD hS n hw hc j hj (va_Nw.use rfl (hnw.1 _ hlink)) (fun _ h9 => h9) hfin hty rfl rfl (by rw [hlen]; exact hj) hd (fun H1 locs1 hP1 hD1 hS1 => ?_)
      have k := K H1 locs1 (ws.set n (a, .inr (ci, fs.set j (.long x)))) la _ (Ext.set hw) ⟨RW.put hK hn hcl hw (fun k i hk => up_ne hk i) hP1 hD1 ⟨hk, _, hc, by rw [List.length_set]; exact hlen, fun j' y hy => ?_⟩, hS1, hL.ext (Ext.set hw), hT2.ext (Ext.set hw)⟩
      · simpa only [ed0, ed1, Nat.add_zero] using k
      · by_cases hjj : j = j'
        · subst hjj
          rw [List.getElem?_set_self (by rw [hlen]; exact hj)] at hy
          cases hy
          show RF b _ (fty ci j) (up sg n j v n j) _
          rw [hft, up_at]
          subst e1; exact ⟨x, rfl, rfl⟩
        · rw [List.getElem?_set_ne hjj] at hy
          show RF b _ (fty ci j') (up sg n j v n j') _
          rw [up_ni (by omega)]
          exact (hrf j' y hy).ext (Ext.set hw)
    · cases hq
  · cases hq

theorem r_putNR {cc : ByteArray} {own nm : String} {nL dp : Nat} {law : Bool} {pc : Nat} {ci j idx N : Nat} {C ref : String} {T : u_T} {host : String} (hd : decode cc pc = .ok (.putfield idx, 3)) (hc : vwCl[ci]? = some (C, T, N)) (hin : ∀ w ∈ u_ws C T N, w ∈ Gtbl) (ty0 : Nat → FieldType) (hty0 : ∀ k, k < N → parseFieldDescriptor (T k).2.2.1 = some (ty0 k)) (hnms : ∀ a, a < N → ∀ b, b < N → a ≠ b → (T a).2.1 ≠ (T b).2.1) (hj : j < N) (hlink : Cond.fieldLinkNest own idx ref (T j).2.1 (T j).2.2.1 host ∈ Ntbl) (href : (T j).1 = ref) (hfin : (T j).2.2.2 = false) {ty : FieldType} (hty : parseFieldDescriptor (T j).2.2.1 = some ty) (hnf : ∀ a : Nat, narrow ty (.ref a) = .ref a ∧ fits ty (.ref a) = true) (hft : fty ci j = 2) : Row cc own nm nL dp law pc (.multianewarray ci j) (pc + 3) := by
  intro p l e R s m args below meth c Q b D A H locs ws sg ls st la sa cells slots F hsc hA X q hq hbud K
  obtain ⟨hx, hcb, hml, hown, hts, hfr, hlo, hnm, hnw⟩ := F
  obtain ⟨hW, hS, hL, hT⟩ := X
  subst href
  simp only [stp, hft] at hq
  split at hq
  · next v k r =>
    unfold grd at hq
    split at hq
    · next hk =>
      split at hq
      case isFalse => cases hq
      next hge =>
      cases hq
      obtain ⟨x, xs1, rfl, e1, hT1⟩ := hT.a
      obtain ⟨a, xs2, rfl, e2, hT2⟩ := hT1.a
      obtain ⟨tys, hK, hP, hD, hn, hcl⟩ := hW
      obtain ⟨n, fs, rfl, hw, hlen, hrf⟩ := RW.obj (A := A) (D := D) (U := s) (H := H) hcl e2 hk hc
      have ed0 : dd sg (up sg n j v) 0 = 0 := by unfold dd; rw [up_ne (by omega)]; omega
      have ed1 : dd sg (up sg n j v) 1 = 0 := by unfold dd; rw [up_ne (by omega)]; omega
      refine va_putN hx hcb hts hin ty0 hty0 hnms hown hK hP hD hS n hw hc j hj (va_Nw.use rfl (hnw.1 _ hlink)) (fun _ h9 => h9) hfin hty (hnf x).1 (hnf x).2 (by rw [hlen]; exact hj) hd (fun H1 locs1 hP1 hD1 hS1 => ?_)
      have k := K H1 locs1 (ws.set n (a, .inr (ci, fs.set j (.ref x)))) la _ (Ext.set hw) ⟨RW.put hK hn hcl hw (fun k i hk => up_ne hk i) hP1 hD1 ⟨hk, _, hc, by rw [List.length_set]; exact hlen, fun j' y hy => ?_⟩, hS1, hL.ext (Ext.set hw), hT2.ext (Ext.set hw)⟩
      · simpa only [ed0, ed1, Nat.add_zero] using k
      · by_cases hjj : j = j'
        · subst hjj
          rw [List.getElem?_set_self (by rw [hlen]; exact hj)] at hy
          cases hy
          show RF b _ (fty ci j) (up sg n j v n j) _
          rw [hft, up_at]
          exact Or.inr ⟨hge, e1.ext (Ext.set hw)⟩
        · rw [List.getElem?_set_ne hjj] at hy
          show RF b _ (fty ci j') (up sg n j v n j') _
          rw [up_ni (by omega)]
          exact (hrf j' y hy).ext (Ext.set hw)
    · cases hq
  · cases hq

theorem r_putFI {cc : ByteArray} {own nm : String} {nL dp : Nat} {law : Bool} {pc : Nat} {ci j idx N : Nat} {C ref : String} {T : u_T} (hd : decode cc pc = .ok (.putfield idx, 3)) (hc : vwCl[ci]? = some (C, T, N)) (hin : ∀ w ∈ u_ws C T N, w ∈ Gtbl) (ty0 : Nat → FieldType) (hty0 : ∀ k, k < N → parseFieldDescriptor (T k).2.2.1 = some (ty0 k)) (hnms : ∀ a, a < N → ∀ b, b < N → a ≠ b → (T a).2.1 ≠ (T b).2.1) (hj : j < N) (hlink : Cond.fieldLink own idx ref (T j).2.1 (T j).2.2.1 ∈ Gtbl) (href : (T j).1 = ref) (hfin : (T j).2.2.2 = true) (hini : nm = "<init>") (hdecl : (T j).1 = own) (hty : parseFieldDescriptor (T j).2.2.1 = some .int) (hft : fty ci j = 0) : Row cc own nm nL dp law pc (.multianewarray ci j) (pc + 3) := by
  intro p l e R s m args below meth c Q b D A H locs ws sg ls st la sa cells slots F hsc hA X q hq hbud K
  obtain ⟨hx, hcb, hml, hown, hts, hfr, hlo, hnm, hnw⟩ := F
  obtain ⟨hW, hS, hL, hT⟩ := X
  subst href
  simp only [stp, hft] at hq
  split at hq
  · next v k r =>
    unfold grd at hq
    split at hq
    · next hk =>
      cases hq
      obtain ⟨x, xs1, rfl, e1, hT1⟩ := hT.i
      obtain ⟨a, xs2, rfl, e2, hT2⟩ := hT1.a
      obtain ⟨tys, hK, hP, hD, hn, hcl⟩ := hW
      obtain ⟨n, fs, rfl, hw, hlen, hrf⟩ := RW.obj (A := A) (D := D) (U := s) (H := H) hcl e2 hk hc
      have ed0 : dd sg (up sg n j v) 0 = 0 := by unfold dd; rw [up_ne (by omega)]; omega
      have ed1 : dd sg (up sg n j v) 1 = 0 := by unfold dd; rw [up_ne (by omega)]; omega
      refine va_putF hx hcb hts hin ty0 hty0 hnms hown hK hP hD hS n hw hc j hj (hts _ hlink) (fun _ h9 => h9) hfin ((hnm hini).trans hini) hdecl hty rfl rfl (by rw [hlen]; exact hj) hd (fun H1 locs1 hP1 hD1 hS1 => ?_)
      have k := K H1 locs1 (ws.set n (a, .inr (ci, fs.set j (.int x)))) la _ (Ext.set hw) ⟨RW.put hK hn hcl hw (fun k i hk => up_ne hk i) hP1 hD1 ⟨hk, _, hc, by rw [List.length_set]; exact hlen, fun j' y hy => ?_⟩, hS1, hL.ext (Ext.set hw), hT2.ext (Ext.set hw)⟩
      · simpa only [ed0, ed1, Nat.add_zero] using k
      · by_cases hjj : j = j'
        · subst hjj
          rw [List.getElem?_set_self (by rw [hlen]; exact hj)] at hy
          cases hy
          show RF b _ (fty ci j) (up sg n j v n j) _
          rw [hft, up_at]
          subst e1; exact ⟨x, rfl, rfl⟩
        · rw [List.getElem?_set_ne hjj] at hy
          show RF b _ (fty ci j') (up sg n j v n j') _
          rw [up_ni (by omega)]
          exact (hrf j' y hy).ext (Ext.set hw)
    · cases hq
  · cases hq

theorem r_putFL {cc : ByteArray} {own nm : String} {nL dp : Nat} {law : Bool} {pc : Nat} {ci j idx N : Nat} {C ref : String} {T : u_T} (hd : decode cc pc = .ok (.putfield idx, 3)) (hc : vwCl[ci]? = some (C, T, N)) (hin : ∀ w ∈ u_ws C T N, w ∈ Gtbl) (ty0 : Nat → FieldType) (hty0 : ∀ k, k < N → parseFieldDescriptor (T k).2.2.1 = some (ty0 k)) (hnms : ∀ a, a < N → ∀ b, b < N → a ≠ b → (T a).2.1 ≠ (T b).2.1) (hj : j < N) (hlink : Cond.fieldLink own idx ref (T j).2.1 (T j).2.2.1 ∈ Gtbl) (href : (T j).1 = ref) (hfin : (T j).2.2.2 = true) (hini : nm = "<init>") (hdecl : (T j).1 = own) (hty : parseFieldDescriptor (T j).2.2.1 = some .long) (hft : fty ci j = 1) : Row cc own nm nL dp law pc (.multianewarray ci j) (pc + 3) := by
  intro p l e R s m args below meth c Q b D A H locs ws sg ls st la sa cells slots F hsc hA X q hq hbud K
  obtain ⟨hx, hcb, hml, hown, hts, hfr, hlo, hnm, hnw⟩ := F
  obtain ⟨hW, hS, hL, hT⟩ := X
  subst href
  simp only [stp, hft] at hq
  split at hq
  · next v k r =>
    unfold grd at hq
    split at hq
    · next hk =>
      cases hq
      obtain ⟨x, xs1, rfl, e1, hT1⟩ := hT.l
      obtain ⟨a, xs2, rfl, e2, hT2⟩ := hT1.a
      obtain ⟨tys, hK, hP, hD, hn, hcl⟩ := hW
      obtain ⟨n, fs, rfl, hw, hlen, hrf⟩ := RW.obj (A := A) (D := D) (U := s) (H := H) hcl e2 hk hc
      have ed0 : dd sg (up sg n j v) 0 = 0 := by unfold dd; rw [up_ne (by omega)]; omega
      have ed1 : dd sg (up sg n j v) 1 = 0 := by unfold dd; rw [up_ne (by omega)]; omega
      refine va_putF hx hcb hts hin ty0 hty0 hnms hown hK hP hD hS n hw hc j hj (hts _ hlink) (fun _ h9 => h9) hfin ((hnm hini).trans hini) hdecl hty rfl rfl (by rw [hlen]; exact hj) hd (fun H1 locs1 hP1 hD1 hS1 => ?_)
      have k := K H1 locs1 (ws.set n (a, .inr (ci, fs.set j (.long x)))) la _ (Ext.set hw) ⟨RW.put hK hn hcl hw (fun k i hk => up_ne hk i) hP1 hD1 ⟨hk, _, hc, by rw [List.length_set]; exact hlen, fun j' y hy => ?_⟩, hS1, hL.ext (Ext.set hw), hT2.ext (Ext.set hw)⟩
      · simpa only [ed0, ed1, Nat.add_zero] using k
      · by_cases hjj : j = j'
        · subst hjj
          rw [List.getElem?_set_self (by rw [hlen]; exact hj)] at hy
          cases hy
          show RF b _ (fty ci j) (up sg n j v n j) _
          rw [hft, up_at]
          subst e1; exact ⟨x, rfl, rfl⟩
        · rw [List.getElem?_set_ne hjj] at hy
          show RF b _ (fty ci j') (up sg n j v n j') _
          rw [up_ni (by omega)]
          exact (hrf j' y hy).ext (Ext.set hw)
    · cases hq
  · cases hq

theorem r_putFR {cc : ByteArray} {own nm : String} {nL dp : Nat} {law : Bool} {pc : Nat} {ci j idx N : Nat} {C ref : String} {T : u_T} (hd : decode cc pc = .ok (.putfield idx, 3)) (hc : vwCl[ci]? = some (C, T, N)) (hin : ∀ w ∈ u_ws C T N, w ∈ Gtbl) (ty0 : Nat → FieldType) (hty0 : ∀ k, k < N → parseFieldDescriptor (T k).2.2.1 = some (ty0 k)) (hnms : ∀ a, a < N → ∀ b, b < N → a ≠ b → (T a).2.1 ≠ (T b).2.1) (hj : j < N) (hlink : Cond.fieldLink own idx ref (T j).2.1 (T j).2.2.1 ∈ Gtbl) (href : (T j).1 = ref) (hfin : (T j).2.2.2 = true) (hini : nm = "<init>") (hdecl : (T j).1 = own) {ty : FieldType} (hty : parseFieldDescriptor (T j).2.2.1 = some ty) (hnf : ∀ a : Nat, narrow ty (.ref a) = .ref a ∧ fits ty (.ref a) = true) (hft : fty ci j = 2) : Row cc own nm nL dp law pc (.multianewarray ci j) (pc + 3) := by
  intro p l e R s m args below meth c Q b D A H locs ws sg ls st la sa cells slots F hsc hA X q hq hbud K
  obtain ⟨hx, hcb, hml, hown, hts, hfr, hlo, hnm, hnw⟩ := F
  obtain ⟨hW, hS, hL, hT⟩ := X
  subst href
  simp only [stp, hft] at hq
  split at hq
  · next v k r =>
    unfold grd at hq
    split at hq
    · next hk =>
      split at hq
      case isFalse => cases hq
      next hge =>
      cases hq
      obtain ⟨x, xs1, rfl, e1, hT1⟩ := hT.a
      obtain ⟨a, xs2, rfl, e2, hT2⟩ := hT1.a
      obtain ⟨tys, hK, hP, hD, hn, hcl⟩ := hW
      obtain ⟨n, fs, rfl, hw, hlen, hrf⟩ := RW.obj (A := A) (D := D) (U := s) (H := H) hcl e2 hk hc
      have ed0 : dd sg (up sg n j v) 0 = 0 := by unfold dd; rw [up_ne (by omega)]; omega
      have ed1 : dd sg (up sg n j v) 1 = 0 := by unfold dd; rw [up_ne (by omega)]; omega
      refine va_putF hx hcb hts hin ty0 hty0 hnms hown hK hP hD hS n hw hc j hj (hts _ hlink) (fun _ h9 => h9) hfin ((hnm hini).trans hini) hdecl hty (hnf x).1 (hnf x).2 (by rw [hlen]; exact hj) hd (fun H1 locs1 hP1 hD1 hS1 => ?_)
      have k := K H1 locs1 (ws.set n (a, .inr (ci, fs.set j (.ref x)))) la _ (Ext.set hw) ⟨RW.put hK hn hcl hw (fun k i hk => up_ne hk i) hP1 hD1 ⟨hk, _, hc, by rw [List.length_set]; exact hlen, fun j' y hy => ?_⟩, hS1, hL.ext (Ext.set hw), hT2.ext (Ext.set hw)⟩
      · simpa only [ed0, ed1, Nat.add_zero] using k
      · by_cases hjj : j = j'
        · subst hjj
          rw [List.getElem?_set_self (by rw [hlen]; exact hj)] at hy
          cases hy
          show RF b _ (fty ci j) (up sg n j v n j) _
          rw [hft, up_at]
          exact Or.inr ⟨hge, e1.ext (Ext.set hw)⟩
        · rw [List.getElem?_set_ne hjj] at hy
          show RF b _ (fty ci j') (up sg n j v n j') _
          rw [up_ni (by omega)]
          exact (hrf j' y hy).ext (Ext.set hw)
    · cases hq
  · cases hq

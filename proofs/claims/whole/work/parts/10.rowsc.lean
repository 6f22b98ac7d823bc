/-! Math, the plain object's own making, the copy of a row, switches, and calls -/
theorem chk_spec {α : Type} {r : List AV} {x : Option α} {y : α} (h : chk r x = some y) : wsum r ≤ 8 ∧ x = some y := by
  unfold chk at h
  split at h
  · next hc => exact ⟨Nat.ble_eq.mp hc, h⟩
  · cases h
theorem max_i (x y : Int32) : (if x < y then y else x).toInt = max x.toInt y.toInt := by
  by_cases h : x < y
  · have := Int32.lt_iff_toInt_lt.mp h
    rw [if_pos h]; omega
  · have h2 : ¬ x.toInt < y.toInt := fun q => h (Int32.lt_iff_toInt_lt.mpr q)
    rw [if_neg h]; omega
theorem min_i (x y : Int32) : (if y < x then y else x).toInt = min x.toInt y.toInt := by
  by_cases h : y < x
  · have := Int32.lt_iff_toInt_lt.mp h
    rw [if_pos h]; omega
  · have h2 : ¬ y.toInt < x.toInt := fun q => h (Int32.lt_iff_toInt_lt.mpr q)
    rw [if_neg h]; omega
theorem max_l (x y : Int64) : (if y < x then x else y).toInt = max x.toInt y.toInt := by
  by_cases h : y < x
  · have := Int64.lt_iff_toInt_lt.mp h
    rw [if_pos h]; omega
  · have h2 : ¬ y.toInt < x.toInt := fun q => h (Int64.lt_iff_toInt_lt.mpr q)
    rw [if_neg h]; omega
theorem abs_l (x : Int64) : (if 0 < x then x else -x).toInt = if x.toInt < 0 then w64 (-x.toInt) else x.toInt := by
  have hz : (0 : Int64).toInt = 0 := rfl
  by_cases h : 0 < x
  · have := Int64.lt_iff_toInt_lt.mp h
    rw [if_pos h, if_neg (by omega)]
  · have h2 : ¬ (0 : Int64).toInt < x.toInt := fun q => h (Int64.lt_iff_toInt_lt.mpr q)
    rw [if_neg h, Int64.toInt_neg]
    by_cases h3 : x.toInt < 0
    · rw [if_pos h3]; rfl
    · have h4 : x.toInt = 0 := by omega
      rw [if_neg h3, h4]; rfl
theorem r_maxi {cc : ByteArray} {own nm : String} {nL dp : Nat} {law : Bool} {pc idx : Nat} (hd : decode cc pc = .ok (.invokestatic idx, 3)) (h1 : Cond.methodLink own idx Lib.Math.max.name ∈ Gtbl) (h2 : Cond.static Lib.Math.max.name ∈ Gtbl) (h3 : Cond.initialized "java/lang/Math" ∈ Gtbl) (h4 : Cond.code Lib.Math.max.name Lib.Math.max.code 2 (some .int) ∈ Gtbl) (hdp : 1 ≤ dp) : RowP cc own nm nL dp law pc .fadd (pc + 3) := by
  intro p l e R s m args below meth c Q b D A H locs ws sg ls st la sa cells slots F hsc hW hS hL hT hbud q hq
  obtain ⟨hx, hcb, hml, hown, hts, hfr, hlo, hnm, hnw⟩ := F
  simp only [stp, bI] at hq
  split at hq
  · next b0 a0 r =>
    obtain ⟨hw, hq⟩ := chk_spec hq
    obtain ⟨y, xs1, rfl, e1, hT1⟩ := hT.i
    obtain ⟨x, xs2, rfl, e2, hT2⟩ := hT1.i
    subst e1; subst e2
    cases hq
    refine ⟨rfl, fun K => va_mmax hx hcb (by rw [hL.size]; exact hml) hown (hts _ h1) (hts _ h2) (hts _ h3) (hts _ h4) (by omega) (by rw [hT2.wsum]; omega) hbud.1 hbud.2 hd ?_⟩
    exact K _ _ hL ⟨⟨_, rfl, max_i x y⟩, hT2⟩
  · cases hq
theorem r_mini {cc : ByteArray} {own nm : String} {nL dp : Nat} {law : Bool} {pc idx : Nat} (hd : decode cc pc = .ok (.invokestatic idx, 3)) (h1 : Cond.methodLink own idx Lib.Math.min.name ∈ Gtbl) (h2 : Cond.static Lib.Math.min.name ∈ Gtbl) (h3 : Cond.initialized "java/lang/Math" ∈ Gtbl) (h4 : Cond.code Lib.Math.min.name Lib.Math.min.code 2 (some .int) ∈ Gtbl) (hdp : 1 ≤ dp) : RowP cc own nm nL dp law pc .fsub (pc + 3) := by
  intro p l e R s m args below meth c Q b D A H locs ws sg ls st la sa cells slots F hsc hW hS hL hT hbud q hq
  obtain ⟨hx, hcb, hml, hown, hts, hfr, hlo, hnm, hnw⟩ := F
  simp only [stp, bI] at hq
  split at hq
  · next b0 a0 r =>
    obtain ⟨hw, hq⟩ := chk_spec hq
    obtain ⟨y, xs1, rfl, e1, hT1⟩ := hT.i
    obtain ⟨x, xs2, rfl, e2, hT2⟩ := hT1.i
    subst e1; subst e2
    cases hq
    refine ⟨rfl, fun K => va_mmin hx hcb (by rw [hL.size]; exact hml) hown (hts _ h1) (hts _ h2) (hts _ h3) (hts _ h4) (by omega) (by rw [hT2.wsum]; omega) hbud.1 hbud.2 hd ?_⟩
    exact K _ _ hL ⟨⟨_, rfl, min_i x y⟩, hT2⟩
  · cases hq
theorem r_maxl {cc : ByteArray} {own nm : String} {nL dp : Nat} {law : Bool} {pc idx : Nat} (hd : decode cc pc = .ok (.invokestatic idx, 3)) (h1 : Cond.methodLink own idx Lib.MathLoose.max_long.x ∈ Gtbl) (h2 : Cond.static Lib.MathLoose.max_long.x ∈ Gtbl) (h3 : Cond.initialized "java/lang/Math" ∈ Gtbl) (h4 : Cond.code Lib.MathLoose.max_long.x Lib.MathLoose.max_long.code 4 (some .long) ∈ Gtbl) (hdp : 1 ≤ dp) : RowP cc own nm nL dp law pc .dadd (pc + 3) := by
  intro p l e R s m args below meth c Q b D A H locs ws sg ls st la sa cells slots F hsc hW hS hL hT hbud q hq
  obtain ⟨hx, hcb, hml, hown, hts, hfr, hlo, hnm, hnw⟩ := F
  simp only [stp, bL] at hq
  split at hq
  · next b0 a0 r =>
    obtain ⟨hw, hq⟩ := chk_spec hq
    obtain ⟨y, xs1, rfl, e1, hT1⟩ := hT.l
    obtain ⟨x, xs2, rfl, e2, hT2⟩ := hT1.l
    subst e1; subst e2
    cases hq
    refine ⟨rfl, fun K => va_mmax_long hx hcb (by rw [hL.size]; exact hml) hown (hts _ h1) (hts _ h2) (hts _ h3) (hts _ h4) (by omega) (by rw [hT2.wsum]; omega) hbud.1 hbud.2 hd ?_⟩
    exact K _ _ hL ⟨⟨_, rfl, max_l x y⟩, hT2⟩
  · cases hq
theorem r_absl {cc : ByteArray} {own nm : String} {nL dp : Nat} {law : Bool} {pc idx : Nat} (hd : decode cc pc = .ok (.invokestatic idx, 3)) (h1 : Cond.methodLink own idx Lib.MathLoose.abs_long.x ∈ Gtbl) (h2 : Cond.static Lib.MathLoose.abs_long.x ∈ Gtbl) (h3 : Cond.initialized "java/lang/Math" ∈ Gtbl) (h4 : Cond.code Lib.MathLoose.abs_long.x Lib.MathLoose.abs_long.code 2 (some .long) ∈ Gtbl) (hdp : 1 ≤ dp) : RowP cc own nm nL dp law pc .fneg (pc + 3) := by
  intro p l e R s m args below meth c Q b D A H locs ws sg ls st la sa cells slots F hsc hW hS hL hT hbud q hq
  obtain ⟨hx, hcb, hml, hown, hts, hfr, hlo, hnm, hnw⟩ := F
  simp only [stp, uL] at hq
  split at hq
  · next a0 r =>
    obtain ⟨hw, hq⟩ := chk_spec hq
    obtain ⟨x, xs2, rfl, e2, hT2⟩ := hT.l
    subst e2
    cases hq
    refine ⟨rfl, fun K => va_mabs_long hx hcb (by rw [hL.size]; exact hml) hown (hts _ h1) (hts _ h2) (hts _ h3) (hts _ h4) (by omega) (by rw [hT2.wsum]; omega) hbud.1 hbud.2 hd ?_⟩
    exact K _ _ hL ⟨⟨_, rfl, abs_l x⟩, hT2⟩
  · cases hq
theorem r_obj {cc : ByteArray} {own nm : String} {nL dp : Nat} {law : Bool} {pc idx : Nat} (hd : decode cc pc = .ok (.invokespecial idx, 3)) (h1 : Cond.methodLink own idx Lib.objectInit ∈ Gtbl) (h2 : Cond.instanceMethod Lib.objectInit ∈ Gtbl) (h3 : Cond.code Lib.objectInit ⟨#[0xb1]⟩ 1 none ∈ Gtbl) (hdp : 1 ≤ dp) : RowP cc own nm nL dp law pc .monitorexit (pc + 3) := by
  intro p l e R s m args below meth c Q b D A H locs ws sg ls st la sa cells slots F hsc hW hS hL hT hbud q hq
  obtain ⟨hx, hcb, hml, hown, hts, hfr, hlo, hnm, hnw⟩ := F
  simp only [stp, uA] at hq
  split at hq
  · next a0 r =>
    obtain ⟨hw, hq⟩ := chk_spec hq
    obtain ⟨x, xs2, rfl, e2, hT2⟩ := hT.a
    cases hq
    refine ⟨rfl, fun K => W.objInit hx hcb hown (hts _ h1) (hts _ h2) (hts _ h3) rfl (by show la.size = _; rw [hL.size]; exact hml.symm) rfl hd (by omega) (by show 2 * 0 + _ + 12 ≤ _; rw [hT2.wsum]; omega) ?_⟩
    exact K _ _ hL hT2
  · cases hq
theorem r_copy {cc : ByteArray} {own nm : String} {nL dp : Nat} {law : Bool} {pc idx : Nat} (hd : decode cc pc = .ok (.invokestatic idx, 3)) (h1 : Cond.methodLink own idx arraycopyName ∈ Gtbl) (h2 : Cond.native arraycopyName ∈ Gtbl) (h3 : Cond.static arraycopyName ∈ Gtbl) (h4 : Cond.initialized "java/lang/System" ∈ Gtbl) (hdp : 1 ≤ dp) : Row cc own nm nL dp law pc (.invokedynamic 0) (pc + 3) := by
  intro p l e R s m args below meth c Q b D A H locs ws sg ls st la sa cells slots F hsc hA X q hq hbud K
  obtain ⟨hx, hcb, hml, hown, hts, hfr, hlo, hnm, hnw⟩ := F
  obtain ⟨hW, hS, hL, hT⟩ := X
  simp only [stp] at hq
  split at hq
  case h_2 => cases hq
  next n dp0 d sp q0 r =>
  unfold grd at hq
  split at hq
  case isFalse => cases hq
  next hk =>
  split at hq
  case isFalse => cases hq
  next hi =>
  obtain ⟨hw, hq⟩ := chk_spec hq
  cases hq
  obtain ⟨x1, xs1, rfl, e1, hT1⟩ := hT.i
  obtain ⟨x2, xs2, rfl, e2, hT2⟩ := hT1.i
  obtain ⟨x3, xs3, rfl, e3, hT3⟩ := hT2.a
  obtain ⟨x4, xs4, rfl, e4, hT4⟩ := hT3.i
  obtain ⟨x5, xs5, rfl, e5, hT5⟩ := hT4.a
  subst e1; subst e2; subst e4
  obtain ⟨tys, hK, hP, hD, hn, hcl⟩ := hW
  obtain ⟨k1, cA1, av1, t1, ty1, rfl, hw1, hkl1, hsz1, hty1, hra1⟩ := RW.arr hcl e5 (by omega)
  obtain ⟨rfl, f1, hav1, hf1⟩ := hra1.i hk.1
  obtain ⟨k2, cA2, av2, t2, ty2, rfl, hw2, hkl2, hsz2, hty2, hra2⟩ := RW.arr hcl e3 (by omega)
  obtain ⟨rfl, f2, hav2, hf2⟩ := hra2.i hk.2
  rw [hav1] at hw1
  rw [hav2] at hw2
  obtain ⟨g1, g2, g3, g4, g5⟩ := hi
  have n1 := i32n g1
  have n2 := i32n g2
  have n3 := i32n g3
  have nlt : ∀ z : Int32, 0 ≤ z.toInt → ¬ z < 0 := fun z hz h => by
    have := Int32.lt_iff_toInt_lt.mp h
    have hz0 : (0 : Int32).toInt = 0 := rfl
    omega
  have hs' : ∀ k i : Int, k ≠ k2 → cpy sg k1 x4.toInt k2 x2.toInt x1.toInt k i = sg k i := fun k i hk => by
    unfold cpy
    rw [if_neg (fun q => hk q.1)]
  have ed0 : dd sg (cpy sg k1 x4.toInt k2 x2.toInt x1.toInt) 0 = 0 := by unfold dd; rw [hs' _ _ (by omega)]; omega
  have ed1 : dd sg (cpy sg k1 x4.toInt k2 x2.toInt x1.toInt) 1 = 0 := by unfold dd; rw [hs' _ _ (by omega)]; omega
  refine va_copyi hx hcb (by rw [hL.size]; exact hml) hown (hts _ h1) (hts _ h2) (hts _ h3) (hts _ h4) hK hP hD hS k1 k2 t1 t2 hw1 hw2 hty1 hty2 rfl (nlt _ g1) (nlt _ g2) (nlt _ g3) (by omega) (by omega) (fun _ _ => rfl) (by omega) ?_ hd (fun H1 locs1 hP1 hD1 hS1 => ?_)
  · have hnf : nativeFrameWords "java/lang/System" "arraycopy" 5 + 11 ≤ 34 := by decide
    rw [hT5.wsum]; omega
  · have k := K H1 locs1 (ws.set k2 (x3, .inl (cA2, av2.1, .inl (va_cpy f1 f2 x4.toNatClampNeg x2.toNatClampNeg x1.toNatClampNeg)))) la _ (Ext.set hw2) ⟨RW.put hK hn hcl hw2 hs' hP1 hD1 ⟨⟨hkl2, hsz2⟩, t2, _, hty2, ⟨Or.inl ⟨hk.2, rfl⟩, fun i9 hi9 => ?_⟩⟩, hS1, hL.ext (Ext.set hw2), hT5.ext (Ext.set hw2)⟩
    · simpa only [ed0, ed1, Nat.add_zero] using k
    · show (va_cpy f1 f2 x4.toNatClampNeg x2.toNatClampNeg x1.toNatClampNeg i9).toInt = cpy sg k1 x4.toInt k2 x2.toInt x1.toInt k2 i9
      unfold va_cpy cpy
      by_cases hj : x2.toNatClampNeg ≤ i9 ∧ i9 < x2.toNatClampNeg + x1.toNatClampNeg
      · rw [if_pos hj, if_pos ⟨rfl, by omega, by omega⟩, hf1 _ (by omega)]
        congr 1
        omega
      · rw [if_neg hj, if_neg (fun q => hj ⟨by omega, by omega⟩)]
        exact hf2 i9 hi9
theorem tsw_in {d : Int} : ∀ (l : List Int) (lo a : Int) (i : Nat) (t : Int), a = lo + i → l[i]? = some t → tsw a d l lo = t.toNat
  | [], _, _, _, _, _, h => by cases h
  | x :: l, lo, a, 0, t, ha, h => by
    cases h
    unfold tsw
    rw [if_pos (by omega)]
  | x :: l, lo, a, i + 1, t, ha, h => by
    unfold tsw
    rw [if_neg (by omega)]
    exact tsw_in l (lo + 1) a i t (by omega) h
theorem tsw_out {d : Int} : ∀ (l : List Int) (lo a : Int), (a < lo ∨ lo + l.length ≤ a) → tsw a d l lo = d.toNat
  | [], _, _, _ => rfl
  | x :: l, lo, a, h => by
    have hl : (x :: l).length = l.length + 1 := rfl
    unfold tsw
    rw [if_neg (by omega)]
    exact tsw_out l (lo + 1) a (by omega)
theorem r_tsw {cc : ByteArray} {own nm : String} {nL dp : Nat} {law : Bool} {pc len nx : Nat} {dflt lo hi d hi' : Int} {offs ts : Array Int} (hd : decode cc pc = .ok (.tableswitch dflt lo hi offs, len)) (h1 : offs.toList.map (fun o => (pc : Int) + o) = ts.toList) (h2 : ts.toList.all (fun t => decide (0 ≤ t)) = true) (h3 : (pc : Int) + dflt = d) (h4 : 0 ≤ d) (h5 : lo + ts.toList.length = hi + 1) : RowP cc own nm nL dp law pc (.tableswitch d lo hi' ts) nx := by
  intro p l e R s m args below meth c Q b D A H locs ws sg ls st la sa cells slots F hsc hW hS hL hT hbud q hq
  obtain ⟨hx, hcb, hml, hown, hts, hfr, hlo, hnm, hnw⟩ := F
  simp only [stp, uI] at hq
  split at hq
  case h_2 => cases hq
  next a0 r =>
  obtain ⟨x, xs2, rfl, e2, hT2⟩ := hT.i
  subst e2
  cases hq
  refine ⟨rfl, fun K => ?_⟩
  by_cases ho : x.toInt < lo ∨ hi < x.toInt
  · have k := K _ _ hL hT2
    rw [show (tsw x.toInt d ts.toList lo, ls, r, sg).1 = d.toNat from tsw_out _ _ _ (by omega)] at k
    exact lv_tableOut hx hcb hd ho (by omega) k
  · have hlen : offs.toList.length = ts.toList.length := by rw [← h1, List.length_map]
    obtain ⟨o, ho1⟩ : ∃ o, offs.toList[(x.toInt - lo).toNat]? = some o := ⟨_, List.getElem?_eq_getElem (by omega)⟩
    have ht1 : ts.toList[(x.toInt - lo).toNat]? = some ((pc : Int) + o) := by rw [← h1, List.getElem?_map, ho1]; rfl
    have hge := List.all_eq_true.mp h2 _ (List.mem_of_getElem? ht1)
    have hge : 0 ≤ (pc : Int) + o := of_decide_eq_true hge
    have k := K _ _ hL hT2
    rw [show (tsw x.toInt d ts.toList lo, ls, r, sg).1 = ((pc : Int) + o).toNat from tsw_in _ _ _ _ _ (by omega) ht1] at k
    refine lv_tableIn hx hcb hd (by omega) (by omega) (off := o) (by rw [← Array.getElem?_toList]; exact ho1) (by omega) k
theorem lsw_ok {pc : Nat} {dflt d : Int} (hd : (pc : Int) + dflt = d) (h0 : 0 ≤ d) (a : Int) : ∀ (l l' : List (Int × Int)), l.map (fun q => (q.1, (pc : Int) + q.2)) = l' → l'.all (fun q => decide (0 ≤ q.2)) = true → (pc : Int) + Op.lookupswitch.offset l dflt a = (lsw a d l' : Int)
  | [], l', h, _ => by
    subst h
    rw [Op.lookupswitch.offset_nil]
    show _ = (d.toNat : Int)
    omega
  | (k, o) :: l, l', h, hall => by
    subst h
    rw [Op.lookupswitch.offset_cons]
    simp only [List.map_cons, List.all_cons, Bool.and_eq_true, decide_eq_true_eq] at hall
    simp only [List.map_cons, lsw]
    by_cases hk : a = k
    · subst hk
      simp
      omega
    · rw [if_neg hk]
      have hk2 : ¬ k = a := fun q => hk q.symm
      first
        | rw [if_neg hk]; exact lsw_ok hd h0 a l _ rfl hall.2
        | rw [if_neg hk2]; exact lsw_ok hd h0 a l _ rfl hall.2
theorem r_lsw {cc : ByteArray} {own nm : String} {nL dp : Nat} {law : Bool} {pc len nx : Nat} {dflt d : Int} {ps qs : Array (Int × Int)} (hd : decode cc pc = .ok (.lookupswitch dflt ps, len)) (hp : (ps.toList.zip (ps.toList.drop 1)).all (fun (a, next) => a.1 < next.1) = true) (h1 : ps.toList.map (fun q => (q.1, (pc : Int) + q.2)) = qs.toList) (h2 : qs.toList.all (fun q => decide (0 ≤ q.2)) = true) (h3 : (pc : Int) + dflt = d) (h4 : 0 ≤ d) : RowP cc own nm nL dp law pc (.lookupswitch d qs) nx := by
  intro p l e R s m args below meth c Q b D A H locs ws sg ls st la sa cells slots F hsc hW hS hL hT hbud q hq
  obtain ⟨hx, hcb, hml, hown, hts, hfr, hlo, hnm, hnw⟩ := F
  simp only [stp, uI] at hq
  split at hq
  case h_2 => cases hq
  next a0 r =>
  obtain ⟨x, xs2, rfl, e2, hT2⟩ := hT.i
  subst e2
  cases hq
  refine ⟨rfl, fun K => lv_lookup hx hcb hd hp rfl (lsw_ok h3 h4 x.toInt _ _ h1 h2) ?_⟩
  exact K _ _ hL hT2
/-! calls -/
theorem g_ok {l : List Cond} (h : ∀ w ∈ l, w ∈ Gtbl) : GoodIn Gtbl l := fun w hw => ⟨h w hw, good_of_word (List.mem_filter.mp (h w hw)).2⟩
/-- a call's row: the callee's contract, run from here -/
def CalOk (cc : ByteArray) (own : String) (nL pc : Nat) (kind : Nat) (y : MethodName) (bytes : ByteArray) (mx : Nat) (ret : Option FieldType) : Prop :=
  ∀ (p : Program) (l : Launch) (e : Env) (R : Room) (s : State) (m : MethodId) (args : Array Value) (below : List Frame) (meth : Method) (c : Code) (H : Heap) (locs : List Loc) (cells slots : Nat) (rm : Room) (Pc : Array Value → State → Prop) (Qc : Array Value → State → Outcome → State → Prop) (mc ms : Nat) (free : Addr → Prop) (As rest : List Value) (la : Array Slot),
    CallFix p m c cc nL s args Gtbl own → NW s → Met l y (Cond.code y bytes mx ret :: Gtbl) rm Pc Qc mc ms free → rm.cells = mc → rm.slots = ms → rm.frames + 1 ≤ R.frames → 8 + (mx + 11) + rm.locals ≤ R.locals → FrameBlind Pc →
    (kind = 0 → ∃ (b : Nat) (As' : List Value) (cellB : Cell), As = .ref b :: As' ∧ H[b]? = some cellB ∧ cellB.vm.isStatics = false ∧ s.vm.findClass y.cls = some cellB.cls) → (kind = 2 → ∃ (b : Nat) (As' : List Value), As = .ref b :: As') →
    (∀ U : State, U.heap = H → s.WarmedH U.vm → Pc As.toArray U) → (parseMethodDescriptor y.desc).map (fun d => d.parameters.length) = some (if kind = 1 then As.length else As.length - 1) → la.size = nL → (rest.map fun v => v.category).sum ≤ 8 → cells + mc ≤ R.cells ∧ slots + ms ≤ R.slots →
    va_Run p l e R s m args below meth c H locs cells slots mc ms (F0 m pc la (As.reverse ++ rest)) rest (Qc As.toArray) free
theorem c_V {cc : ByteArray} {own : String} {nL pc idx : Nat} {y : MethodName} {bytes : ByteArray} {mx : Nat} {ret : Option FieldType} (hd : decode cc pc = .ok (.invokevirtual idx, 3)) (h1 : Cond.methodLink own idx y ∈ Gtbl) (h2 : Cond.instanceMethod y ∈ Gtbl) (h3 : Cond.selects y.cls y y ∈ Gtbl) (h4 : Cond.initialized y.cls ∈ Gtbl) (h5 : Cond.code y bytes mx ret ∈ Gtbl) (h6 : y.cls ≠ "java/lang/invoke/MethodHandle" ∧ y.cls ≠ "java/lang/invoke/VarHandle") : CalOk cc own nL pc 0 y bytes mx ret := by
  intro p l e R s m args below meth c H locs cells slots rm Pc Qc mc ms free As rest la S hnw hM hrc hrs hfr hlo hbl hr0 hr2 hpc hn hla hw hbud
  obtain ⟨b, As', cellB, rfl, g1, g2, g3⟩ := hr0 rfl
  have hst : (Value.ref b :: As').reverse ++ rest = As'.reverse ++ .ref b :: rest := by simp
  rw [hst]
  exact va_runV S hM (cwV As'.length S.2.2.2.2 (g_ok (by
    intro w hw
    rcases List.mem_append.mp hw with hw | hw
    · simp only [List.mem_cons, List.not_mem_nil, or_false] at hw
      rcases hw with rfl | rfl | rfl | rfl
      · exact h1
      · exact h2
      · exact h3
      · exact h4
    · rcases List.mem_cons.mp hw with rfl | hw
      · exact h5
      · exact hw)) rfl hrc hrs ⟨rfl, h6.1, h6.2, by simpa using hn⟩ ⟨hfr, hlo⟩) ⟨hbl, ⟨cellB, g1, g2, g3⟩, hpc⟩ rfl rfl hla rfl (by show 2 * 0 + _ ≤ 8; omega) hd hbud
theorem c_S {cc : ByteArray} {own : String} {nL pc idx : Nat} {y : MethodName} {bytes : ByteArray} {mx : Nat} {ret : Option FieldType} (hd : decode cc pc = .ok (.invokestatic idx, 3)) (h1 : Cond.methodLink own idx y ∈ Gtbl) (h2 : Cond.static y ∈ Gtbl) (h4 : Cond.initialized y.cls ∈ Gtbl) (h5 : Cond.code y bytes mx ret ∈ Gtbl) (h6 : y.cls ≠ "java/lang/invoke/MethodHandle" ∧ y.cls ≠ "java/lang/invoke/VarHandle") : CalOk cc own nL pc 1 y bytes mx ret := by
  intro p l e R s m args below meth c H locs cells slots rm Pc Qc mc ms free As rest la S hnw hM hrc hrs hfr hlo hbl hr0 hr2 hpc hn hla hw hbud
  exact va_runS S hM (va_cwS As.length S.2.2.2.2 (g_ok (by
    intro w hw
    rcases List.mem_append.mp hw with hw | hw
    · simp only [List.mem_cons, List.not_mem_nil, or_false] at hw
      rcases hw with rfl | rfl | rfl
      · exact h1
      · exact h2
      · exact h4
    · rcases List.mem_cons.mp hw with rfl | hw
      · exact h5
      · exact hw)) rfl hrc hrs ⟨h6.1, h6.2, by simpa using hn⟩ ⟨hfr, hlo⟩) ⟨hbl, hpc⟩ rfl rfl hla rfl (by show 2 * 0 + _ ≤ 8; omega) hd hbud
theorem c_SN {cc : ByteArray} {own host : String} {nL pc idx : Nat} {y : MethodName} {bytes : ByteArray} {mx : Nat} {ret : Option FieldType} (hd : decode cc pc = .ok (.invokestatic idx, 3)) (h1 : Cond.methodLinkNest own idx y host ∈ Ntbl) (h2 : Cond.static y ∈ Gtbl) (h4 : Cond.initialized y.cls ∈ Gtbl) (h5 : Cond.code y bytes mx ret ∈ Gtbl) (h6 : y.cls ≠ "java/lang/invoke/MethodHandle" ∧ y.cls ≠ "java/lang/invoke/VarHandle") : CalOk cc own nL pc 1 y bytes mx ret := by
  intro p l e R s m args below meth c H locs cells slots rm Pc Qc mc ms free As rest la S hnw hM hrc hrs hfr hlo hbl hr0 hr2 hpc hn hla hw hbud
  exact va_runSN S hM ⟨va_cnB As.length S.2.2.2.2 (g_ok (by
    intro w hw
    rcases List.mem_cons.mp hw with rfl | hw
    · exact h5
    · exact hw)) rfl hrc hrs (hnw.1 _ h1) (S.2.2.2.2 _ h4) ⟨h6.1, h6.2, by simpa using hn⟩ ⟨hfr, hlo⟩, S.2.2.2.2 _ h2, trivial⟩ ⟨hbl, hpc⟩ rfl rfl hla rfl (by show 2 * 0 + _ ≤ 8; omega) hd hbud
theorem c_I {cc : ByteArray} {own : String} {nL pc idx : Nat} {y : MethodName} {bytes : ByteArray} {mx : Nat} (hd : decode cc pc = .ok (.invokespecial idx, 3)) (h1 : Cond.methodLink own idx y ∈ Gtbl) (h2 : Cond.instanceMethod y ∈ Gtbl) (h4 : Cond.initialized y.cls ∈ Gtbl) (h5 : Cond.code y bytes mx none ∈ Gtbl) (h6 : y.cls ≠ "java/lang/invoke/MethodHandle" ∧ y.cls ≠ "java/lang/invoke/VarHandle") (h7 : y.name = "<init>") : CalOk cc own nL pc 2 y bytes mx none := by
  intro p l e R s m args below meth c H locs cells slots rm Pc Qc mc ms free As rest la S hnw hM hrc hrs hfr hlo hbl hr0 hr2 hpc hn hla hw hbud
  obtain ⟨b, As', rfl⟩ := hr2 rfl
  have hst : (Value.ref b :: As').reverse ++ rest = As'.reverse ++ .ref b :: rest := by simp
  rw [hst]
  exact va_runI S hM (cwI As'.length S.2.2.2.2 (g_ok (by
    intro w hw
    rcases List.mem_cons.mp hw with rfl | hw
    · exact h5
    · exact hw)) rfl hrc hrs (S.2.2.2.2 _ h4) (S.2.2.2.2 _ h1) (S.2.2.2.2 _ h2) h7 ⟨h6.1, h6.2, by simpa using hn⟩ ⟨hfr, hlo⟩) ⟨hbl, hpc⟩ rfl rfl hla rfl (by show 2 * 0 + _ ≤ 8; omega) hd hbud
theorem c_IN {cc : ByteArray} {own host : String} {nL pc idx : Nat} {y : MethodName} {bytes : ByteArray} {mx : Nat} (hd : decode cc pc = .ok (.invokespecial idx, 3)) (h1 : Cond.methodLinkNest own idx y host ∈ Ntbl) (h2 : Cond.instanceMethod y ∈ Gtbl) (h4 : Cond.initialized y.cls ∈ Gtbl) (h5 : Cond.code y bytes mx none ∈ Gtbl) (h6 : y.cls ≠ "java/lang/invoke/MethodHandle" ∧ y.cls ≠ "java/lang/invoke/VarHandle") (h7 : y.name = "<init>") : CalOk cc own nL pc 2 y bytes mx none := by
  intro p l e R s m args below meth c H locs cells slots rm Pc Qc mc ms free As rest la S hnw hM hrc hrs hfr hlo hbl hr0 hr2 hpc hn hla hw hbud
  obtain ⟨b, As', rfl⟩ := hr2 rfl
  have hst : (Value.ref b :: As').reverse ++ rest = As'.reverse ++ .ref b :: rest := by simp
  rw [hst]
  exact va_runIN S hM ⟨va_cnB As'.length S.2.2.2.2 (g_ok (by
    intro w hw
    rcases List.mem_cons.mp hw with rfl | hw
    · exact h5
    · exact hw)) rfl hrc hrs (hnw.1 _ h1) (S.2.2.2.2 _ h4) ⟨h6.1, h6.2, by simpa using hn⟩ ⟨hfr, hlo⟩, h7, S.2.2.2.2 _ h2⟩ ⟨hbl, hpc⟩ rfl rfl hla rfl (by show 2 * 0 + _ ≤ 8; omega) hd hbud

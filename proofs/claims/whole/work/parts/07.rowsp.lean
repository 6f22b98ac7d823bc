theorem r_iadd {cc : ByteArray} {own nm : String} {nL dp : Nat} {law : Bool} {pc : Nat} (hd : decode cc pc = .ok (.iadd, 1)) : RowP cc own nm nL dp law pc .iadd (pc + 1) := by
  intro p l e R s m args below meth c Q b D A H locs ws sg ls st la sa cells slots F hsc hW hS hL hT hbud q hq
  obtain ⟨hx, hcb, hml, hown, hts, hfr, hlo, hnm, hnw⟩ := F
  simp only [stp, bI] at hq
  split at hq
  · next b0 a0 r =>
    obtain ⟨y, xs1, rfl, e1, hT1⟩ := hT.i
    obtain ⟨x, xs2, rfl, e2, hT2⟩ := hT1.i
    subst e1; subst e2
    cases hq
    refine ⟨rfl, fun K => lv_iadd hx hcb hd ?_⟩
    exact K _ _ hL ⟨⟨x + y, rfl, Int32.toInt_add x y⟩, hT2⟩
  · cases hq

theorem r_isub {cc : ByteArray} {own nm : String} {nL dp : Nat} {law : Bool} {pc : Nat} (hd : decode cc pc = .ok (.isub, 1)) : RowP cc own nm nL dp law pc .isub (pc + 1) := by
  intro p l e R s m args below meth c Q b D A H locs ws sg ls st la sa cells slots F hsc hW hS hL hT hbud q hq
  obtain ⟨hx, hcb, hml, hown, hts, hfr, hlo, hnm, hnw⟩ := F
  simp only [stp, bI] at hq
  split at hq
  · next b0 a0 r =>
    obtain ⟨y, xs1, rfl, e1, hT1⟩ := hT.i
    obtain ⟨x, xs2, rfl, e2, hT2⟩ := hT1.i
    subst e1; subst e2
    cases hq
    refine ⟨rfl, fun K => lv_isub hx hcb hd ?_⟩
    exact K _ _ hL ⟨⟨x - y, rfl, Int32.toInt_sub x y⟩, hT2⟩
  · cases hq

theorem r_imul {cc : ByteArray} {own nm : String} {nL dp : Nat} {law : Bool} {pc : Nat} (hd : decode cc pc = .ok (.imul, 1)) : RowP cc own nm nL dp law pc .imul (pc + 1) := by
  intro p l e R s m args below meth c Q b D A H locs ws sg ls st la sa cells slots F hsc hW hS hL hT hbud q hq
  obtain ⟨hx, hcb, hml, hown, hts, hfr, hlo, hnm, hnw⟩ := F
  simp only [stp, bI] at hq
  split at hq
  · next b0 a0 r =>
    obtain ⟨y, xs1, rfl, e1, hT1⟩ := hT.i
    obtain ⟨x, xs2, rfl, e2, hT2⟩ := hT1.i
    subst e1; subst e2
    cases hq
    refine ⟨rfl, fun K => lv_imul hx hcb hd ?_⟩
    exact K _ _ hL ⟨⟨x * y, rfl, Int32.toInt_mul x y⟩, hT2⟩
  · cases hq

theorem r_ladd {cc : ByteArray} {own nm : String} {nL dp : Nat} {law : Bool} {pc : Nat} (hd : decode cc pc = .ok (.ladd, 1)) : RowP cc own nm nL dp law pc .ladd (pc + 1) := by
  intro p l e R s m args below meth c Q b D A H locs ws sg ls st la sa cells slots F hsc hW hS hL hT hbud q hq
  obtain ⟨hx, hcb, hml, hown, hts, hfr, hlo, hnm, hnw⟩ := F
  simp only [stp, bL] at hq
  split at hq
  · next b0 a0 r =>
    obtain ⟨y, xs1, rfl, e1, hT1⟩ := hT.l
    obtain ⟨x, xs2, rfl, e2, hT2⟩ := hT1.l
    subst e1; subst e2
    cases hq
    refine ⟨rfl, fun K => lv_ladd hx hcb hd ?_⟩
    exact K _ _ hL ⟨⟨x + y, rfl, Int64.toInt_add x y⟩, hT2⟩
  · cases hq

theorem r_lsub {cc : ByteArray} {own nm : String} {nL dp : Nat} {law : Bool} {pc : Nat} (hd : decode cc pc = .ok (.lsub, 1)) : RowP cc own nm nL dp law pc .lsub (pc + 1) := by
  intro p l e R s m args below meth c Q b D A H locs ws sg ls st la sa cells slots F hsc hW hS hL hT hbud q hq
  obtain ⟨hx, hcb, hml, hown, hts, hfr, hlo, hnm, hnw⟩ := F
  simp only [stp, bL] at hq
  split at hq
  · next b0 a0 r =>
    obtain ⟨y, xs1, rfl, e1, hT1⟩ := hT.l
    obtain ⟨x, xs2, rfl, e2, hT2⟩ := hT1.l
    subst e1; subst e2
    cases hq
    refine ⟨rfl, fun K => lv_lsub hx hcb hd ?_⟩
    exact K _ _ hL ⟨⟨x - y, rfl, Int64.toInt_sub x y⟩, hT2⟩
  · cases hq

theorem r_lmul {cc : ByteArray} {own nm : String} {nL dp : Nat} {law : Bool} {pc : Nat} (hd : decode cc pc = .ok (.lmul, 1)) : RowP cc own nm nL dp law pc .lmul (pc + 1) := by
  intro p l e R s m args below meth c Q b D A H locs ws sg ls st la sa cells slots F hsc hW hS hL hT hbud q hq
  obtain ⟨hx, hcb, hml, hown, hts, hfr, hlo, hnm, hnw⟩ := F
  simp only [stp, bL] at hq
  split at hq
  · next b0 a0 r =>
    obtain ⟨y, xs1, rfl, e1, hT1⟩ := hT.l
    obtain ⟨x, xs2, rfl, e2, hT2⟩ := hT1.l
    subst e1; subst e2
    cases hq
    refine ⟨rfl, fun K => lv_lmul hx hcb hd ?_⟩
    exact K _ _ hL ⟨⟨x * y, rfl, Int64.toInt_mul x y⟩, hT2⟩
  · cases hq

theorem r_iand {cc : ByteArray} {own nm : String} {nL dp : Nat} {law : Bool} {pc : Nat} (hd : decode cc pc = .ok (.iand, 1)) : RowP cc own nm nL dp law pc .iand (pc + 1) := by
  intro p l e R s m args below meth c Q b D A H locs ws sg ls st la sa cells slots F hsc hW hS hL hT hbud q hq
  obtain ⟨hx, hcb, hml, hown, hts, hfr, hlo, hnm, hnw⟩ := F
  simp only [stp, bI] at hq
  split at hq
  · next b0 a0 r =>
    obtain ⟨y, xs1, rfl, e1, hT1⟩ := hT.i
    obtain ⟨x, xs2, rfl, e2, hT2⟩ := hT1.i
    subst e1; subst e2
    cases hq
    refine ⟨rfl, fun K => lv_iand hx hcb hd ?_⟩
    exact K _ _ hL ⟨⟨x &&& y, rfl, by simp only [iandA, Int32.ofInt_toInt]⟩, hT2⟩
  · cases hq

theorem r_ior {cc : ByteArray} {own nm : String} {nL dp : Nat} {law : Bool} {pc : Nat} (hd : decode cc pc = .ok (.ior, 1)) : RowP cc own nm nL dp law pc .ior (pc + 1) := by
  intro p l e R s m args below meth c Q b D A H locs ws sg ls st la sa cells slots F hsc hW hS hL hT hbud q hq
  obtain ⟨hx, hcb, hml, hown, hts, hfr, hlo, hnm, hnw⟩ := F
  simp only [stp, bI] at hq
  split at hq
  · next b0 a0 r =>
    obtain ⟨y, xs1, rfl, e1, hT1⟩ := hT.i
    obtain ⟨x, xs2, rfl, e2, hT2⟩ := hT1.i
    subst e1; subst e2
    cases hq
    refine ⟨rfl, fun K => lv_ior hx hcb hd ?_⟩
    exact K _ _ hL ⟨⟨x ||| y, rfl, by simp only [iorA, Int32.ofInt_toInt]⟩, hT2⟩
  · cases hq

theorem r_ixor {cc : ByteArray} {own nm : String} {nL dp : Nat} {law : Bool} {pc : Nat} (hd : decode cc pc = .ok (.ixor, 1)) : RowP cc own nm nL dp law pc .ixor (pc + 1) := by
  intro p l e R s m args below meth c Q b D A H locs ws sg ls st la sa cells slots F hsc hW hS hL hT hbud q hq
  obtain ⟨hx, hcb, hml, hown, hts, hfr, hlo, hnm, hnw⟩ := F
  simp only [stp, bI] at hq
  split at hq
  · next b0 a0 r =>
    obtain ⟨y, xs1, rfl, e1, hT1⟩ := hT.i
    obtain ⟨x, xs2, rfl, e2, hT2⟩ := hT1.i
    subst e1; subst e2
    cases hq
    refine ⟨rfl, fun K => lv_ixor hx hcb hd ?_⟩
    exact K _ _ hL ⟨⟨x ^^^ y, rfl, by simp only [ixorA, Int32.ofInt_toInt]⟩, hT2⟩
  · cases hq

theorem r_land {cc : ByteArray} {own nm : String} {nL dp : Nat} {law : Bool} {pc : Nat} (hd : decode cc pc = .ok (.land, 1)) : RowP cc own nm nL dp law pc .land (pc + 1) := by
  intro p l e R s m args below meth c Q b D A H locs ws sg ls st la sa cells slots F hsc hW hS hL hT hbud q hq
  obtain ⟨hx, hcb, hml, hown, hts, hfr, hlo, hnm, hnw⟩ := F
  simp only [stp, bL] at hq
  split at hq
  · next b0 a0 r =>
    obtain ⟨y, xs1, rfl, e1, hT1⟩ := hT.l
    obtain ⟨x, xs2, rfl, e2, hT2⟩ := hT1.l
    subst e1; subst e2
    cases hq
    refine ⟨rfl, fun K => lv_land hx hcb hd ?_⟩
    exact K _ _ hL ⟨⟨x &&& y, rfl, by simp only [landA, Int64.ofInt_toInt]⟩, hT2⟩
  · cases hq

theorem r_lor {cc : ByteArray} {own nm : String} {nL dp : Nat} {law : Bool} {pc : Nat} (hd : decode cc pc = .ok (.lor, 1)) : RowP cc own nm nL dp law pc .lor (pc + 1) := by
  intro p l e R s m args below meth c Q b D A H locs ws sg ls st la sa cells slots F hsc hW hS hL hT hbud q hq
  obtain ⟨hx, hcb, hml, hown, hts, hfr, hlo, hnm, hnw⟩ := F
  simp only [stp, bL] at hq
  split at hq
  · next b0 a0 r =>
    obtain ⟨y, xs1, rfl, e1, hT1⟩ := hT.l
    obtain ⟨x, xs2, rfl, e2, hT2⟩ := hT1.l
    subst e1; subst e2
    cases hq
    refine ⟨rfl, fun K => lv_lor hx hcb hd ?_⟩
    exact K _ _ hL ⟨⟨x ||| y, rfl, by simp only [lorA, Int64.ofInt_toInt]⟩, hT2⟩
  · cases hq

theorem r_ishl {cc : ByteArray} {own nm : String} {nL dp : Nat} {law : Bool} {pc : Nat} (hd : decode cc pc = .ok (.ishl, 1)) : RowP cc own nm nL dp law pc .ishl (pc + 1) := by
  intro p l e R s m args below meth c Q b D A H locs ws sg ls st la sa cells slots F hsc hW hS hL hT hbud q hq
  obtain ⟨hx, hcb, hml, hown, hts, hfr, hlo, hnm, hnw⟩ := F
  simp only [stp, bI] at hq
  split at hq
  · next b0 a0 r =>
    obtain ⟨y, xs1, rfl, e1, hT1⟩ := hT.i
    obtain ⟨x, xs2, rfl, e2, hT2⟩ := hT1.i
    subst e1; subst e2
    cases hq
    refine ⟨rfl, fun K => lv_ishl hx hcb hd ?_⟩
    exact K _ _ hL ⟨⟨x <<< (y &&& 31), rfl, by simp only [ishlA, Int32.ofInt_toInt]⟩, hT2⟩
  · cases hq

theorem r_ishr {cc : ByteArray} {own nm : String} {nL dp : Nat} {law : Bool} {pc : Nat} (hd : decode cc pc = .ok (.ishr, 1)) : RowP cc own nm nL dp law pc .ishr (pc + 1) := by
  intro p l e R s m args below meth c Q b D A H locs ws sg ls st la sa cells slots F hsc hW hS hL hT hbud q hq
  obtain ⟨hx, hcb, hml, hown, hts, hfr, hlo, hnm, hnw⟩ := F
  simp only [stp, bI] at hq
  split at hq
  · next b0 a0 r =>
    obtain ⟨y, xs1, rfl, e1, hT1⟩ := hT.i
    obtain ⟨x, xs2, rfl, e2, hT2⟩ := hT1.i
    subst e1; subst e2
    cases hq
    refine ⟨rfl, fun K => lv_ishr hx hcb hd ?_⟩
    exact K _ _ hL ⟨⟨x >>> (y &&& 31), rfl, by simp only [ishrA, Int32.ofInt_toInt]⟩, hT2⟩
  · cases hq

theorem r_lshl {cc : ByteArray} {own nm : String} {nL dp : Nat} {law : Bool} {pc : Nat} (hd : decode cc pc = .ok (.lshl, 1)) : RowP cc own nm nL dp law pc .lshl (pc + 1) := by
  intro p l e R s m args below meth c Q b D A H locs ws sg ls st la sa cells slots F hsc hW hS hL hT hbud q hq
  obtain ⟨hx, hcb, hml, hown, hts, hfr, hlo, hnm, hnw⟩ := F
  simp only [stp, sL] at hq
  split at hq
  · next b0 a0 r =>
    obtain ⟨y, xs1, rfl, e1, hT1⟩ := hT.i
    obtain ⟨x, xs2, rfl, e2, hT2⟩ := hT1.l
    subst e1; subst e2
    cases hq
    refine ⟨rfl, fun K => lv_lshl hx hcb hd rfl ?_⟩
    exact K _ _ hL ⟨⟨_, rfl, by simp only [lshlA, Int32.ofInt_toInt, Int64.ofInt_toInt]⟩, hT2⟩
  · cases hq

theorem r_lshr {cc : ByteArray} {own nm : String} {nL dp : Nat} {law : Bool} {pc : Nat} (hd : decode cc pc = .ok (.lshr, 1)) : RowP cc own nm nL dp law pc .lshr (pc + 1) := by
  intro p l e R s m args below meth c Q b D A H locs ws sg ls st la sa cells slots F hsc hW hS hL hT hbud q hq
  obtain ⟨hx, hcb, hml, hown, hts, hfr, hlo, hnm, hnw⟩ := F
  simp only [stp, sL] at hq
  split at hq
  · next b0 a0 r =>
    obtain ⟨y, xs1, rfl, e1, hT1⟩ := hT.i
    obtain ⟨x, xs2, rfl, e2, hT2⟩ := hT1.l
    subst e1; subst e2
    cases hq
    refine ⟨rfl, fun K => lv_lshr hx hcb hd rfl ?_⟩
    exact K _ _ hL ⟨⟨_, rfl, by simp only [lshrA, Int32.ofInt_toInt, Int64.ofInt_toInt]⟩, hT2⟩
  · cases hq

theorem r_lushr {cc : ByteArray} {own nm : String} {nL dp : Nat} {law : Bool} {pc : Nat} (hd : decode cc pc = .ok (.lushr, 1)) : RowP cc own nm nL dp law pc .lushr (pc + 1) := by
  intro p l e R s m args below meth c Q b D A H locs ws sg ls st la sa cells slots F hsc hW hS hL hT hbud q hq
  obtain ⟨hx, hcb, hml, hown, hts, hfr, hlo, hnm, hnw⟩ := F
  simp only [stp, sL] at hq
  split at hq
  · next b0 a0 r =>
    obtain ⟨y, xs1, rfl, e1, hT1⟩ := hT.i
    obtain ⟨x, xs2, rfl, e2, hT2⟩ := hT1.l
    subst e1; subst e2
    cases hq
    refine ⟨rfl, fun K => lv_lushr hx hcb hd rfl ?_⟩
    exact K _ _ hL ⟨⟨_, rfl, by simp only [lushrA, Int32.ofInt_toInt, Int64.ofInt_toInt]⟩, hT2⟩
  · cases hq

theorem z32_ne {y : Int32} (h : y.toInt ≠ 0) : ¬ y = 0 := fun e => h (by rw [e]; rfl)
theorem z64_ne {y : Int64} (h : y.toInt ≠ 0) : ¬ y = 0 := fun e => h (by rw [e]; rfl)
theorem rem_bm {n : Nat} (hn : 0 < n) {a b : Int} (h1 : -(n : Int) ≤ 2 * a) (h2 : 2 * a < n) : Int.bmod (a - Int.bmod (Int.bmod (Int.tdiv a b) n * b) n) n = Int.tmod a b := by
  have e1 : Int.bmod (a - Int.bmod (Int.bmod (Int.tdiv a b) n * b) n) n = Int.bmod (a - Int.tdiv a b * b) n := by
    rw [Int.sub_bmod_bmod, ← Int.sub_bmod_bmod (x := a) (y := Int.bmod (Int.tdiv a b) n * b), Int.bmod_mul_bmod, Int.sub_bmod_bmod]
  have e2 : a - Int.tdiv a b * b = Int.tmod a b := by
    have := Int.mul_tdiv_add_tmod a b
    rw [Int.mul_comm] at this
    omega
  rw [e1, e2]
  have hb : (Int.tmod a b).natAbs ≤ a.natAbs := by
    rw [Int.natAbs_tmod]
    exact Nat.mod_le _ _
  have hs : (0 ≤ a → 0 ≤ Int.tmod a b) ∧ (a ≤ 0 → Int.tmod a b ≤ 0) := by
    refine ⟨fun h => Int.tmod_nonneg b h, fun h => ?_⟩
    have h2 := Int.tmod_nonneg b (show 0 ≤ -a by omega)
    rw [Int.neg_tmod] at h2
    omega
  apply Int.bmod_eq_of_le
  · omega
  · omega
theorem rem32 (x y : Int32) : (x - x / y * y).toInt = remA x.toInt y.toInt := by
  rw [Int32.toInt_sub, Int32.toInt_mul, Int32.toInt_div]
  have h1 := Int32.le_toInt x
  have h2 := Int32.toInt_lt x
  exact rem_bm (by decide) (by omega) (by omega)
theorem rem64 (x y : Int64) : (x - x / y * y).toInt = remA x.toInt y.toInt := by
  rw [Int64.toInt_sub, Int64.toInt_mul, Int64.toInt_div]
  have h1 := Int64.le_toInt x
  have h2 := Int64.toInt_lt x
  exact rem_bm (by decide) (by omega) (by omega)

theorem r_idiv {cc : ByteArray} {own nm : String} {nL dp : Nat} {law : Bool} {pc : Nat} (hd : decode cc pc = .ok (.idiv, 1)) : RowP cc own nm nL dp law pc .idiv (pc + 1) := by
  intro p l e R s m args below meth c Q b D A H locs ws sg ls st la sa cells slots F hsc hW hS hL hT hbud q hq
  obtain ⟨hx, hcb, hml, hown, hts, hfr, hlo, hnm, hnw⟩ := F
  simp only [stp, bI] at hq
  split at hq
  · next b0 a0 r =>
    obtain ⟨y, xs1, rfl, e1, hT1⟩ := hT.i
    obtain ⟨x, xs2, rfl, e2, hT2⟩ := hT1.i
    subst e1; subst e2
    unfold grd at hq
    split at hq
    · next hg =>
      have hg : ¬ y = 0 := z32_ne hg
      cases hq
      refine ⟨rfl, fun K => lv_idiv hx hcb hd hg ?_⟩
      exact K _ _ hL ⟨⟨x / y, rfl, Int32.toInt_div x y⟩, hT2⟩
    · cases hq
  · cases hq

theorem r_ldiv {cc : ByteArray} {own nm : String} {nL dp : Nat} {law : Bool} {pc : Nat} (hd : decode cc pc = .ok (.ldiv, 1)) : RowP cc own nm nL dp law pc .ldiv (pc + 1) := by
  intro p l e R s m args below meth c Q b D A H locs ws sg ls st la sa cells slots F hsc hW hS hL hT hbud q hq
  obtain ⟨hx, hcb, hml, hown, hts, hfr, hlo, hnm, hnw⟩ := F
  simp only [stp, bL] at hq
  split at hq
  · next b0 a0 r =>
    obtain ⟨y, xs1, rfl, e1, hT1⟩ := hT.l
    obtain ⟨x, xs2, rfl, e2, hT2⟩ := hT1.l
    subst e1; subst e2
    unfold grd at hq
    split at hq
    · next hg =>
      have hg : ¬ y = 0 := z64_ne hg
      cases hq
      refine ⟨rfl, fun K => lv_ldiv hx hcb hd hg ?_⟩
      exact K _ _ hL ⟨⟨x / y, rfl, Int64.toInt_div x y⟩, hT2⟩
    · cases hq
  · cases hq

theorem r_irem {cc : ByteArray} {own nm : String} {nL dp : Nat} {law : Bool} {pc : Nat} (hd : decode cc pc = .ok (.irem, 1)) : RowP cc own nm nL dp law pc .irem (pc + 1) := by
  intro p l e R s m args below meth c Q b D A H locs ws sg ls st la sa cells slots F hsc hW hS hL hT hbud q hq
  obtain ⟨hx, hcb, hml, hown, hts, hfr, hlo, hnm, hnw⟩ := F
  simp only [stp, bI] at hq
  split at hq
  · next b0 a0 r =>
    obtain ⟨y, xs1, rfl, e1, hT1⟩ := hT.i
    obtain ⟨x, xs2, rfl, e2, hT2⟩ := hT1.i
    subst e1; subst e2
    unfold grd at hq
    split at hq
    · next hg =>
      have hg : ¬ y = 0 := z32_ne hg
      cases hq
      refine ⟨rfl, fun K => lv_irem hx hcb hd hg ?_⟩
      exact K _ _ hL ⟨⟨_, rfl, rem32 x y⟩, hT2⟩
    · cases hq
  · cases hq

theorem r_lrem {cc : ByteArray} {own nm : String} {nL dp : Nat} {law : Bool} {pc : Nat} (hd : decode cc pc = .ok (.lrem, 1)) : RowP cc own nm nL dp law pc .lrem (pc + 1) := by
  intro p l e R s m args below meth c Q b D A H locs ws sg ls st la sa cells slots F hsc hW hS hL hT hbud q hq
  obtain ⟨hx, hcb, hml, hown, hts, hfr, hlo, hnm, hnw⟩ := F
  simp only [stp, bL] at hq
  split at hq
  · next b0 a0 r =>
    obtain ⟨y, xs1, rfl, e1, hT1⟩ := hT.l
    obtain ⟨x, xs2, rfl, e2, hT2⟩ := hT1.l
    subst e1; subst e2
    unfold grd at hq
    split at hq
    · next hg =>
      have hg : ¬ y = 0 := z64_ne hg
      cases hq
      refine ⟨rfl, fun K => lv_lrem hx hcb hd hg ?_⟩
      exact K _ _ hL ⟨⟨_, rfl, rem64 x y⟩, hT2⟩
    · cases hq
  · cases hq

theorem cmpL_lg (x y : Int64) : (lg_cmp x y).toInt = cmpL x.toInt y.toInt := by
  unfold lg_cmp cmpL
  by_cases h1 : y < x
  · rw [if_pos h1, if_pos (Int64.lt_iff_toInt_lt.mp h1)]; rfl
  · rw [if_neg h1, if_neg (fun h => h1 (Int64.lt_iff_toInt_lt.mpr h))]
    by_cases h2 : x = y
    · rw [if_pos h2, if_pos (by rw [h2])]; rfl
    · rw [if_neg h2, if_neg (fun h => h2 (Int64.toInt_inj.mp h))]; rfl

theorem r_lcmp {cc : ByteArray} {own nm : String} {nL dp : Nat} {law : Bool} {pc : Nat} (hd : decode cc pc = .ok (.lcmp, 1)) : RowP cc own nm nL dp law pc .lcmp (pc + 1) := by
  intro p l e R s m args below meth c Q b D A H locs ws sg ls st la sa cells slots F hsc hW hS hL hT hbud q hq
  obtain ⟨hx, hcb, hml, hown, hts, hfr, hlo, hnm, hnw⟩ := F
  simp only [stp, bL] at hq
  split at hq
  · next b0 a0 r =>
    obtain ⟨y, xs1, rfl, e1, hT1⟩ := hT.l
    obtain ⟨x, xs2, rfl, e2, hT2⟩ := hT1.l
    subst e1; subst e2
    cases hq
    refine ⟨rfl, fun K => W.lcmp hx hcb hd ?_⟩
    exact K _ _ hL ⟨⟨_, rfl, cmpL_lg x y⟩, hT2⟩
  · cases hq

theorem r_i2l {cc : ByteArray} {own nm : String} {nL dp : Nat} {law : Bool} {pc : Nat} (hd : decode cc pc = .ok (.i2l, 1)) : RowP cc own nm nL dp law pc .i2l (pc + 1) := by
  intro p l e R s m args below meth c Q b D A H locs ws sg ls st la sa cells slots F hsc hW hS hL hT hbud q hq
  obtain ⟨hx, hcb, hml, hown, hts, hfr, hlo, hnm, hnw⟩ := F
  simp only [stp, uI] at hq
  split at hq
  · next a0 r =>
    obtain ⟨x, xs1, rfl, e1, hT1⟩ := hT.i
    subst e1
    cases hq
    refine ⟨rfl, fun K => lv_i2l hx hcb hd rfl ?_⟩
    exact K _ _ hL ⟨⟨_, rfl, Int32.toInt_toInt64 x⟩, hT1⟩
  · cases hq

theorem r_l2i {cc : ByteArray} {own nm : String} {nL dp : Nat} {law : Bool} {pc : Nat} (hd : decode cc pc = .ok (.l2i, 1)) : RowP cc own nm nL dp law pc .l2i (pc + 1) := by
  intro p l e R s m args below meth c Q b D A H locs ws sg ls st la sa cells slots F hsc hW hS hL hT hbud q hq
  obtain ⟨hx, hcb, hml, hown, hts, hfr, hlo, hnm, hnw⟩ := F
  simp only [stp, uL] at hq
  split at hq
  · next a0 r =>
    obtain ⟨x, xs1, rfl, e1, hT1⟩ := hT.l
    subst e1
    cases hq
    refine ⟨rfl, fun K => lv_l2i hx hcb hd rfl ?_⟩
    exact K _ _ hL ⟨⟨_, rfl, Int64.toInt_toInt32 x⟩, hT1⟩
  · cases hq

theorem r_lneg {cc : ByteArray} {own nm : String} {nL dp : Nat} {law : Bool} {pc : Nat} (hd : decode cc pc = .ok (.lneg, 1)) : RowP cc own nm nL dp law pc .lneg (pc + 1) := by
  intro p l e R s m args below meth c Q b D A H locs ws sg ls st la sa cells slots F hsc hW hS hL hT hbud q hq
  obtain ⟨hx, hcb, hml, hown, hts, hfr, hlo, hnm, hnw⟩ := F
  simp only [stp, uL] at hq
  split at hq
  · next a0 r =>
    obtain ⟨x, xs1, rfl, e1, hT1⟩ := hT.l
    subst e1
    cases hq
    refine ⟨rfl, fun K => lv_lneg hx hcb hd ?_⟩
    exact K _ _ hL ⟨⟨_, rfl, Int64.toInt_neg x⟩, hT1⟩
  · cases hq

theorem r_iconst {cc : ByteArray} {own nm : String} {nL dp : Nat} {law : Bool} {pc : Nat} {z : Int} (hd : decode cc pc = .ok (.iconst z, 1)) (hz : (Int32.ofInt z).toInt = z) : RowP cc own nm nL dp law pc (.iconst z) (pc + 1) := by
  intro p l e R s m args below meth c Q b D A H locs ws sg ls st la sa cells slots F hsc hW hS hL hT hbud q hq
  obtain ⟨hx, hcb, hml, hown, hts, hfr, hlo, hnm, hnw⟩ := F
  cases hq
  refine ⟨rfl, fun K => lv_iconst hx hcb hd rfl ?_⟩
  exact K _ _ hL ⟨⟨_, rfl, hz⟩, hT⟩

theorem r_bipush {cc : ByteArray} {own nm : String} {nL dp : Nat} {law : Bool} {pc : Nat} {z : Int} (hd : decode cc pc = .ok (.bipush z, 2)) (hz : ((Int8.ofInt z).toInt32).toInt = z) : RowP cc own nm nL dp law pc (.iconst z) (pc + 2) := by
  intro p l e R s m args below meth c Q b D A H locs ws sg ls st la sa cells slots F hsc hW hS hL hT hbud q hq
  obtain ⟨hx, hcb, hml, hown, hts, hfr, hlo, hnm, hnw⟩ := F
  cases hq
  refine ⟨rfl, fun K => lv_bipush hx hcb hd rfl ?_⟩
  exact K _ _ hL ⟨⟨_, rfl, hz⟩, hT⟩

theorem r_sipush {cc : ByteArray} {own nm : String} {nL dp : Nat} {law : Bool} {pc : Nat} {z : Int} (hd : decode cc pc = .ok (.sipush z, 3)) (hz : ((Int16.ofInt z).toInt32).toInt = z) : RowP cc own nm nL dp law pc (.iconst z) (pc + 3) := by
  intro p l e R s m args below meth c Q b D A H locs ws sg ls st la sa cells slots F hsc hW hS hL hT hbud q hq
  obtain ⟨hx, hcb, hml, hown, hts, hfr, hlo, hnm, hnw⟩ := F
  cases hq
  refine ⟨rfl, fun K => lv_sipush hx hcb hd rfl ?_⟩
  exact K _ _ hL ⟨⟨_, rfl, hz⟩, hT⟩

theorem r_lconst {cc : ByteArray} {own nm : String} {nL dp : Nat} {law : Bool} {pc : Nat} {z : Fin 2} {w : Int} (hd : decode cc pc = .ok (.lconst z, 1)) (hz : (Int64.ofNat (z : Nat)).toInt = w) : RowP cc own nm nL dp law pc (.sipush w) (pc + 1) := by
  intro p l e R s m args below meth c Q b D A H locs ws sg ls st la sa cells slots F hsc hW hS hL hT hbud q hq
  obtain ⟨hx, hcb, hml, hown, hts, hfr, hlo, hnm, hnw⟩ := F
  cases hq
  refine ⟨rfl, fun K => lv_lconst hx hcb hd rfl ?_⟩
  exact K _ _ hL ⟨⟨_, rfl, hz⟩, hT⟩

theorem r_ldc {cc : ByteArray} {own nm : String} {nL dp : Nat} {law : Bool} {pc : Nat} {index : Nat} {v : Int32} {w : Int} (hc : Cond.constant own index v ∈ Gtbl) (hd : decode cc pc = .ok (.ldc index, 2)) (hz : v.toInt = w) : RowP cc own nm nL dp law pc (.iconst w) (pc + 2) := by
  intro p l e R s m args below meth c Q b D A H locs ws sg ls st la sa cells slots F hsc hW hS hL hT hbud q hq
  obtain ⟨hx, hcb, hml, hown, hts, hfr, hlo, hnm, hnw⟩ := F
  cases hq
  refine ⟨rfl, fun K => lv_ldc hx hcb hown (hts _ hc) hd ?_⟩
  exact K _ _ hL ⟨⟨_, rfl, hz⟩, hT⟩

theorem r_ldcw {cc : ByteArray} {own nm : String} {nL dp : Nat} {law : Bool} {pc : Nat} {index : Nat} {v : Int32} {w : Int} (hc : Cond.constant own index v ∈ Gtbl) (hd : decode cc pc = .ok (.ldc_w index, 3)) (hz : v.toInt = w) : RowP cc own nm nL dp law pc (.iconst w) (pc + 3) := by
  intro p l e R s m args below meth c Q b D A H locs ws sg ls st la sa cells slots F hsc hW hS hL hT hbud q hq
  obtain ⟨hx, hcb, hml, hown, hts, hfr, hlo, hnm, hnw⟩ := F
  cases hq
  refine ⟨rfl, fun K => lv_ldcw hx hcb hown (hts _ hc) hd ?_⟩
  exact K _ _ hL ⟨⟨_, rfl, hz⟩, hT⟩

theorem r_ldc2 {cc : ByteArray} {own nm : String} {nL dp : Nat} {law : Bool} {pc : Nat} {index : Nat} {v : Int64} {w : Int} (hc : Cond.constantLong own index v ∈ Gtbl) (hd : decode cc pc = .ok (.ldc2_w index, 3)) (hz : v.toInt = w) : RowP cc own nm nL dp law pc (.sipush w) (pc + 3) := by
  intro p l e R s m args below meth c Q b D A H locs ws sg ls st la sa cells slots F hsc hW hS hL hT hbud q hq
  obtain ⟨hx, hcb, hml, hown, hts, hfr, hlo, hnm, hnw⟩ := F
  cases hq
  refine ⟨rfl, fun K => lv_ldc2 hx hcb hown (hts _ hc) hd ?_⟩
  exact K _ _ hL ⟨⟨_, rfl, hz⟩, hT⟩

theorem r_iload_n {cc : ByteArray} {own nm : String} {nL dp : Nat} {law : Bool} {pc : Nat} {k : Fin 4} {i : Nat} (hd : decode cc pc = .ok (.iload_n k, 1)) (hk : (k : Nat) = i) : RowP cc own nm nL dp law pc (.iload i) (pc + 1) := by
  intro p l e R s m args below meth c Q b D A H locs ws sg ls st la sa cells slots F hsc hW hS hL hT hbud q hq
  obtain ⟨hx, hcb, hml, hown, hts, hfr, hlo, hnm, hnw⟩ := F
  simp only [stp] at hq
  split at hq
  · next a0 h =>
    cases hq
    obtain ⟨x, e1, ⟨y, rfl, e2⟩⟩ := hL.get h (by simp [aU])
    refine ⟨rfl, fun K => lv_iload_n hx hcb hd hk e1 ?_⟩
    exact K _ _ hL ⟨⟨y, rfl, e2⟩, hT⟩
  · cases hq

theorem r_iload {cc : ByteArray} {own nm : String} {nL dp : Nat} {law : Bool} {pc : Nat} {i : Nat} (hd : decode cc pc = .ok (.iload i, 2)) : RowP cc own nm nL dp law pc (.iload i) (pc + 2) := by
  intro p l e R s m args below meth c Q b D A H locs ws sg ls st la sa cells slots F hsc hW hS hL hT hbud q hq
  obtain ⟨hx, hcb, hml, hown, hts, hfr, hlo, hnm, hnw⟩ := F
  simp only [stp] at hq
  split at hq
  · next a0 h =>
    cases hq
    obtain ⟨x, e1, ⟨y, rfl, e2⟩⟩ := hL.get h (by simp [aU])
    refine ⟨rfl, fun K => lv_iload hx hcb hd e1 ?_⟩
    exact K _ _ hL ⟨⟨y, rfl, e2⟩, hT⟩
  · cases hq

theorem r_lload_n {cc : ByteArray} {own nm : String} {nL dp : Nat} {law : Bool} {pc : Nat} {k : Fin 4} {i : Nat} (hd : decode cc pc = .ok (.lload_n k, 1)) (hk : (k : Nat) = i) : RowP cc own nm nL dp law pc (.lload i) (pc + 1) := by
  intro p l e R s m args below meth c Q b D A H locs ws sg ls st la sa cells slots F hsc hW hS hL hT hbud q hq
  obtain ⟨hx, hcb, hml, hown, hts, hfr, hlo, hnm, hnw⟩ := F
  simp only [stp] at hq
  split at hq
  · next a0 h =>
    cases hq
    obtain ⟨x, e1, ⟨y, rfl, e2⟩⟩ := hL.get h (by simp [aU])
    refine ⟨rfl, fun K => lv_lload_n hx hcb hd hk e1 ?_⟩
    exact K _ _ hL ⟨⟨y, rfl, e2⟩, hT⟩
  · cases hq

theorem r_lload {cc : ByteArray} {own nm : String} {nL dp : Nat} {law : Bool} {pc : Nat} {i : Nat} (hd : decode cc pc = .ok (.lload i, 2)) : RowP cc own nm nL dp law pc (.lload i) (pc + 2) := by
  intro p l e R s m args below meth c Q b D A H locs ws sg ls st la sa cells slots F hsc hW hS hL hT hbud q hq
  obtain ⟨hx, hcb, hml, hown, hts, hfr, hlo, hnm, hnw⟩ := F
  simp only [stp] at hq
  split at hq
  · next a0 h =>
    cases hq
    obtain ⟨x, e1, ⟨y, rfl, e2⟩⟩ := hL.get h (by simp [aU])
    refine ⟨rfl, fun K => lv_lload hx hcb hd e1 ?_⟩
    exact K _ _ hL ⟨⟨y, rfl, e2⟩, hT⟩
  · cases hq

theorem r_aload_n {cc : ByteArray} {own nm : String} {nL dp : Nat} {law : Bool} {pc : Nat} {k : Fin 4} {i : Nat} (hd : decode cc pc = .ok (.aload_n k, 1)) (hk : (k : Nat) = i) : RowP cc own nm nL dp law pc (.aload i) (pc + 1) := by
  intro p l e R s m args below meth c Q b D A H locs ws sg ls st la sa cells slots F hsc hW hS hL hT hbud q hq
  obtain ⟨hx, hcb, hml, hown, hts, hfr, hlo, hnm, hnw⟩ := F
  simp only [stp] at hq
  split at hq
  · next a0 h =>
    cases hq
    obtain ⟨x, e1, ⟨y, rfl, e2⟩⟩ := hL.get h (by simp [aU])
    refine ⟨rfl, fun K => lv_aload_n hx hcb hd hk e1 ?_⟩
    exact K _ _ hL ⟨⟨y, rfl, e2⟩, hT⟩
  · cases hq

theorem r_aload {cc : ByteArray} {own nm : String} {nL dp : Nat} {law : Bool} {pc : Nat} {i : Nat} (hd : decode cc pc = .ok (.aload i, 2)) : RowP cc own nm nL dp law pc (.aload i) (pc + 2) := by
  intro p l e R s m args below meth c Q b D A H locs ws sg ls st la sa cells slots F hsc hW hS hL hT hbud q hq
  obtain ⟨hx, hcb, hml, hown, hts, hfr, hlo, hnm, hnw⟩ := F
  simp only [stp] at hq
  split at hq
  · next a0 h =>
    cases hq
    obtain ⟨x, e1, ⟨y, rfl, e2⟩⟩ := hL.get h (by simp [aU])
    refine ⟨rfl, fun K => lv_aload hx hcb hd e1 ?_⟩
    exact K _ _ hL ⟨⟨y, rfl, e2⟩, hT⟩
  · cases hq

theorem r_istore_n {cc : ByteArray} {own nm : String} {nL dp : Nat} {law : Bool} {pc : Nat} {k : Fin 4} {i : Nat} (hd : decode cc pc = .ok (.istore_n k, 1)) (hk : (k : Nat) = i) : RowP cc own nm nL dp law pc (.istore i) (pc + 1) := by
  intro p l e R s m args below meth c Q b D A H locs ws sg ls st la sa cells slots F hsc hW hS hL hT hbud q hq
  obtain ⟨hx, hcb, hml, hown, hts, hfr, hlo, hnm, hnw⟩ := F
  subst hk
  simp only [stp, uI] at hq
  split at hq
  · next a0 r =>
    obtain ⟨x, xs1, rfl, e1, hT1⟩ := hT.i
    subst e1
    obtain ⟨l1, h1, rfl⟩ := Option.map_eq_some_iff.mp hq
    obtain ⟨g1, g2, rfl⟩ := sto1_spec h1
    obtain ⟨h0, lv, h3, h4⟩ := hL
    refine ⟨rfl, fun K => lv_istore_n hx hcb hd rfl h3 (by omega) rfl (fun la' hla => ?_)⟩
    exact K _ _ (RLo.put1 h0 h4 g1 g2 (RV.i x) la' hla) hT1
  · cases hq

theorem r_istore {cc : ByteArray} {own nm : String} {nL dp : Nat} {law : Bool} {pc : Nat} {i : Nat} (hd : decode cc pc = .ok (.istore i, 2)) : RowP cc own nm nL dp law pc (.istore i) (pc + 2) := by
  intro p l e R s m args below meth c Q b D A H locs ws sg ls st la sa cells slots F hsc hW hS hL hT hbud q hq
  obtain ⟨hx, hcb, hml, hown, hts, hfr, hlo, hnm, hnw⟩ := F
  simp only [stp, uI] at hq
  split at hq
  · next a0 r =>
    obtain ⟨x, xs1, rfl, e1, hT1⟩ := hT.i
    subst e1
    obtain ⟨l1, h1, rfl⟩ := Option.map_eq_some_iff.mp hq
    obtain ⟨g1, g2, rfl⟩ := sto1_spec h1
    obtain ⟨h0, lv, h3, h4⟩ := hL
    refine ⟨rfl, fun K => lv_istore hx hcb hd h3 (by omega) rfl (fun la' hla => ?_)⟩
    exact K _ _ (RLo.put1 h0 h4 g1 g2 (RV.i x) la' hla) hT1
  · cases hq

theorem r_lstore_n {cc : ByteArray} {own nm : String} {nL dp : Nat} {law : Bool} {pc : Nat} {k : Fin 4} {i : Nat} (hd : decode cc pc = .ok (.lstore_n k, 1)) (hk : (k : Nat) = i) : RowP cc own nm nL dp law pc (.lstore i) (pc + 1) := by
  intro p l e R s m args below meth c Q b D A H locs ws sg ls st la sa cells slots F hsc hW hS hL hT hbud q hq
  obtain ⟨hx, hcb, hml, hown, hts, hfr, hlo, hnm, hnw⟩ := F
  subst hk
  simp only [stp, uL] at hq
  split at hq
  · next a0 r =>
    obtain ⟨x, xs1, rfl, e1, hT1⟩ := hT.l
    subst e1
    obtain ⟨l1, h1, rfl⟩ := Option.map_eq_some_iff.mp hq
    obtain ⟨g1, g2, rfl⟩ := sto2_spec h1
    obtain ⟨h0, lv, h3, h4⟩ := hL
    refine ⟨rfl, fun K => lv_lstore_n hx hcb hd rfl h3 (by omega) rfl (fun la' hla => ?_)⟩
    exact K _ _ (RLo.put2 h0 h4 g1 g2 (RV.l x) la' hla) hT1
  · cases hq

theorem r_lstore {cc : ByteArray} {own nm : String} {nL dp : Nat} {law : Bool} {pc : Nat} {i : Nat} (hd : decode cc pc = .ok (.lstore i, 2)) : RowP cc own nm nL dp law pc (.lstore i) (pc + 2) := by
  intro p l e R s m args below meth c Q b D A H locs ws sg ls st la sa cells slots F hsc hW hS hL hT hbud q hq
  obtain ⟨hx, hcb, hml, hown, hts, hfr, hlo, hnm, hnw⟩ := F
  simp only [stp, uL] at hq
  split at hq
  · next a0 r =>
    obtain ⟨x, xs1, rfl, e1, hT1⟩ := hT.l
    subst e1
    obtain ⟨l1, h1, rfl⟩ := Option.map_eq_some_iff.mp hq
    obtain ⟨g1, g2, rfl⟩ := sto2_spec h1
    obtain ⟨h0, lv, h3, h4⟩ := hL
    refine ⟨rfl, fun K => lv_lstore hx hcb hd h3 (by omega) rfl (fun la' hla => ?_)⟩
    exact K _ _ (RLo.put2 h0 h4 g1 g2 (RV.l x) la' hla) hT1
  · cases hq

theorem r_astore_n {cc : ByteArray} {own nm : String} {nL dp : Nat} {law : Bool} {pc : Nat} {k : Fin 4} {i : Nat} (hd : decode cc pc = .ok (.astore_n k, 1)) (hk : (k : Nat) = i) : RowP cc own nm nL dp law pc (.astore i) (pc + 1) := by
  intro p l e R s m args below meth c Q b D A H locs ws sg ls st la sa cells slots F hsc hW hS hL hT hbud q hq
  obtain ⟨hx, hcb, hml, hown, hts, hfr, hlo, hnm, hnw⟩ := F
  subst hk
  simp only [stp, uA] at hq
  split at hq
  · next a0 r =>
    obtain ⟨x, xs1, rfl, e1, hT1⟩ := hT.a
    obtain ⟨l1, h1, rfl⟩ := Option.map_eq_some_iff.mp hq
    obtain ⟨g1, g2, rfl⟩ := sto1_spec h1
    obtain ⟨h0, lv, h3, h4⟩ := hL
    refine ⟨rfl, fun K => lv_astore_n hx hcb hd rfl h3 (by omega) rfl (fun la' hla => ?_)⟩
    exact K _ _ (RLo.put1 h0 h4 g1 g2 e1 la' hla) hT1
  · cases hq

theorem r_astore {cc : ByteArray} {own nm : String} {nL dp : Nat} {law : Bool} {pc : Nat} {i : Nat} (hd : decode cc pc = .ok (.astore i, 2)) : RowP cc own nm nL dp law pc (.astore i) (pc + 2) := by
  intro p l e R s m args below meth c Q b D A H locs ws sg ls st la sa cells slots F hsc hW hS hL hT hbud q hq
  obtain ⟨hx, hcb, hml, hown, hts, hfr, hlo, hnm, hnw⟩ := F
  simp only [stp, uA] at hq
  split at hq
  · next a0 r =>
    obtain ⟨x, xs1, rfl, e1, hT1⟩ := hT.a
    obtain ⟨l1, h1, rfl⟩ := Option.map_eq_some_iff.mp hq
    obtain ⟨g1, g2, rfl⟩ := sto1_spec h1
    obtain ⟨h0, lv, h3, h4⟩ := hL
    refine ⟨rfl, fun K => lv_astore hx hcb hd h3 (by omega) rfl (fun la' hla => ?_)⟩
    exact K _ _ (RLo.put1 h0 h4 g1 g2 e1 la' hla) hT1
  · cases hq

theorem r_iinc {cc : ByteArray} {own nm : String} {nL dp : Nat} {law : Bool} {pc : Nat} {i : Nat} {n : Int} (hd : decode cc pc = .ok (.iinc i n, 3)) (hn : (Int32.ofInt n).toInt = n) : RowP cc own nm nL dp law pc (.iinc i n) (pc + 3) := by
  intro p l e R s m args below meth c Q b D A H locs ws sg ls st la sa cells slots F hsc hW hS hL hT hbud q hq
  obtain ⟨hx, hcb, hml, hown, hts, hfr, hlo, hnm, hnw⟩ := F
  simp only [stp] at hq
  split at hq
  · next a0 h =>
    obtain ⟨l1, h1, rfl⟩ := Option.map_eq_some_iff.mp hq
    obtain ⟨g1, g2, rfl⟩ := sto1_spec h1
    obtain ⟨h0, lv, h3, h4⟩ := hL
    obtain ⟨x, e1, ⟨y, rfl, e2⟩⟩ := h4 i _ h (by simp [aU])
    subst e2
    obtain ⟨k, hk⟩ := List.getElem?_of_mem e1
    refine ⟨rfl, fun K => lv_iinc hx hcb hd h3 hk rfl (by omega) rfl (fun la' hla => ?_)⟩
    exact K _ _ (RLo.put1 (v := aI (w32 (y.toInt + n))) (x := .int (y + Int32.ofInt n)) h0 h4 g1 g2 ⟨_, rfl, by rw [Int32.toInt_add, hn]; rfl⟩ la' hla) hT
  · cases hq

theorem r_dup {cc : ByteArray} {own nm : String} {nL dp : Nat} {law : Bool} {pc : Nat} (hd : decode cc pc = .ok (.dup, 1)) : RowP cc own nm nL dp law pc .dup (pc + 1) := by
  intro p l e R s m args below meth c Q b D A H locs ws sg ls st la sa cells slots F hsc hW hS hL hT hbud q hq
  obtain ⟨hx, hcb, hml, hown, hts, hfr, hlo, hnm, hnw⟩ := F
  simp only [stp] at hq
  split at hq
  · next v r =>
    split at hq
    · next hc =>
      cases hq
      obtain ⟨x, xs, rfl, hv, hT1⟩ := hT.cons
      refine ⟨rfl, fun K => lv_dup hx hcb hd (RSt.cat1 hv hc) ?_⟩
      exact K _ _ hL ⟨hv, hv, hT1⟩
    · cases hq
  · cases hq

theorem r_dup2 {cc : ByteArray} {own nm : String} {nL dp : Nat} {law : Bool} {pc : Nat} (hd : decode cc pc = .ok (.dup2, 1)) : RowP cc own nm nL dp law pc .dup2 (pc + 1) := by
  intro p l e R s m args below meth c Q b D A H locs ws sg ls st la sa cells slots F hsc hW hS hL hT hbud q hq
  obtain ⟨hx, hcb, hml, hown, hts, hfr, hlo, hnm, hnw⟩ := F
  simp only [stp] at hq
  split at hq
  · next v w r =>
    split at hq
    · next hc =>
      cases hq
      simp only [Bool.and_eq_true] at hc
      obtain ⟨x, xs, rfl, hv, hT1⟩ := hT.cons
      obtain ⟨y, ys, rfl, hw, hT2⟩ := hT1.cons
      refine ⟨rfl, fun K => lv_dup2_11 hx hcb hd (RSt.cat1 hv hc.1) (RSt.cat1 hw hc.2) ?_⟩
      exact K _ _ hL ⟨hv, hw, hv, hw, hT2⟩
    · cases hq
  · cases hq

theorem r_pop {cc : ByteArray} {own nm : String} {nL dp : Nat} {law : Bool} {pc : Nat} (hd : decode cc pc = .ok (.pop, 1)) : RowP cc own nm nL dp law pc .pop (pc + 1) := by
  intro p l e R s m args below meth c Q b D A H locs ws sg ls st la sa cells slots F hsc hW hS hL hT hbud q hq
  obtain ⟨hx, hcb, hml, hown, hts, hfr, hlo, hnm, hnw⟩ := F
  simp only [stp] at hq
  split at hq
  · next v r =>
    split at hq
    · next hc =>
      cases hq
      obtain ⟨x, xs, rfl, hv, hT1⟩ := hT.cons
      refine ⟨rfl, fun K => lv_pop hx hcb hd (RSt.cat1 hv hc) ?_⟩
      exact K _ _ hL hT1
    · cases hq
  · cases hq

theorem r_pop2 {cc : ByteArray} {own nm : String} {nL dp : Nat} {law : Bool} {pc : Nat} (hd : decode cc pc = .ok (.pop2, 1)) : RowP cc own nm nL dp law pc .pop2 (pc + 1) := by
  intro p l e R s m args below meth c Q b D A H locs ws sg ls st la sa cells slots F hsc hW hS hL hT hbud q hq
  obtain ⟨hx, hcb, hml, hown, hts, hfr, hlo, hnm, hnw⟩ := F
  simp only [stp, uL] at hq
  split at hq
  · next v r =>
    cases hq
    obtain ⟨x, xs, rfl, hv, hT1⟩ := hT.l
    refine ⟨rfl, fun K => lv_pop2_2 hx hcb hd rfl ?_⟩
    exact K _ _ hL hT1
  · cases hq

theorem r_goto {cc : ByteArray} {own nm : String} {nL dp : Nat} {law : Bool} {pc : Nat} {off t : Int} (hd : decode cc pc = .ok (.goto off, 3)) (ht : (pc : Int) + off = (t.toNat : Int)) : RowP cc own nm nL dp law pc (.goto t) (pc + 3) := by
  intro p l e R s m args below meth c Q b D A H locs ws sg ls st la sa cells slots F hsc hW hS hL hT hbud q hq
  obtain ⟨hx, hcb, hml, hown, hts, hfr, hlo, hnm, hnw⟩ := F
  cases hq
  refine ⟨rfl, fun K => lv_goto hx hcb hd ht ?_⟩
  exact K _ _ hL hT

theorem r_icmp_eq {cc : ByteArray} {own nm : String} {nL dp : Nat} {law : Bool} {pc : Nat} {off t : Int} (hd : decode cc pc = .ok (.if_icmp .eq off, 3)) (ht : (pc : Int) + off = (t.toNat : Int)) : RowP cc own nm nL dp law pc (.if_icmp .eq t) (pc + 3) := by
  intro p l e R s m args below meth c Q b D A H locs ws sg ls st la sa cells slots F hsc hW hS hL hT hbud q hq
  obtain ⟨hx, hcb, hml, hown, hts, hfr, hlo, hnm, hnw⟩ := F
  simp only [stp, bI] at hq
  split at hq
  · next b0 a0 r =>
    obtain ⟨y, xs1, rfl, e1, hT1⟩ := hT.i
    obtain ⟨x, xs2, rfl, e2, hT2⟩ := hT1.i
    subst e1; subst e2
    cases hq
    refine ⟨rfl, fun K => lv_icmp_eq hx hcb hd ht (fun h => ?_) (fun h => ?_)⟩
    · have k := K _ _ hL hT2
      have e : sel2 .eq x.toInt y.toInt t.toNat (pc + 3) = t.toNat := if_pos (by rw [h])
      rw [e] at k
      exact k
    · have k := K _ _ hL hT2
      have e : sel2 .eq x.toInt y.toInt t.toNat (pc + 3) = pc + 3 := if_neg (fun q => h (Int32.toInt_inj.mp q))
      rw [e] at k
      exact k
  · cases hq

theorem r_if_eq {cc : ByteArray} {own nm : String} {nL dp : Nat} {law : Bool} {pc : Nat} {off t : Int} (hd : decode cc pc = .ok (.ifCond .eq off, 3)) (ht : (pc : Int) + off = (t.toNat : Int)) : RowP cc own nm nL dp law pc (.ifCond .eq t) (pc + 3) := by
  intro p l e R s m args below meth c Q b D A H locs ws sg ls st la sa cells slots F hsc hW hS hL hT hbud q hq
  obtain ⟨hx, hcb, hml, hown, hts, hfr, hlo, hnm, hnw⟩ := F
  simp only [stp, uI] at hq
  split at hq
  · next a0 r =>
    obtain ⟨x, xs2, rfl, e2, hT2⟩ := hT.i
    subst e2
    cases hq
    obtain ⟨y, hy⟩ : ∃ y : Int32, y = 0 := ⟨0, rfl⟩
    have hz : (0 : Int) = y.toInt := by rw [hy]; rfl
    refine ⟨rfl, fun K => lv_if_eq hx hcb hd ht (fun h => ?_) (fun h => ?_)⟩
    · rw [← hy] at h
      have k := K _ _ hL hT2
      have e : sel2 .eq x.toInt 0 t.toNat (pc + 3) = t.toNat := by rw [hz]; exact if_pos (by rw [h])
      rw [e] at k
      exact k
    · rw [← hy] at h
      have k := K _ _ hL hT2
      have e : sel2 .eq x.toInt 0 t.toNat (pc + 3) = pc + 3 := by rw [hz]; exact if_neg (fun q => h (Int32.toInt_inj.mp q))
      rw [e] at k
      exact k
  · cases hq

theorem r_icmp_ne {cc : ByteArray} {own nm : String} {nL dp : Nat} {law : Bool} {pc : Nat} {off t : Int} (hd : decode cc pc = .ok (.if_icmp .ne off, 3)) (ht : (pc : Int) + off = (t.toNat : Int)) : RowP cc own nm nL dp law pc (.if_icmp .ne t) (pc + 3) := by
  intro p l e R s m args below meth c Q b D A H locs ws sg ls st la sa cells slots F hsc hW hS hL hT hbud q hq
  obtain ⟨hx, hcb, hml, hown, hts, hfr, hlo, hnm, hnw⟩ := F
  simp only [stp, bI] at hq
  split at hq
  · next b0 a0 r =>
    obtain ⟨y, xs1, rfl, e1, hT1⟩ := hT.i
    obtain ⟨x, xs2, rfl, e2, hT2⟩ := hT1.i
    subst e1; subst e2
    cases hq
    refine ⟨rfl, fun K => lv_icmp_ne hx hcb hd ht (fun h => ?_) (fun h => ?_)⟩
    · have k := K _ _ hL hT2
      have e : sel2 .ne x.toInt y.toInt t.toNat (pc + 3) = t.toNat := if_neg (fun q => h (Int32.toInt_inj.mp q))
      rw [e] at k
      exact k
    · have k := K _ _ hL hT2
      have e : sel2 .ne x.toInt y.toInt t.toNat (pc + 3) = pc + 3 := if_pos (by rw [h])
      rw [e] at k
      exact k
  · cases hq

theorem r_if_ne {cc : ByteArray} {own nm : String} {nL dp : Nat} {law : Bool} {pc : Nat} {off t : Int} (hd : decode cc pc = .ok (.ifCond .ne off, 3)) (ht : (pc : Int) + off = (t.toNat : Int)) : RowP cc own nm nL dp law pc (.ifCond .ne t) (pc + 3) := by
  intro p l e R s m args below meth c Q b D A H locs ws sg ls st la sa cells slots F hsc hW hS hL hT hbud q hq
  obtain ⟨hx, hcb, hml, hown, hts, hfr, hlo, hnm, hnw⟩ := F
  simp only [stp, uI] at hq
  split at hq
  · next a0 r =>
    obtain ⟨x, xs2, rfl, e2, hT2⟩ := hT.i
    subst e2
    cases hq
    obtain ⟨y, hy⟩ : ∃ y : Int32, y = 0 := ⟨0, rfl⟩
    have hz : (0 : Int) = y.toInt := by rw [hy]; rfl
    refine ⟨rfl, fun K => lv_if_ne hx hcb hd ht (fun h => ?_) (fun h => ?_)⟩
    · rw [← hy] at h
      have k := K _ _ hL hT2
      have e : sel2 .ne x.toInt 0 t.toNat (pc + 3) = t.toNat := by rw [hz]; exact if_neg (fun q => h (Int32.toInt_inj.mp q))
      rw [e] at k
      exact k
    · rw [← hy] at h
      have k := K _ _ hL hT2
      have e : sel2 .ne x.toInt 0 t.toNat (pc + 3) = pc + 3 := by rw [hz]; exact if_pos (by rw [h])
      rw [e] at k
      exact k
  · cases hq

theorem r_icmp_lt {cc : ByteArray} {own nm : String} {nL dp : Nat} {law : Bool} {pc : Nat} {off t : Int} (hd : decode cc pc = .ok (.if_icmp .lt off, 3)) (ht : (pc : Int) + off = (t.toNat : Int)) : RowP cc own nm nL dp law pc (.if_icmp .lt t) (pc + 3) := by
  intro p l e R s m args below meth c Q b D A H locs ws sg ls st la sa cells slots F hsc hW hS hL hT hbud q hq
  obtain ⟨hx, hcb, hml, hown, hts, hfr, hlo, hnm, hnw⟩ := F
  simp only [stp, bI] at hq
  split at hq
  · next b0 a0 r =>
    obtain ⟨y, xs1, rfl, e1, hT1⟩ := hT.i
    obtain ⟨x, xs2, rfl, e2, hT2⟩ := hT1.i
    subst e1; subst e2
    cases hq
    refine ⟨rfl, fun K => lv_icmp_lt hx hcb hd ht (fun h => ?_) (fun h => ?_)⟩
    · have k := K _ _ hL hT2
      have e : sel2 .lt x.toInt y.toInt t.toNat (pc + 3) = t.toNat := if_pos (Int32.lt_iff_toInt_lt.mp h)
      rw [e] at k
      exact k
    · have k := K _ _ hL hT2
      have e : sel2 .lt x.toInt y.toInt t.toNat (pc + 3) = pc + 3 := if_neg (fun q => h (Int32.lt_iff_toInt_lt.mpr q))
      rw [e] at k
      exact k
  · cases hq

theorem r_if_lt {cc : ByteArray} {own nm : String} {nL dp : Nat} {law : Bool} {pc : Nat} {off t : Int} (hd : decode cc pc = .ok (.ifCond .lt off, 3)) (ht : (pc : Int) + off = (t.toNat : Int)) : RowP cc own nm nL dp law pc (.ifCond .lt t) (pc + 3) := by
  intro p l e R s m args below meth c Q b D A H locs ws sg ls st la sa cells slots F hsc hW hS hL hT hbud q hq
  obtain ⟨hx, hcb, hml, hown, hts, hfr, hlo, hnm, hnw⟩ := F
  simp only [stp, uI] at hq
  split at hq
  · next a0 r =>
    obtain ⟨x, xs2, rfl, e2, hT2⟩ := hT.i
    subst e2
    cases hq
    obtain ⟨y, hy⟩ : ∃ y : Int32, y = 0 := ⟨0, rfl⟩
    have hz : (0 : Int) = y.toInt := by rw [hy]; rfl
    refine ⟨rfl, fun K => lv_if_lt hx hcb hd ht (fun h => ?_) (fun h => ?_)⟩
    · rw [← hy] at h
      have k := K _ _ hL hT2
      have e : sel2 .lt x.toInt 0 t.toNat (pc + 3) = t.toNat := by rw [hz]; exact if_pos (Int32.lt_iff_toInt_lt.mp h)
      rw [e] at k
      exact k
    · rw [← hy] at h
      have k := K _ _ hL hT2
      have e : sel2 .lt x.toInt 0 t.toNat (pc + 3) = pc + 3 := by rw [hz]; exact if_neg (fun q => h (Int32.lt_iff_toInt_lt.mpr q))
      rw [e] at k
      exact k
  · cases hq

theorem r_icmp_ge {cc : ByteArray} {own nm : String} {nL dp : Nat} {law : Bool} {pc : Nat} {off t : Int} (hd : decode cc pc = .ok (.if_icmp .ge off, 3)) (ht : (pc : Int) + off = (t.toNat : Int)) : RowP cc own nm nL dp law pc (.if_icmp .ge t) (pc + 3) := by
  intro p l e R s m args below meth c Q b D A H locs ws sg ls st la sa cells slots F hsc hW hS hL hT hbud q hq
  obtain ⟨hx, hcb, hml, hown, hts, hfr, hlo, hnm, hnw⟩ := F
  simp only [stp, bI] at hq
  split at hq
  · next b0 a0 r =>
    obtain ⟨y, xs1, rfl, e1, hT1⟩ := hT.i
    obtain ⟨x, xs2, rfl, e2, hT2⟩ := hT1.i
    subst e1; subst e2
    cases hq
    refine ⟨rfl, fun K => lv_icmp_ge hx hcb hd ht (fun h => ?_) (fun h => ?_)⟩
    · have k := K _ _ hL hT2
      have e : sel2 .ge x.toInt y.toInt t.toNat (pc + 3) = t.toNat := if_neg (by have := Int32.le_iff_toInt_le.mp h; omega)
      rw [e] at k
      exact k
    · have k := K _ _ hL hT2
      have e : sel2 .ge x.toInt y.toInt t.toNat (pc + 3) = pc + 3 := if_pos (by have h2 : ¬ y.toInt ≤ x.toInt := fun q => h (Int32.le_iff_toInt_le.mpr q); omega)
      rw [e] at k
      exact k
  · cases hq

theorem r_if_ge {cc : ByteArray} {own nm : String} {nL dp : Nat} {law : Bool} {pc : Nat} {off t : Int} (hd : decode cc pc = .ok (.ifCond .ge off, 3)) (ht : (pc : Int) + off = (t.toNat : Int)) : RowP cc own nm nL dp law pc (.ifCond .ge t) (pc + 3) := by
  intro p l e R s m args below meth c Q b D A H locs ws sg ls st la sa cells slots F hsc hW hS hL hT hbud q hq
  obtain ⟨hx, hcb, hml, hown, hts, hfr, hlo, hnm, hnw⟩ := F
  simp only [stp, uI] at hq
  split at hq
  · next a0 r =>
    obtain ⟨x, xs2, rfl, e2, hT2⟩ := hT.i
    subst e2
    cases hq
    obtain ⟨y, hy⟩ : ∃ y : Int32, y = 0 := ⟨0, rfl⟩
    have hz : (0 : Int) = y.toInt := by rw [hy]; rfl
    refine ⟨rfl, fun K => lv_if_ge hx hcb hd ht (fun h => ?_) (fun h => ?_)⟩
    · rw [← hy] at h
      have k := K _ _ hL hT2
      have e : sel2 .ge x.toInt 0 t.toNat (pc + 3) = t.toNat := by rw [hz]; exact if_neg (by have := Int32.le_iff_toInt_le.mp h; omega)
      rw [e] at k
      exact k
    · rw [← hy] at h
      have k := K _ _ hL hT2
      have e : sel2 .ge x.toInt 0 t.toNat (pc + 3) = pc + 3 := by rw [hz]; exact if_pos (by have h2 : ¬ y.toInt ≤ x.toInt := fun q => h (Int32.le_iff_toInt_le.mpr q); omega)
      rw [e] at k
      exact k
  · cases hq

theorem r_icmp_gt {cc : ByteArray} {own nm : String} {nL dp : Nat} {law : Bool} {pc : Nat} {off t : Int} (hd : decode cc pc = .ok (.if_icmp .gt off, 3)) (ht : (pc : Int) + off = (t.toNat : Int)) : RowP cc own nm nL dp law pc (.if_icmp .gt t) (pc + 3) := by
  intro p l e R s m args below meth c Q b D A H locs ws sg ls st la sa cells slots F hsc hW hS hL hT hbud q hq
  obtain ⟨hx, hcb, hml, hown, hts, hfr, hlo, hnm, hnw⟩ := F
  simp only [stp, bI] at hq
  split at hq
  · next b0 a0 r =>
    obtain ⟨y, xs1, rfl, e1, hT1⟩ := hT.i
    obtain ⟨x, xs2, rfl, e2, hT2⟩ := hT1.i
    subst e1; subst e2
    cases hq
    refine ⟨rfl, fun K => lv_icmp_gt hx hcb hd ht (fun h => ?_) (fun h => ?_)⟩
    · have k := K _ _ hL hT2
      have e : sel2 .gt x.toInt y.toInt t.toNat (pc + 3) = t.toNat := if_pos (Int32.lt_iff_toInt_lt.mp h)
      rw [e] at k
      exact k
    · have k := K _ _ hL hT2
      have e : sel2 .gt x.toInt y.toInt t.toNat (pc + 3) = pc + 3 := if_neg (fun q => h (Int32.lt_iff_toInt_lt.mpr q))
      rw [e] at k
      exact k
  · cases hq

theorem r_if_gt {cc : ByteArray} {own nm : String} {nL dp : Nat} {law : Bool} {pc : Nat} {off t : Int} (hd : decode cc pc = .ok (.ifCond .gt off, 3)) (ht : (pc : Int) + off = (t.toNat : Int)) : RowP cc own nm nL dp law pc (.ifCond .gt t) (pc + 3) := by
  intro p l e R s m args below meth c Q b D A H locs ws sg ls st la sa cells slots F hsc hW hS hL hT hbud q hq
  obtain ⟨hx, hcb, hml, hown, hts, hfr, hlo, hnm, hnw⟩ := F
  simp only [stp, uI] at hq
  split at hq
  · next a0 r =>
    obtain ⟨x, xs2, rfl, e2, hT2⟩ := hT.i
    subst e2
    cases hq
    obtain ⟨y, hy⟩ : ∃ y : Int32, y = 0 := ⟨0, rfl⟩
    have hz : (0 : Int) = y.toInt := by rw [hy]; rfl
    refine ⟨rfl, fun K => lv_if_gt hx hcb hd ht (fun h => ?_) (fun h => ?_)⟩
    · rw [← hy] at h
      have k := K _ _ hL hT2
      have e : sel2 .gt x.toInt 0 t.toNat (pc + 3) = t.toNat := by rw [hz]; exact if_pos (Int32.lt_iff_toInt_lt.mp h)
      rw [e] at k
      exact k
    · rw [← hy] at h
      have k := K _ _ hL hT2
      have e : sel2 .gt x.toInt 0 t.toNat (pc + 3) = pc + 3 := by rw [hz]; exact if_neg (fun q => h (Int32.lt_iff_toInt_lt.mpr q))
      rw [e] at k
      exact k
  · cases hq

theorem r_icmp_le {cc : ByteArray} {own nm : String} {nL dp : Nat} {law : Bool} {pc : Nat} {off t : Int} (hd : decode cc pc = .ok (.if_icmp .le off, 3)) (ht : (pc : Int) + off = (t.toNat : Int)) : RowP cc own nm nL dp law pc (.if_icmp .le t) (pc + 3) := by
  intro p l e R s m args below meth c Q b D A H locs ws sg ls st la sa cells slots F hsc hW hS hL hT hbud q hq
  obtain ⟨hx, hcb, hml, hown, hts, hfr, hlo, hnm, hnw⟩ := F
  simp only [stp, bI] at hq
  split at hq
  · next b0 a0 r =>
    obtain ⟨y, xs1, rfl, e1, hT1⟩ := hT.i
    obtain ⟨x, xs2, rfl, e2, hT2⟩ := hT1.i
    subst e1; subst e2
    cases hq
    refine ⟨rfl, fun K => lv_icmp_le hx hcb hd ht (fun h => ?_) (fun h => ?_)⟩
    · have k := K _ _ hL hT2
      have e : sel2 .le x.toInt y.toInt t.toNat (pc + 3) = t.toNat := if_neg (by have := Int32.le_iff_toInt_le.mp h; omega)
      rw [e] at k
      exact k
    · have k := K _ _ hL hT2
      have e : sel2 .le x.toInt y.toInt t.toNat (pc + 3) = pc + 3 := if_pos (by have h2 : ¬ x.toInt ≤ y.toInt := fun q => h (Int32.le_iff_toInt_le.mpr q); omega)
      rw [e] at k
      exact k
  · cases hq

theorem r_if_le {cc : ByteArray} {own nm : String} {nL dp : Nat} {law : Bool} {pc : Nat} {off t : Int} (hd : decode cc pc = .ok (.ifCond .le off, 3)) (ht : (pc : Int) + off = (t.toNat : Int)) : RowP cc own nm nL dp law pc (.ifCond .le t) (pc + 3) := by
  intro p l e R s m args below meth c Q b D A H locs ws sg ls st la sa cells slots F hsc hW hS hL hT hbud q hq
  obtain ⟨hx, hcb, hml, hown, hts, hfr, hlo, hnm, hnw⟩ := F
  simp only [stp, uI] at hq
  split at hq
  · next a0 r =>
    obtain ⟨x, xs2, rfl, e2, hT2⟩ := hT.i
    subst e2
    cases hq
    obtain ⟨y, hy⟩ : ∃ y : Int32, y = 0 := ⟨0, rfl⟩
    have hz : (0 : Int) = y.toInt := by rw [hy]; rfl
    refine ⟨rfl, fun K => lv_if_le hx hcb hd ht (fun h => ?_) (fun h => ?_)⟩
    · rw [← hy] at h
      have k := K _ _ hL hT2
      have e : sel2 .le x.toInt 0 t.toNat (pc + 3) = t.toNat := by rw [hz]; exact if_neg (by have := Int32.le_iff_toInt_le.mp h; omega)
      rw [e] at k
      exact k
    · rw [← hy] at h
      have k := K _ _ hL hT2
      have e : sel2 .le x.toInt 0 t.toNat (pc + 3) = pc + 3 := by rw [hz]; exact if_pos (by have h2 : ¬ x.toInt ≤ y.toInt := fun q => h (Int32.le_iff_toInt_le.mpr q); omega)
      rw [e] at k
      exact k
  · cases hq

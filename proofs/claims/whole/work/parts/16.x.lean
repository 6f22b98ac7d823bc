/-! each instruction as an equation -/
theorem kil_kil : ∀ (ks : List Nat) (ls : List AV), kil ks (kil ks ls) = kil ks ls := by
  have h1 : ∀ (ks : List Nat) (ls : List AV) (i : Nat), ls[i]? = some aU ∨ ls[i]? = none → (kil ks ls)[i]? = some aU ∨ (kil ks ls)[i]? = none := by
    intro ks
    induction ks with
    | nil => intro ls i h; exact h
    | cons k ks ih =>
      intro ls i h
      refine ih _ i ?_
      rw [List.getElem?_set]
      split
      · split
        · exact Or.inl rfl
        · exact Or.inr rfl
      · exact h
  have h2 : ∀ (ks : List Nat) (ls : List AV) (i : Nat), i ∈ ks → (kil ks ls)[i]? = some aU ∨ (kil ks ls)[i]? = none := by
    intro ks
    induction ks with
    | nil => intro ls i h; cases h
    | cons k ks ih =>
      intro ls i h
      rcases List.mem_cons.mp h with rfl | h
      · refine h1 ks _ i ?_
        rw [List.getElem?_set]
        simp only [if_true]
        split
        · exact Or.inl rfl
        · exact Or.inr rfl
      · exact ih _ i h
  have h3 : ∀ (ks : List Nat) (ls : List AV), (∀ i ∈ ks, ls[i]? = some aU ∨ ls[i]? = none) → kil ks ls = ls := by
    intro ks
    induction ks with
    | nil => intro ls _; rfl
    | cons k ks ih =>
      intro ls h
      have e : ls.set k aU = ls := by
        apply List.ext_getElem?
        intro j
        rw [List.getElem?_set]
        split
        · next hj =>
          subst hj
          rcases h k List.mem_cons_self with h | h
          · rw [h]
            have := (List.getElem?_eq_some_iff.mp h).1
            simp [this]
          · rw [h]
            have := List.getElem?_eq_none_iff.mp h
            simp
            omega
        · rfl
      show kil ks (ls.set k aU) = ls
      rw [e]
      exact ih ls (fun i hi => h i (List.mem_cons_of_mem _ hi))
  intro ks ls
  exact h3 ks _ (fun i hi => h2 ks ls i hi)
theorem x_kil {M pc nx : Nat} {ks : List Nat} {ls l2 st : List AV} {s : SG} {ins : ClassFile.Instr} (f : fch M pc = some (ins, nx, ks)) (hk : kil ks ls = l2) : sem M pc ls st s = sem M pc l2 st s := by
  rw [sem_eq f, sem_eq f, ← hk, kil_kil]
theorem x_iconst {M pc nx : Nat} {ks : List Nat} {ls : List AV} {s : SG} {n : Int} {r : List AV} (f : fch M pc = some (.iconst n, nx, ks)) (hk : kil ks ls = ls) : sem M pc ls r s = sem M nx ls (aI n :: r) s := by rw [sem_eq f, hk]; rfl
theorem x_lconst {M pc nx : Nat} {ks : List Nat} {ls : List AV} {s : SG} {n : Int} {r : List AV} (f : fch M pc = some (.sipush n, nx, ks)) (hk : kil ks ls = ls) : sem M pc ls r s = sem M nx ls (aL n :: r) s := by rw [sem_eq f, hk]; rfl
theorem x_iload {M pc nx : Nat} {ks : List Nat} {ls : List AV} {s : SG} {i : Nat} {a : Int} {r : List AV} (f : fch M pc = some (.iload i, nx, ks)) (hk : kil ks ls = ls) (hl : ls[i]? = some (aI a)) : sem M pc ls r s = sem M nx ls (aI a :: r) s := by
  rw [sem_eq f, hk]
  simp only [act, stp, hl]
  rfl
theorem x_lload {M pc nx : Nat} {ks : List Nat} {ls : List AV} {s : SG} {i : Nat} {a : Int} {r : List AV} (f : fch M pc = some (.lload i, nx, ks)) (hk : kil ks ls = ls) (hl : ls[i]? = some (aL a)) : sem M pc ls r s = sem M nx ls (aL a :: r) s := by
  rw [sem_eq f, hk]
  simp only [act, stp, hl]
  rfl
theorem x_aload {M pc nx : Nat} {ks : List Nat} {ls : List AV} {s : SG} {i : Nat} {a : Int} {r : List AV} (f : fch M pc = some (.aload i, nx, ks)) (hk : kil ks ls = ls) (hl : ls[i]? = some (aA a)) : sem M pc ls r s = sem M nx ls (aA a :: r) s := by
  rw [sem_eq f, hk]
  simp only [act, stp, hl]
  rfl
theorem x_istore {M pc nx : Nat} {ks : List Nat} {ls : List AV} {s : SG} {i : Nat} {a : Int} {r l2 : List AV} (f : fch M pc = some (.istore i, nx, ks)) (hk : kil ks ls = ls) (hl : sto1 ls i (aI a) = some l2) : sem M pc ls (aI a :: r) s = sem M nx l2 (r) s := by
  rw [sem_eq f, hk]
  simp only [act, stp, uI, uL, uA, hl]
  rfl
theorem x_lstore {M pc nx : Nat} {ks : List Nat} {ls : List AV} {s : SG} {i : Nat} {a : Int} {r l2 : List AV} (f : fch M pc = some (.lstore i, nx, ks)) (hk : kil ks ls = ls) (hl : sto2 ls i (aL a) = some l2) : sem M pc ls (aL a :: r) s = sem M nx l2 (r) s := by
  rw [sem_eq f, hk]
  simp only [act, stp, uI, uL, uA, hl]
  rfl
theorem x_astore {M pc nx : Nat} {ks : List Nat} {ls : List AV} {s : SG} {i : Nat} {a : Int} {r l2 : List AV} (f : fch M pc = some (.astore i, nx, ks)) (hk : kil ks ls = ls) (hl : sto1 ls i (aA a) = some l2) : sem M pc ls (aA a :: r) s = sem M nx l2 (r) s := by
  rw [sem_eq f, hk]
  simp only [act, stp, uI, uL, uA, hl]
  rfl
theorem x_iinc {M pc nx : Nat} {ks : List Nat} {ls : List AV} {s : SG} {i : Nat} {n a : Int} {r l2 : List AV} (f : fch M pc = some (.iinc i n, nx, ks)) (hk : kil ks ls = ls) (hl : ls[i]? = some (aI a)) (hs : sto1 ls i (aI (w32 (a + n))) = some l2) : sem M pc ls r s = sem M nx l2 (r) s := by
  rw [sem_eq f, hk]
  simp only [act, stp, hl, hs]
  rfl
theorem x_iadd {M pc nx : Nat} {ks : List Nat} {ls : List AV} {s : SG} {a b : Int} {r : List AV} (f : fch M pc = some (.iadd, nx, ks)) (hk : kil ks ls = ls) : sem M pc ls (aI b :: aI a :: r) s = sem M nx ls (aI (w32 (a + b)) :: r) s := by rw [sem_eq f, hk]; rfl
theorem x_isub {M pc nx : Nat} {ks : List Nat} {ls : List AV} {s : SG} {a b : Int} {r : List AV} (f : fch M pc = some (.isub, nx, ks)) (hk : kil ks ls = ls) : sem M pc ls (aI b :: aI a :: r) s = sem M nx ls (aI (w32 (a - b)) :: r) s := by rw [sem_eq f, hk]; rfl
theorem x_imul {M pc nx : Nat} {ks : List Nat} {ls : List AV} {s : SG} {a b : Int} {r : List AV} (f : fch M pc = some (.imul, nx, ks)) (hk : kil ks ls = ls) : sem M pc ls (aI b :: aI a :: r) s = sem M nx ls (aI (w32 (a * b)) :: r) s := by rw [sem_eq f, hk]; rfl
theorem x_iand {M pc nx : Nat} {ks : List Nat} {ls : List AV} {s : SG} {a b : Int} {r : List AV} (f : fch M pc = some (.iand, nx, ks)) (hk : kil ks ls = ls) : sem M pc ls (aI b :: aI a :: r) s = sem M nx ls (aI (iandA a b) :: r) s := by rw [sem_eq f, hk]; rfl
theorem x_ior {M pc nx : Nat} {ks : List Nat} {ls : List AV} {s : SG} {a b : Int} {r : List AV} (f : fch M pc = some (.ior, nx, ks)) (hk : kil ks ls = ls) : sem M pc ls (aI b :: aI a :: r) s = sem M nx ls (aI (iorA a b) :: r) s := by rw [sem_eq f, hk]; rfl
theorem x_ixor {M pc nx : Nat} {ks : List Nat} {ls : List AV} {s : SG} {a b : Int} {r : List AV} (f : fch M pc = some (.ixor, nx, ks)) (hk : kil ks ls = ls) : sem M pc ls (aI b :: aI a :: r) s = sem M nx ls (aI (ixorA a b) :: r) s := by rw [sem_eq f, hk]; rfl
theorem x_ishl {M pc nx : Nat} {ks : List Nat} {ls : List AV} {s : SG} {a b : Int} {r : List AV} (f : fch M pc = some (.ishl, nx, ks)) (hk : kil ks ls = ls) : sem M pc ls (aI b :: aI a :: r) s = sem M nx ls (aI (ishlA a b) :: r) s := by rw [sem_eq f, hk]; rfl
theorem x_ishr {M pc nx : Nat} {ks : List Nat} {ls : List AV} {s : SG} {a b : Int} {r : List AV} (f : fch M pc = some (.ishr, nx, ks)) (hk : kil ks ls = ls) : sem M pc ls (aI b :: aI a :: r) s = sem M nx ls (aI (ishrA a b) :: r) s := by rw [sem_eq f, hk]; rfl
theorem x_ladd {M pc nx : Nat} {ks : List Nat} {ls : List AV} {s : SG} {a b : Int} {r : List AV} (f : fch M pc = some (.ladd, nx, ks)) (hk : kil ks ls = ls) : sem M pc ls (aL b :: aL a :: r) s = sem M nx ls (aL (w64 (a + b)) :: r) s := by rw [sem_eq f, hk]; rfl
theorem x_lsub {M pc nx : Nat} {ks : List Nat} {ls : List AV} {s : SG} {a b : Int} {r : List AV} (f : fch M pc = some (.lsub, nx, ks)) (hk : kil ks ls = ls) : sem M pc ls (aL b :: aL a :: r) s = sem M nx ls (aL (w64 (a - b)) :: r) s := by rw [sem_eq f, hk]; rfl
theorem x_lmul {M pc nx : Nat} {ks : List Nat} {ls : List AV} {s : SG} {a b : Int} {r : List AV} (f : fch M pc = some (.lmul, nx, ks)) (hk : kil ks ls = ls) : sem M pc ls (aL b :: aL a :: r) s = sem M nx ls (aL (w64 (a * b)) :: r) s := by rw [sem_eq f, hk]; rfl
theorem x_land {M pc nx : Nat} {ks : List Nat} {ls : List AV} {s : SG} {a b : Int} {r : List AV} (f : fch M pc = some (.land, nx, ks)) (hk : kil ks ls = ls) : sem M pc ls (aL b :: aL a :: r) s = sem M nx ls (aL (landA a b) :: r) s := by rw [sem_eq f, hk]; rfl
theorem x_lor {M pc nx : Nat} {ks : List Nat} {ls : List AV} {s : SG} {a b : Int} {r : List AV} (f : fch M pc = some (.lor, nx, ks)) (hk : kil ks ls = ls) : sem M pc ls (aL b :: aL a :: r) s = sem M nx ls (aL (lorA a b) :: r) s := by rw [sem_eq f, hk]; rfl
theorem x_lshl {M pc nx : Nat} {ks : List Nat} {ls : List AV} {s : SG} {a b : Int} {r : List AV} (f : fch M pc = some (.lshl, nx, ks)) (hk : kil ks ls = ls) : sem M pc ls (aI b :: aL a :: r) s = sem M nx ls (aL (lshlA a b) :: r) s := by rw [sem_eq f, hk]; rfl
theorem x_lshr {M pc nx : Nat} {ks : List Nat} {ls : List AV} {s : SG} {a b : Int} {r : List AV} (f : fch M pc = some (.lshr, nx, ks)) (hk : kil ks ls = ls) : sem M pc ls (aI b :: aL a :: r) s = sem M nx ls (aL (lshrA a b) :: r) s := by rw [sem_eq f, hk]; rfl
theorem x_lushr {M pc nx : Nat} {ks : List Nat} {ls : List AV} {s : SG} {a b : Int} {r : List AV} (f : fch M pc = some (.lushr, nx, ks)) (hk : kil ks ls = ls) : sem M pc ls (aI b :: aL a :: r) s = sem M nx ls (aL (lushrA a b) :: r) s := by rw [sem_eq f, hk]; rfl
theorem x_lcmp {M pc nx : Nat} {ks : List Nat} {ls : List AV} {s : SG} {a b : Int} {r : List AV} (f : fch M pc = some (.lcmp, nx, ks)) (hk : kil ks ls = ls) : sem M pc ls (aL b :: aL a :: r) s = sem M nx ls (aI (cmpL a b) :: r) s := by rw [sem_eq f, hk]; rfl
theorem bind_grd {α β : Type} {p : Prop} [Decidable p] {x : Option α} {g : α → Option β} : (grd p x).bind g = grd p (x.bind g) := by
  unfold grd
  split <;> rfl
theorem x_idiv {M pc nx : Nat} {ks : List Nat} {ls : List AV} {s : SG} {a b : Int} {r : List AV} (f : fch M pc = some (.idiv, nx, ks)) (hk : kil ks ls = ls) : sem M pc ls (aI b :: aI a :: r) s = grd (b ≠ 0) (sem M nx ls (aI (w32 (Int.tdiv a b)) :: r) s) := by
  rw [sem_eq f, hk]
  simp only [act, stp, bI, bL, uI, uL, uA, iA, bind_grd]
  rfl
theorem x_irem {M pc nx : Nat} {ks : List Nat} {ls : List AV} {s : SG} {a b : Int} {r : List AV} (f : fch M pc = some (.irem, nx, ks)) (hk : kil ks ls = ls) : sem M pc ls (aI b :: aI a :: r) s = grd (b ≠ 0) (sem M nx ls (aI (remA a b) :: r) s) := by
  rw [sem_eq f, hk]
  simp only [act, stp, bI, bL, uI, uL, uA, iA, bind_grd]
  rfl
theorem x_ldiv {M pc nx : Nat} {ks : List Nat} {ls : List AV} {s : SG} {a b : Int} {r : List AV} (f : fch M pc = some (.ldiv, nx, ks)) (hk : kil ks ls = ls) : sem M pc ls (aL b :: aL a :: r) s = grd (b ≠ 0) (sem M nx ls (aL (w64 (Int.tdiv a b)) :: r) s) := by
  rw [sem_eq f, hk]
  simp only [act, stp, bI, bL, uI, uL, uA, iA, bind_grd]
  rfl
theorem x_lrem {M pc nx : Nat} {ks : List Nat} {ls : List AV} {s : SG} {a b : Int} {r : List AV} (f : fch M pc = some (.lrem, nx, ks)) (hk : kil ks ls = ls) : sem M pc ls (aL b :: aL a :: r) s = grd (b ≠ 0) (sem M nx ls (aL (remA a b) :: r) s) := by
  rw [sem_eq f, hk]
  simp only [act, stp, bI, bL, uI, uL, uA, iA, bind_grd]
  rfl
theorem x_lneg {M pc nx : Nat} {ks : List Nat} {ls : List AV} {s : SG} {a : Int} {r : List AV} (f : fch M pc = some (.lneg, nx, ks)) (hk : kil ks ls = ls) : sem M pc ls (aL a :: r) s = sem M nx ls (aL (w64 (-a)) :: r) s := by rw [sem_eq f, hk]; rfl
theorem x_i2l {M pc nx : Nat} {ks : List Nat} {ls : List AV} {s : SG} {a : Int} {r : List AV} (f : fch M pc = some (.i2l, nx, ks)) (hk : kil ks ls = ls) : sem M pc ls (aI a :: r) s = sem M nx ls (aL a :: r) s := by rw [sem_eq f, hk]; rfl
theorem x_l2i {M pc nx : Nat} {ks : List Nat} {ls : List AV} {s : SG} {a : Int} {r : List AV} (f : fch M pc = some (.l2i, nx, ks)) (hk : kil ks ls = ls) : sem M pc ls (aL a :: r) s = sem M nx ls (aI (w32 a) :: r) s := by rw [sem_eq f, hk]; rfl
theorem x_dup {M pc nx : Nat} {ks : List Nat} {ls : List AV} {s : SG} {v : AV} {r : List AV} (f : fch M pc = some (.dup, nx, ks)) (hk : kil ks ls = ls) (hc : cat1 v = true) : sem M pc ls (v :: r) s = sem M nx ls (v :: v :: r) s := by
  rw [sem_eq f, hk]
  simp only [act, stp, hc]
  rfl
theorem x_dup2 {M pc nx : Nat} {ks : List Nat} {ls : List AV} {s : SG} {v w : AV} {r : List AV} (f : fch M pc = some (.dup2, nx, ks)) (hk : kil ks ls = ls) (hc : (cat1 v && cat1 w) = true) : sem M pc ls (v :: w :: r) s = sem M nx ls (v :: w :: v :: w :: r) s := by
  rw [sem_eq f, hk]
  simp only [act, stp, hc]
  rfl
theorem x_pop {M pc nx : Nat} {ks : List Nat} {ls : List AV} {s : SG} {v : AV} {r : List AV} (f : fch M pc = some (.pop, nx, ks)) (hk : kil ks ls = ls) (hc : cat1 v = true) : sem M pc ls (v :: r) s = sem M nx ls (r) s := by
  rw [sem_eq f, hk]
  simp only [act, stp, hc]
  rfl
theorem x_pop2 {M pc nx : Nat} {ks : List Nat} {ls : List AV} {s : SG} {a : Int} {r : List AV} (f : fch M pc = some (.pop2, nx, ks)) (hk : kil ks ls = ls) : sem M pc ls (aL a :: r) s = sem M nx ls (r) s := by rw [sem_eq f, hk]; rfl
theorem x_goto {M pc nx : Nat} {ks : List Nat} {ls : List AV} {s : SG} {t : Int} {r : List AV} {tg : Nat} (f : fch M pc = some (.goto t, nx, ks)) (hk : kil ks ls = ls) (ht : t.toNat = tg) : sem M pc ls r s = sem M tg ls r s := by
  subst ht
  rw [sem_eq f, hk]
  rfl
theorem x_icmp_eq {M pc nx : Nat} {ks : List Nat} {ls : List AV} {s : SG} {a b t : Int} {r : List AV} {tg : Nat} (f : fch M pc = some (.if_icmp .eq t, nx, ks)) (hk : kil ks ls = ls) (ht : t.toNat = tg) : sem M pc ls (aI b :: aI a :: r) s = if a = b then sem M tg ls r s else sem M nx ls r s := by
  subst ht
  rw [sem_eq f, hk]
  show sem M (sel2 .eq a b t.toNat nx) ls r s = _
  unfold sel2
  simp only []
  split <;> rfl
theorem x_if_eq {M pc nx : Nat} {ks : List Nat} {ls : List AV} {s : SG} {a t : Int} {r : List AV} {tg : Nat} (f : fch M pc = some (.ifCond .eq t, nx, ks)) (hk : kil ks ls = ls) (ht : t.toNat = tg) : sem M pc ls (aI a :: r) s = if a = 0 then sem M tg ls r s else sem M nx ls r s := by
  subst ht
  rw [sem_eq f, hk]
  show sem M (sel2 .eq a 0 t.toNat nx) ls r s = _
  unfold sel2
  simp only []
  split <;> rfl
theorem x_icmp_ne {M pc nx : Nat} {ks : List Nat} {ls : List AV} {s : SG} {a b t : Int} {r : List AV} {tg : Nat} (f : fch M pc = some (.if_icmp .ne t, nx, ks)) (hk : kil ks ls = ls) (ht : t.toNat = tg) : sem M pc ls (aI b :: aI a :: r) s = if a = b then sem M nx ls r s else sem M tg ls r s := by
  subst ht
  rw [sem_eq f, hk]
  show sem M (sel2 .ne a b t.toNat nx) ls r s = _
  unfold sel2
  simp only []
  split <;> rfl
theorem x_if_ne {M pc nx : Nat} {ks : List Nat} {ls : List AV} {s : SG} {a t : Int} {r : List AV} {tg : Nat} (f : fch M pc = some (.ifCond .ne t, nx, ks)) (hk : kil ks ls = ls) (ht : t.toNat = tg) : sem M pc ls (aI a :: r) s = if a = 0 then sem M nx ls r s else sem M tg ls r s := by
  subst ht
  rw [sem_eq f, hk]
  show sem M (sel2 .ne a 0 t.toNat nx) ls r s = _
  unfold sel2
  simp only []
  split <;> rfl
theorem x_icmp_lt {M pc nx : Nat} {ks : List Nat} {ls : List AV} {s : SG} {a b t : Int} {r : List AV} {tg : Nat} (f : fch M pc = some (.if_icmp .lt t, nx, ks)) (hk : kil ks ls = ls) (ht : t.toNat = tg) : sem M pc ls (aI b :: aI a :: r) s = if a < b then sem M tg ls r s else sem M nx ls r s := by
  subst ht
  rw [sem_eq f, hk]
  show sem M (sel2 .lt a b t.toNat nx) ls r s = _
  unfold sel2
  simp only []
  split <;> rfl
theorem x_if_lt {M pc nx : Nat} {ks : List Nat} {ls : List AV} {s : SG} {a t : Int} {r : List AV} {tg : Nat} (f : fch M pc = some (.ifCond .lt t, nx, ks)) (hk : kil ks ls = ls) (ht : t.toNat = tg) : sem M pc ls (aI a :: r) s = if a < 0 then sem M tg ls r s else sem M nx ls r s := by
  subst ht
  rw [sem_eq f, hk]
  show sem M (sel2 .lt a 0 t.toNat nx) ls r s = _
  unfold sel2
  simp only []
  split <;> rfl
theorem x_icmp_ge {M pc nx : Nat} {ks : List Nat} {ls : List AV} {s : SG} {a b t : Int} {r : List AV} {tg : Nat} (f : fch M pc = some (.if_icmp .ge t, nx, ks)) (hk : kil ks ls = ls) (ht : t.toNat = tg) : sem M pc ls (aI b :: aI a :: r) s = if a < b then sem M nx ls r s else sem M tg ls r s := by
  subst ht
  rw [sem_eq f, hk]
  show sem M (sel2 .ge a b t.toNat nx) ls r s = _
  unfold sel2
  simp only []
  split <;> rfl
theorem x_if_ge {M pc nx : Nat} {ks : List Nat} {ls : List AV} {s : SG} {a t : Int} {r : List AV} {tg : Nat} (f : fch M pc = some (.ifCond .ge t, nx, ks)) (hk : kil ks ls = ls) (ht : t.toNat = tg) : sem M pc ls (aI a :: r) s = if a < 0 then sem M nx ls r s else sem M tg ls r s := by
  subst ht
  rw [sem_eq f, hk]
  show sem M (sel2 .ge a 0 t.toNat nx) ls r s = _
  unfold sel2
  simp only []
  split <;> rfl
theorem x_icmp_gt {M pc nx : Nat} {ks : List Nat} {ls : List AV} {s : SG} {a b t : Int} {r : List AV} {tg : Nat} (f : fch M pc = some (.if_icmp .gt t, nx, ks)) (hk : kil ks ls = ls) (ht : t.toNat = tg) : sem M pc ls (aI b :: aI a :: r) s = if b < a then sem M tg ls r s else sem M nx ls r s := by
  subst ht
  rw [sem_eq f, hk]
  show sem M (sel2 .gt a b t.toNat nx) ls r s = _
  unfold sel2
  simp only []
  split <;> rfl
theorem x_if_gt {M pc nx : Nat} {ks : List Nat} {ls : List AV} {s : SG} {a t : Int} {r : List AV} {tg : Nat} (f : fch M pc = some (.ifCond .gt t, nx, ks)) (hk : kil ks ls = ls) (ht : t.toNat = tg) : sem M pc ls (aI a :: r) s = if 0 < a then sem M tg ls r s else sem M nx ls r s := by
  subst ht
  rw [sem_eq f, hk]
  show sem M (sel2 .gt a 0 t.toNat nx) ls r s = _
  unfold sel2
  simp only []
  split <;> rfl
theorem x_icmp_le {M pc nx : Nat} {ks : List Nat} {ls : List AV} {s : SG} {a b t : Int} {r : List AV} {tg : Nat} (f : fch M pc = some (.if_icmp .le t, nx, ks)) (hk : kil ks ls = ls) (ht : t.toNat = tg) : sem M pc ls (aI b :: aI a :: r) s = if b < a then sem M nx ls r s else sem M tg ls r s := by
  subst ht
  rw [sem_eq f, hk]
  show sem M (sel2 .le a b t.toNat nx) ls r s = _
  unfold sel2
  simp only []
  split <;> rfl
theorem x_if_le {M pc nx : Nat} {ks : List Nat} {ls : List AV} {s : SG} {a t : Int} {r : List AV} {tg : Nat} (f : fch M pc = some (.ifCond .le t, nx, ks)) (hk : kil ks ls = ls) (ht : t.toNat = tg) : sem M pc ls (aI a :: r) s = if 0 < a then sem M nx ls r s else sem M tg ls r s := by
  subst ht
  rw [sem_eq f, hk]
  show sem M (sel2 .le a 0 t.toNat nx) ls r s = _
  unfold sel2
  simp only []
  split <;> rfl
theorem x_tsw {M pc nx : Nat} {ks : List Nat} {ls : List AV} {s : SG} {a d lo hi : Int} {ts : Array Int} {r : List AV} (f : fch M pc = some (.tableswitch d lo hi ts, nx, ks)) (hk : kil ks ls = ls) : sem M pc ls (aI a :: r) s = sem M (tsw a d ts.toList lo) ls r s := by rw [sem_eq f, hk]; rfl
theorem x_lsw {M pc nx : Nat} {ks : List Nat} {ls : List AV} {s : SG} {a d : Int} {ps : Array (Int × Int)} {r : List AV} (f : fch M pc = some (.lookupswitch d ps, nx, ks)) (hk : kil ks ls = ls) : sem M pc ls (aI a :: r) s = sem M (lsw a d ps.toList) ls r s := by rw [sem_eq f, hk]; rfl
theorem x_ite {M a b : Nat} {ls r : List AV} {s : SG} {p : Prop} [Decidable p] : sem M (if p then a else b) ls r s = if p then sem M a ls r s else sem M b ls r s := by split <;> rfl
theorem x_get0 {M pc nx : Nat} {ks : List Nat} {ls : List AV} {s : SG} {c j : Nat} {k : Int} {r : List AV} (f : fch M pc = some (.invokeinterface c j, nx, ks)) (hk : kil ks ls = ls) (hf : fty c j = 0) : sem M pc ls (aA k :: r) s = grd (kd k = c) (sem M nx ls (aI (s k j) :: r) s) := by
  rw [sem_eq f, hk]
  simp only [act, stp, uA, bind_grd, hf]
  rfl
theorem x_get1 {M pc nx : Nat} {ks : List Nat} {ls : List AV} {s : SG} {c j : Nat} {k : Int} {r : List AV} (f : fch M pc = some (.invokeinterface c j, nx, ks)) (hk : kil ks ls = ls) (hf : fty c j = 1) : sem M pc ls (aA k :: r) s = grd (kd k = c) (sem M nx ls (aL (s k j) :: r) s) := by
  rw [sem_eq f, hk]
  simp only [act, stp, uA, bind_grd, hf]
  rfl
theorem x_get2 {M pc nx : Nat} {ks : List Nat} {ls : List AV} {s : SG} {c j : Nat} {k : Int} {r : List AV} (f : fch M pc = some (.invokeinterface c j, nx, ks)) (hk : kil ks ls = ls) (hf : fty c j = 2) : sem M pc ls (aA k :: r) s = grd (kd k = c) (grd (0 ≤ s k j) (sem M nx ls (aA (s k j) :: r) s)) := by
  rw [sem_eq f, hk]
  simp only [act, stp, uA, bind_grd, hf]
  rfl
theorem x_put0 {M pc nx : Nat} {ks : List Nat} {ls : List AV} {s : SG} {c j : Nat} {k v : Int} {r : List AV} (f : fch M pc = some (.multianewarray c j, nx, ks)) (hk : kil ks ls = ls) (hf : fty c j = 0) : sem M pc ls (aI v :: aA k :: r) s = grd (kd k = c) (sem M nx ls (r) (up s k j v)) := by
  rw [sem_eq f, hk]
  simp only [act, stp, uA, bind_grd, hf]
  rfl
theorem x_put1 {M pc nx : Nat} {ks : List Nat} {ls : List AV} {s : SG} {c j : Nat} {k v : Int} {r : List AV} (f : fch M pc = some (.multianewarray c j, nx, ks)) (hk : kil ks ls = ls) (hf : fty c j = 1) : sem M pc ls (aL v :: aA k :: r) s = grd (kd k = c) (sem M nx ls (r) (up s k j v)) := by
  rw [sem_eq f, hk]
  simp only [act, stp, uA, bind_grd, hf]
  rfl
theorem x_put2 {M pc nx : Nat} {ks : List Nat} {ls : List AV} {s : SG} {c j : Nat} {k v : Int} {r : List AV} (f : fch M pc = some (.multianewarray c j, nx, ks)) (hk : kil ks ls = ls) (hf : fty c j = 2) : sem M pc ls (aA v :: aA k :: r) s = grd (kd k = c) (grd (0 ≤ v) (sem M nx ls (r) (up s k j v))) := by
  rw [sem_eq f, hk]
  simp only [act, stp, uA, bind_grd, hf]
  rfl
theorem x_iaload {M pc nx : Nat} {ks : List Nat} {ls : List AV} {s : SG} {i k : Int} {r : List AV} (f : fch M pc = some (.iaload, nx, ks)) (hk : kil ks ls = ls) : sem M pc ls (aI i :: aA k :: r) s = grd (kd k = 101) (grd (0 ≤ i ∧ i < kl k) (sem M nx ls (aI (s k i) :: r) s)) := by
  rw [sem_eq f, hk]
  simp only [act, stp, bI, bL, uI, uL, uA, iA, bind_grd]
  rfl
theorem x_baload {M pc nx : Nat} {ks : List Nat} {ls : List AV} {s : SG} {i k : Int} {r : List AV} (f : fch M pc = some (.baload, nx, ks)) (hk : kil ks ls = ls) : sem M pc ls (aI i :: aA k :: r) s = grd (kd k = 102) (grd (0 ≤ i ∧ i < kl k) (sem M nx ls (aI (s k i) :: r) s)) := by
  rw [sem_eq f, hk]
  simp only [act, stp, bI, bL, uI, uL, uA, iA, bind_grd]
  rfl
theorem x_laload {M pc nx : Nat} {ks : List Nat} {ls : List AV} {s : SG} {i k : Int} {r : List AV} (f : fch M pc = some (.laload, nx, ks)) (hk : kil ks ls = ls) : sem M pc ls (aI i :: aA k :: r) s = grd (kd k = 103) (grd (0 ≤ i ∧ i < kl k) (sem M nx ls (aL (s k i) :: r) s)) := by
  rw [sem_eq f, hk]
  simp only [act, stp, bI, bL, uI, uL, uA, iA, bind_grd]
  rfl
theorem x_aaload {M pc nx : Nat} {ks : List Nat} {ls : List AV} {s : SG} {i k : Int} {r : List AV} (f : fch M pc = some (.aaload, nx, ks)) (hk : kil ks ls = ls) : sem M pc ls (aI i :: aA k :: r) s = grd (kd k = 104) (grd (0 ≤ i ∧ i < kl k) (grd (0 ≤ s k i) (sem M nx ls (aA (s k i) :: r) s))) := by
  rw [sem_eq f, hk]
  simp only [act, stp, bI, bL, uI, uL, uA, iA, bind_grd]
  rfl
theorem x_iastore {M pc nx : Nat} {ks : List Nat} {ls : List AV} {s : SG} {i k v : Int} {r : List AV} (f : fch M pc = some (.iastore, nx, ks)) (hk : kil ks ls = ls) : sem M pc ls (aI v :: aI i :: aA k :: r) s = grd (kd k = 101) (grd (0 ≤ i ∧ i < kl k) (sem M nx ls (r) (up s k i v))) := by
  rw [sem_eq f, hk]
  simp only [act, stp, bI, bL, uI, uL, uA, iA, bind_grd]
  rfl
theorem x_lastore {M pc nx : Nat} {ks : List Nat} {ls : List AV} {s : SG} {i k v : Int} {r : List AV} (f : fch M pc = some (.lastore, nx, ks)) (hk : kil ks ls = ls) : sem M pc ls (aL v :: aI i :: aA k :: r) s = grd (kd k = 103) (grd (0 ≤ i ∧ i < kl k) (sem M nx ls (r) (up s k i v))) := by
  rw [sem_eq f, hk]
  simp only [act, stp, bI, bL, uI, uL, uA, iA, bind_grd]
  rfl
theorem x_bastore {M pc nx : Nat} {ks : List Nat} {ls : List AV} {s : SG} {i k v : Int} {r : List AV} (f : fch M pc = some (.bastore, nx, ks)) (hk : kil ks ls = ls) : sem M pc ls (aI v :: aI i :: aA k :: r) s = grd (kd k = 102) (grd (0 ≤ i ∧ i < kl k) (grd (v = 0 ∨ v = 1) (sem M nx ls (r) (up s k i v)))) := by
  rw [sem_eq f, hk]
  simp only [act, stp, bI, bL, uI, uL, uA, iA, bind_grd]
  rfl
theorem x_aastore {M pc nx : Nat} {ks : List Nat} {ls : List AV} {s : SG} {i k v : Int} {r : List AV} (f : fch M pc = some (.aastore, nx, ks)) (hk : kil ks ls = ls) : sem M pc ls (aA v :: aI i :: aA k :: r) s = grd (kd k = 104) (grd (0 ≤ i ∧ i < kl k) (grd (kd v = 1) (sem M nx ls (r) (up s k i v)))) := by
  rw [sem_eq f, hk]
  simp only [act, stp, bI, bL, uI, uL, uA, iA, bind_grd]
  rfl
theorem x_arraylength {M pc nx : Nat} {ks : List Nat} {ls : List AV} {s : SG} {k : Int} {r : List AV} (f : fch M pc = some (.arraylength, nx, ks)) (hk : kil ks ls = ls) : sem M pc ls (aA k :: r) s = grd (100 < kd k) (sem M nx ls (aI (kl k) :: r) s) := by
  rw [sem_eq f, hk]
  simp only [act, stp, bI, bL, uI, uL, uA, iA, bind_grd]
  rfl
theorem x_faload {M pc nx : Nat} {ks : List Nat} {ls : List AV} {s : SG} {i k : Int} {r : List AV} (f : fch M pc = some (.faload, nx, ks)) (hk : kil ks ls = ls) : sem M pc ls (aI i :: aA k :: r) s = grd (k = -7) (grd (0 ≤ i ∧ i < s (-7) (-1)) (sem M nx ls (aI (s (-7) i) :: r) s)) := by
  rw [sem_eq f, hk]
  simp only [act, stp, bI, bL, uI, uL, uA, iA, bind_grd]
  rfl
theorem x_f2l {M pc nx : Nat} {ks : List Nat} {ls : List AV} {s : SG} {k : Int} {r : List AV} (f : fch M pc = some (.f2l, nx, ks)) (hk : kil ks ls = ls) : sem M pc ls (aA k :: r) s = grd (k = -7) (sem M nx ls (aI (s (-7) (-1)) :: r) s) := by
  rw [sem_eq f, hk]
  simp only [act, stp, bI, bL, uI, uL, uA, iA, bind_grd]
  rfl
theorem x_new {M pc nx : Nat} {ks : List Nat} {ls : List AV} {s : SG} {c : Nat} {r : List AV} (f : fch M pc = some (.new c, nx, ks)) (hk : kil ks ls = ls) : sem M pc ls r s = grd (kd (s (-1) 0) = c) (sem M nx ls (aA (s (-1) 0) :: r) (alc s (kl (s (-1) 0)) (fun i => if fty c i.toNat = 2 then -1 else 0))) := by
  rw [sem_eq f, hk]
  simp only [act, stp, uI, bind_grd]
  rfl
theorem x_newarray {M pc nx : Nat} {ks : List Nat} {ls : List AV} {s : SG} {n : Int} {t : ClassFile.ArrayType} {r : List AV} (f : fch M pc = some (.newarray t, nx, ks)) (hk : kil ks ls = ls) : sem M pc ls (aI n :: r) s = grd (kd (s (-1) 0) = akind t ∧ kl (s (-1) 0) = n) (sem M nx ls (aA (s (-1) 0) :: r) (alc s n (fun _ => 0))) := by
  rw [sem_eq f, hk]
  simp only [act, stp, uI, bind_grd]
  rfl
theorem x_anewarray {M pc nx : Nat} {ks : List Nat} {ls : List AV} {s : SG} {n : Int} {c : Nat} {r : List AV} (f : fch M pc = some (.anewarray c, nx, ks)) (hk : kil ks ls = ls) : sem M pc ls (aI n :: r) s = grd (kd (s (-1) 0) = 104 ∧ kl (s (-1) 0) = n) (sem M nx ls (aA (s (-1) 0) :: r) (alc s n (fun _ => -1))) := by
  rw [sem_eq f, hk]
  simp only [act, stp, uI, bind_grd]
  rfl
theorem chk_ok {α : Type} {r : List AV} (h : Nat.ble (wsum r) 8 = true) (x : Option α) : chk r x = x := by
  unfold chk
  rw [h]
theorem x_fadd {M pc nx : Nat} {ks : List Nat} {ls : List AV} {s : SG} {a b : Int} {r : List AV} (f : fch M pc = some (.fadd, nx, ks)) (hk : kil ks ls = ls) (hw : Nat.ble (wsum r) 8 = true) : sem M pc ls (aI b :: aI a :: r) s = sem M nx ls (aI (max a b) :: r) s := by
  rw [sem_eq f, hk]
  simp only [act, stp, bI, bL, uL, uA, chk_ok hw, bind_grd]
  rfl
theorem x_fsub {M pc nx : Nat} {ks : List Nat} {ls : List AV} {s : SG} {a b : Int} {r : List AV} (f : fch M pc = some (.fsub, nx, ks)) (hk : kil ks ls = ls) (hw : Nat.ble (wsum r) 8 = true) : sem M pc ls (aI b :: aI a :: r) s = sem M nx ls (aI (min a b) :: r) s := by
  rw [sem_eq f, hk]
  simp only [act, stp, bI, bL, uL, uA, chk_ok hw, bind_grd]
  rfl
theorem x_dadd {M pc nx : Nat} {ks : List Nat} {ls : List AV} {s : SG} {a b : Int} {r : List AV} (f : fch M pc = some (.dadd, nx, ks)) (hk : kil ks ls = ls) (hw : Nat.ble (wsum r) 8 = true) : sem M pc ls (aL b :: aL a :: r) s = sem M nx ls (aL (max a b) :: r) s := by
  rw [sem_eq f, hk]
  simp only [act, stp, bI, bL, uL, uA, chk_ok hw, bind_grd]
  rfl
theorem x_fneg {M pc nx : Nat} {ks : List Nat} {ls : List AV} {s : SG} {a : Int} {r : List AV} (f : fch M pc = some (.fneg, nx, ks)) (hk : kil ks ls = ls) (hw : Nat.ble (wsum r) 8 = true) : sem M pc ls (aL a :: r) s = sem M nx ls (aL (if a < 0 then w64 (-a) else a) :: r) s := by
  rw [sem_eq f, hk]
  simp only [act, stp, bI, bL, uL, uA, chk_ok hw, bind_grd]
  rfl
theorem x_monitorexit {M pc nx : Nat} {ks : List Nat} {ls : List AV} {s : SG} {k : Int} {r : List AV} (f : fch M pc = some (.monitorexit, nx, ks)) (hk : kil ks ls = ls) (hw : Nat.ble (wsum r) 8 = true) : sem M pc ls (aA k :: r) s = sem M nx ls (r) s := by
  rw [sem_eq f, hk]
  simp only [act, stp, bI, bL, uL, uA, chk_ok hw, bind_grd]
  rfl
theorem x_copy {M pc nx : Nat} {ks : List Nat} {ls : List AV} {s : SG} {n dp d sp q : Int} {c : Nat} {r : List AV} (f : fch M pc = some (.invokedynamic c, nx, ks)) (hk : kil ks ls = ls) (hw : Nat.ble (wsum r) 8 = true) : sem M pc ls (aI n :: aI dp :: aA d :: aI sp :: aA q :: r) s = grd (kd q = 101 ∧ kd d = 101) (grd (0 ≤ sp ∧ 0 ≤ dp ∧ 0 ≤ n ∧ sp + n ≤ kl q ∧ dp + n ≤ kl d) (sem M nx ls (r) (cpy s q sp d dp n))) := by
  rw [sem_eq f, hk]
  simp only [act, stp, chk_ok hw, bind_grd]
  rfl
theorem x_invokestatic {M pc nx : Nat} {ks : List Nat} {ls : List AV} {s : SG} {k : Nat} {st : List AV} {G : AR} (f : fch M pc = some (.invokestatic k, nx, ks)) (hk : kil ks ls = ls) (hc : cal sem M k nx ls st s = G) : sem M pc ls st s = G := by
  rw [sem_eq f, hk]
  exact hc
theorem x_invokevirtual {M pc nx : Nat} {ks : List Nat} {ls : List AV} {s : SG} {k : Nat} {st : List AV} {G : AR} (f : fch M pc = some (.invokevirtual k, nx, ks)) (hk : kil ks ls = ls) (hc : cal sem M k nx ls st s = G) : sem M pc ls st s = G := by
  rw [sem_eq f, hk]
  exact hc
theorem x_invokespecial {M pc nx : Nat} {ks : List Nat} {ls : List AV} {s : SG} {k : Nat} {st : List AV} {G : AR} (f : fch M pc = some (.invokespecial k, nx, ks)) (hk : kil ks ls = ls) (hc : cal sem M k nx ls st s = G) : sem M pc ls st s = G := by
  rw [sem_eq f, hk]
  exact hc
theorem x_ireturn {M pc nx : Nat} {ks : List Nat} {ls : List AV} {s : SG} {a : Int} (f : fch M pc = some (.ireturn, nx, ks)) (hr : (mt M).2.2.2.1 = 1) : sem M pc ls [aI a] s = some (aI a, s) := by
  rw [sem_eq f]
  simp only [act, retI, hr]
theorem x_zreturn {M pc nx : Nat} {ks : List Nat} {ls : List AV} {s : SG} {a : Int} (f : fch M pc = some (.ireturn, nx, ks)) (hr : (mt M).2.2.2.1 = 3) : sem M pc ls [aI a] s = grd (a = 0 ∨ a = 1) (some (aI a, s)) := by
  rw [sem_eq f]
  simp only [act, retI, hr]
theorem x_zreturn0 {M pc nx : Nat} {ks : List Nat} {ls : List AV} {s : SG} (f : fch M pc = some (.ireturn, nx, ks)) (hr : (mt M).2.2.2.1 = 3) : sem M pc ls [aI 0] s = some (aI 0, s) := by
  rw [x_zreturn f hr]
  rfl
theorem x_zreturn1 {M pc nx : Nat} {ks : List Nat} {ls : List AV} {s : SG} (f : fch M pc = some (.ireturn, nx, ks)) (hr : (mt M).2.2.2.1 = 3) : sem M pc ls [aI 1] s = some (aI 1, s) := by
  rw [x_zreturn f hr]
  rfl
theorem x_lreturn {M pc nx : Nat} {ks : List Nat} {ls : List AV} {s : SG} {a : Int} (f : fch M pc = some (.lreturn, nx, ks)) (hr : (mt M).2.2.2.1 = 2) : sem M pc ls [aL a] s = some (aL a, s) := by
  rw [sem_eq f]
  simp only [act, hr]
theorem x_return {M pc nx : Nat} {ks : List Nat} {ls : List AV} {s : SG} (f : fch M pc = some (.return_, nx, ks)) (hr : (mt M).2.2.2.1 = 0) : sem M pc ls [] s = some (aU, s) := by
  rw [sem_eq f]
  simp only [act, hr]
theorem g_c {α : Type} {p : Prop} [Decidable p] {x y : Option α} (h : x = y) : grd p x = grd p y := by rw [h]
theorem i_c {α : Type} {p : Prop} [Decidable p] {x y x' y' : α} (h1 : x = x') (h2 : y = y') : (if p then x else y) = (if p then x' else y') := by rw [h1, h2]
theorem bI_c {α : Type} {x : AR} {f g : Int → SG → Option α} (h : ∀ a s, f a s = g a s) : bnI x f = bnI x g := by
  have : f = g := funext fun a => funext fun s => h a s
  rw [this]
theorem bL_c {α : Type} {x : AR} {f g : Int → SG → Option α} (h : ∀ a s, f a s = g a s) : bnL x f = bnL x g := by
  have : f = g := funext fun a => funext fun s => h a s
  rw [this]
theorem bV_c {α : Type} {x : AR} {f g : SG → Option α} (h : ∀ s, f s = g s) : bnV x f = bnV x g := by
  have : f = g := funext fun s => h s
  rw [this]
theorem m_I {M pc : Nat} {ls r : List AV} {s : SG} {p : Prop} [Decidable p] {a b : Int} : (if p then sem M pc ls (aI a :: r) s else sem M pc ls (aI b :: r) s) = sem M pc ls (aI (if p then a else b) :: r) s := by split <;> rfl
theorem m_L {M pc : Nat} {ls r : List AV} {s : SG} {p : Prop} [Decidable p] {a b : Int} : (if p then sem M pc ls (aL a :: r) s else sem M pc ls (aL b :: r) s) = sem M pc ls (aL (if p then a else b) :: r) s := by split <;> rfl

/-! the abstract reading of the bytecode: whole numbers for ints and longs, places for references, a store place × index → number -/
abbrev AV : Type := Int ⊕ Int ⊕ Int ⊕ Unit
abbrev aI (a : Int) : AV := Sum.inl a
abbrev aL (a : Int) : AV := Sum.inr (Sum.inl a)
abbrev aA (a : Int) : AV := Sum.inr (Sum.inr (Sum.inl a))
abbrev aU : AV := Sum.inr (Sum.inr (Sum.inr ()))
abbrev SG : Type := Int → Int → Int
abbrev SR : Type := Nat × List AV × List AV × SG
abbrev AR : Type := Option (AV × SG)
def up (s : SG) (k i v : Int) : SG := fun k' i' => if k' = k ∧ i' = i then v else s k' i'
def w32 (a : Int) : Int := Int.bmod a 4294967296
def w64 (a : Int) : Int := Int.bmod a 18446744073709551616
def iandA (a b : Int) : Int := (Int32.ofInt a &&& Int32.ofInt b).toInt
def iorA (a b : Int) : Int := (Int32.ofInt a ||| Int32.ofInt b).toInt
def ixorA (a b : Int) : Int := (Int32.ofInt a ^^^ Int32.ofInt b).toInt
def ishlA (a b : Int) : Int := (Int32.ofInt a <<< (Int32.ofInt b &&& 31)).toInt
def ishrA (a b : Int) : Int := (Int32.ofInt a >>> (Int32.ofInt b &&& 31)).toInt
def landA (a b : Int) : Int := (Int64.ofInt a &&& Int64.ofInt b).toInt
def lorA (a b : Int) : Int := (Int64.ofInt a ||| Int64.ofInt b).toInt
def lshlA (a b : Int) : Int := (Int64.ofInt a <<< ((Int32.ofInt b).toInt64 &&& 63)).toInt
def lshrA (a b : Int) : Int := (Int64.ofInt a >>> ((Int32.ofInt b).toInt64 &&& 63)).toInt
def lushrA (a b : Int) : Int := (((Int64.ofInt a).toUInt64 >>> ((Int32.ofInt b).toInt64.toUInt64 &&& Int64.toUInt64 63)).toInt64).toInt
def remA (a b : Int) : Int := Int.tmod a b
def cmpL (a b : Int) : Int := if b < a then 1 else if a = b then 0 else -1
def cpy (s : SG) (q sp d dp n : Int) : SG := fun k i => if k = d ∧ dp ≤ i ∧ i < dp + n then s q (sp + (i - dp)) else s k i
def alc (s : SG) (n : Int) (d : Int → Int) : SG := fun k i => if k = s (-1) 0 then d i else if k = -1 ∧ i = 0 then s (-1) 0 + 1 else if k = -1 ∧ i = 1 then s (-1) 1 + n else s k i
def grd {α : Type} (p : Prop) [Decidable p] (x : Option α) : Option α := if p then x else none
def uI {α : Type} (st : List AV) (k : Int → List AV → Option α) : Option α := match st with
  | .inl a :: r => k a r
  | _ => none
def bI {α : Type} (st : List AV) (k : Int → Int → List AV → Option α) : Option α := match st with
  | .inl b :: .inl a :: r => k a b r
  | _ => none
def uL {α : Type} (st : List AV) (k : Int → List AV → Option α) : Option α := match st with
  | .inr (.inl a) :: r => k a r
  | _ => none
def bL {α : Type} (st : List AV) (k : Int → Int → List AV → Option α) : Option α := match st with
  | .inr (.inl b) :: .inr (.inl a) :: r => k a b r
  | _ => none
def sL {α : Type} (st : List AV) (k : Int → Int → List AV → Option α) : Option α := match st with
  | .inl b :: .inr (.inl a) :: r => k a b r
  | _ => none
def uA {α : Type} (st : List AV) (k : Int → List AV → Option α) : Option α := match st with
  | .inr (.inr (.inl a)) :: r => k a r
  | _ => none
/-- an index over a row -/
def iA {α : Type} (st : List AV) (k : Int → Int → List AV → Option α) : Option α := match st with
  | .inl i :: .inr (.inr (.inl a)) :: r => k a i r
  | _ => none
def lng (o : Option AV) : Bool := match o with
  | some (.inr (.inl _)) => true
  | _ => false
def sto1 (ls : List AV) (i : Nat) (v : AV) : Option (List AV) := match Nat.blt i ls.length && !(Nat.blt 0 i && lng ls[i - 1]?) with
  | true => some (ls.set i v)
  | false => none
def sto2 (ls : List AV) (i : Nat) (v : AV) : Option (List AV) := match Nat.blt (i + 1) ls.length && !(Nat.blt 0 i && lng ls[i - 1]?) with
  | true => some ((ls.set i v).set (i + 1) aU)
  | false => none
def kil : List Nat → List AV → List AV
  | [], l => l
  | i :: ks, l => kil ks (l.set i aU)
def tsw (a : Int) (d : Int) : List Int → Int → Nat
  | [], _ => d.toNat
  | t :: l, lo => if a = lo then t.toNat else tsw a d l (lo + 1)
def lsw (a : Int) (d : Int) : List (Int × Int) → Nat
  | [] => d.toNat
  | q :: l => if a = q.1 then q.2.toNat else lsw a d l
def cat1 (v : AV) : Bool := match v with
  | .inl _ => true
  | .inr (.inr (.inl _)) => true
  | _ => false
def sel2 (c : ClassFile.Cond) (a b : Int) (t n : Nat) : Nat := match c with
  | .eq => if a = b then t else n
  | .ne => if a = b then n else t
  | .lt => if a < b then t else n
  | .ge => if a < b then n else t
  | .gt => if b < a then t else n
  | .le => if b < a then n else t
def akind (t : ClassFile.ArrayType) : Int := match t with
  | .int => 101
  | .boolean => 102
  | .long => 103
  | _ => -2
def wsum : List AV → Nat
  | [] => 0
  | .inr (.inl _) :: r => 2 + wsum r
  | _ :: r => 1 + wsum r
def chk {α : Type} (r : List AV) (x : Option α) : Option α := match Nat.ble (wsum r) 8 with
  | true => x
  | false => none
def stp (ins : ClassFile.Instr) (nx : Nat) (ls st : List AV) (s : SG) : Option SR := match ins with
  | .iconst n => some (nx, ls, aI n :: st, s)
  | .sipush n => some (nx, ls, aL n :: st, s)
  | .iload i => match ls[i]? with
    | some (.inl a) => some (nx, ls, aI a :: st, s)
    | _ => none
  | .lload i => match ls[i]? with
    | some (.inr (.inl a)) => some (nx, ls, aL a :: st, s)
    | _ => none
  | .aload i => match ls[i]? with
    | some (.inr (.inr (.inl a))) => some (nx, ls, aA a :: st, s)
    | _ => none
  | .istore i => uI st fun a r => (sto1 ls i (aI a)).map fun l => (nx, l, r, s)
  | .lstore i => uL st fun a r => (sto2 ls i (aL a)).map fun l => (nx, l, r, s)
  | .astore i => uA st fun a r => (sto1 ls i (aA a)).map fun l => (nx, l, r, s)
  | .iinc i n => match ls[i]? with
    | some (.inl a) => (sto1 ls i (aI (w32 (a + n)))).map fun l => (nx, l, st, s)
    | _ => none
  | .iadd => bI st fun a b r => some (nx, ls, aI (w32 (a + b)) :: r, s)
  | .isub => bI st fun a b r => some (nx, ls, aI (w32 (a - b)) :: r, s)
  | .imul => bI st fun a b r => some (nx, ls, aI (w32 (a * b)) :: r, s)
  | .idiv => bI st fun a b r => grd (b ≠ 0) (some (nx, ls, aI (w32 (Int.tdiv a b)) :: r, s))
  | .irem => bI st fun a b r => grd (b ≠ 0) (some (nx, ls, aI (remA a b) :: r, s))
  | .iand => bI st fun a b r => some (nx, ls, aI (iandA a b) :: r, s)
  | .ior => bI st fun a b r => some (nx, ls, aI (iorA a b) :: r, s)
  | .ixor => bI st fun a b r => some (nx, ls, aI (ixorA a b) :: r, s)
  | .ishl => bI st fun a b r => some (nx, ls, aI (ishlA a b) :: r, s)
  | .ishr => bI st fun a b r => some (nx, ls, aI (ishrA a b) :: r, s)
  | .ladd => bL st fun a b r => some (nx, ls, aL (w64 (a + b)) :: r, s)
  | .lsub => bL st fun a b r => some (nx, ls, aL (w64 (a - b)) :: r, s)
  | .lmul => bL st fun a b r => some (nx, ls, aL (w64 (a * b)) :: r, s)
  | .ldiv => bL st fun a b r => grd (b ≠ 0) (some (nx, ls, aL (w64 (Int.tdiv a b)) :: r, s))
  | .lrem => bL st fun a b r => grd (b ≠ 0) (some (nx, ls, aL (remA a b) :: r, s))
  | .lneg => uL st fun a r => some (nx, ls, aL (w64 (-a)) :: r, s)
  | .land => bL st fun a b r => some (nx, ls, aL (landA a b) :: r, s)
  | .lor => bL st fun a b r => some (nx, ls, aL (lorA a b) :: r, s)
  | .lshl => sL st fun a b r => some (nx, ls, aL (lshlA a b) :: r, s)
  | .lshr => sL st fun a b r => some (nx, ls, aL (lshrA a b) :: r, s)
  | .lushr => sL st fun a b r => some (nx, ls, aL (lushrA a b) :: r, s)
  | .lcmp => bL st fun a b r => some (nx, ls, aI (cmpL a b) :: r, s)
  | .i2l => uI st fun a r => some (nx, ls, aL a :: r, s)
  | .l2i => uL st fun a r => some (nx, ls, aI (w32 a) :: r, s)
  | .dup => match st with
    | v :: r => match cat1 v with
      | true => some (nx, ls, v :: v :: r, s)
      | false => none
    | _ => none
  | .dup2 => match st with
    | v :: x :: r => match cat1 v && cat1 x with
      | true => some (nx, ls, v :: x :: v :: x :: r, s)
      | false => none
    | _ => none
  | .pop => match st with
    | v :: r => match cat1 v with
      | true => some (nx, ls, r, s)
      | false => none
    | _ => none
  | .pop2 => uL st fun _ r => some (nx, ls, r, s)
  | .goto t => some (t.toNat, ls, st, s)
  | .if_icmp c t => bI st fun a b r => some (sel2 c a b t.toNat nx, ls, r, s)
  | .ifCond c t => uI st fun a r => some (sel2 c a 0 t.toNat nx, ls, r, s)
  | .tableswitch d lo _ ts => uI st fun a r => some (tsw a d ts.toList lo, ls, r, s)
  | .lookupswitch d ps => uI st fun a r => some (lsw a d ps.toList, ls, r, s)
  | .invokeinterface c j => uA st fun k r => grd (kd k = c) (match fty c j with
    | 0 => some (nx, ls, aI (s k j) :: r, s)
    | 1 => some (nx, ls, aL (s k j) :: r, s)
    | 2 => grd (0 ≤ s k j) (some (nx, ls, aA (s k j) :: r, s))
    | _ => none)
  | .multianewarray c j => match fty c j with
    | 0 => match st with
      | .inl v :: .inr (.inr (.inl k)) :: r => grd (kd k = c) (some (nx, ls, r, up s k j v))
      | _ => none
    | 1 => match st with
      | .inr (.inl v) :: .inr (.inr (.inl k)) :: r => grd (kd k = c) (some (nx, ls, r, up s k j v))
      | _ => none
    | 2 => match st with
      | .inr (.inr (.inl v)) :: .inr (.inr (.inl k)) :: r => grd (kd k = c) (grd (0 ≤ v) (some (nx, ls, r, up s k j v)))
      | _ => none
    | _ => none
  | .new c => grd (kd (s (-1) 0) = c) (some (nx, ls, aA (s (-1) 0) :: st, alc s (kl (s (-1) 0)) (fun i => if fty c i.toNat = 2 then -1 else 0)))
  | .newarray t => uI st fun n r => grd (kd (s (-1) 0) = akind t ∧ kl (s (-1) 0) = n) (some (nx, ls, aA (s (-1) 0) :: r, alc s n (fun _ => 0)))
  | .anewarray _ => uI st fun n r => grd (kd (s (-1) 0) = 104 ∧ kl (s (-1) 0) = n) (some (nx, ls, aA (s (-1) 0) :: r, alc s n (fun _ => -1)))
  | .arraylength => uA st fun k r => grd (100 < kd k) (some (nx, ls, aI (kl k) :: r, s))
  | .iaload => iA st fun k i r => grd (kd k = 101) (grd (0 ≤ i ∧ i < kl k) (some (nx, ls, aI (s k i) :: r, s)))
  | .baload => iA st fun k i r => grd (kd k = 102) (grd (0 ≤ i ∧ i < kl k) (some (nx, ls, aI (s k i) :: r, s)))
  | .laload => iA st fun k i r => grd (kd k = 103) (grd (0 ≤ i ∧ i < kl k) (some (nx, ls, aL (s k i) :: r, s)))
  | .aaload => iA st fun k i r => grd (kd k = 104) (grd (0 ≤ i ∧ i < kl k) (grd (0 ≤ s k i) (some (nx, ls, aA (s k i) :: r, s))))
  | .iastore => uI st fun v r0 => iA r0 fun k i r => grd (kd k = 101) (grd (0 ≤ i ∧ i < kl k) (some (nx, ls, r, up s k i v)))
  | .bastore => uI st fun v r0 => iA r0 fun k i r => grd (kd k = 102) (grd (0 ≤ i ∧ i < kl k) (grd (v = 0 ∨ v = 1) (some (nx, ls, r, up s k i v))))
  | .lastore => uL st fun v r0 => iA r0 fun k i r => grd (kd k = 103) (grd (0 ≤ i ∧ i < kl k) (some (nx, ls, r, up s k i v)))
  | .aastore => uA st fun v r0 => iA r0 fun k i r => grd (kd k = 104) (grd (0 ≤ i ∧ i < kl k) (grd (kd v = 1) (some (nx, ls, r, up s k i v))))
  | .faload => iA st fun k i r => grd (k = -7) (grd (0 ≤ i ∧ i < s (-7) (-1)) (some (nx, ls, aI (s (-7) i) :: r, s)))
  | .f2l => uA st fun k r => grd (k = -7) (some (nx, ls, aI (s (-7) (-1)) :: r, s))
  | .invokedynamic _ => match st with
    | .inl n :: .inl dp :: .inr (.inr (.inl d)) :: .inl sp :: .inr (.inr (.inl q)) :: r => grd (kd q = 101 ∧ kd d = 101) (grd (0 ≤ sp ∧ 0 ≤ dp ∧ 0 ≤ n ∧ sp + n ≤ kl q ∧ dp + n ≤ kl d) (chk r (some (nx, ls, r, cpy s q sp d dp n))))
    | _ => none
  | .monitorexit => uA st fun _ r => chk r (some (nx, ls, r, s))
  | .fadd => bI st fun a b r => chk r (some (nx, ls, aI (max a b) :: r, s))
  | .fsub => bI st fun a b r => chk r (some (nx, ls, aI (min a b) :: r, s))
  | .dadd => bL st fun a b r => chk r (some (nx, ls, aL (max a b) :: r, s))
  | .fneg => uL st fun a r => chk r (some (nx, ls, aL (if a < 0 then w64 (-a) else a) :: r, s))
  | _ => none
/-- the locals with which a method begins -/
def ent : List AV → List AV
  | [] => []
  | .inr (.inl a) :: r => aL a :: aU :: ent r
  | v :: r => v :: ent r
def pad (n : Nat) (l : List AV) : List AV := l ++ List.replicate (n - l.length) aU
abbrev RC : Type := Nat → Nat → List AV → List AV → SG → AR
def bnI {α : Type} (x : AR) (k : Int → SG → Option α) : Option α := match x with
  | some (.inl a, s) => k a s
  | _ => none
def bnL {α : Type} (x : AR) (k : Int → SG → Option α) : Option α := match x with
  | some (.inr (.inl a), s) => k a s
  | _ => none
def bnV {α : Type} (x : AR) (k : SG → Option α) : Option α := match x with
  | some (.inr (.inr (.inr _)), s) => k s
  | _ => none
def rcv {α : Type} (c : Int) (as : List AV) (x : Option α) : Option α := match c with
  | .ofNat _ => match as with
    | .inr (.inr (.inl k)) :: _ => grd (kd k = c) x
    | _ => none
  | _ => x
def calR (rc : RC) (M k nx : Nat) (ls l0 rest : List AV) (s : SG) (rk : Nat) : AR := match rk with
  | 0 => bnV (rc k 0 l0 [] s) fun s' => rc M nx ls rest s'
  | 1 => bnI (rc k 0 l0 [] s) fun a s' => rc M nx ls (aI a :: rest) s'
  | 2 => bnL (rc k 0 l0 [] s) fun a s' => rc M nx ls (aL a :: rest) s'
  | 3 => bnI (rc k 0 l0 [] s) fun a s' => rc M nx ls (aI a :: rest) s'
  | _ => none
def calM (rc : RC) (M k nx : Nat) (ls as rest : List AV) (s : SG) : AR := rcv (mt k).2.2.2.2 as (calR rc M k nx ls (pad (mt k).2.2.1 (ent as)) rest s (mt k).2.2.2.1)
def cal (rc : RC) (M k nx : Nat) (ls st : List AV) (s : SG) : AR :=
  match Nat.blt (mt k).1 (mt M).1 && (Nat.ble (mt k).2.1 st.length && (Nat.ble (wsum (st.drop (mt k).2.1)) 8 && Nat.ble (ent ((st.take (mt k).2.1).reverse)).length (mt k).2.2.1)) with
  | true => calM rc M k nx ls ((st.take (mt k).2.1).reverse) (st.drop (mt k).2.1) s
  | false => none
def retI (M : Nat) (a : Int) (s : SG) : AR := match (mt M).2.2.2.1 with
  | 1 => some (aI a, s)
  | 3 => grd (a = 0 ∨ a = 1) (some (aI a, s))
  | _ => none
def act (rc : RC) (M : Nat) (ins : ClassFile.Instr) (nx : Nat) (ls st : List AV) (s : SG) : AR := match ins with
  | .ireturn => match st with
    | [.inl a] => retI M a s
    | _ => none
  | .lreturn => match st with
    | [.inr (.inl a)] => match (mt M).2.2.2.1 with
      | 2 => some (aL a, s)
      | _ => none
    | _ => none
  | .return_ => match st with
    | [] => match (mt M).2.2.2.1 with
      | 0 => some (aU, s)
      | _ => none
    | _ => none
  | .invokestatic k => cal rc M k nx ls st s
  | .invokevirtual k => cal rc M k nx ls st s
  | .invokespecial k => cal rc M k nx ls st s
  | i => (stp i nx ls st s).bind fun q => rc M q.1 q.2.1 q.2.2.1 q.2.2.2
def run : Nat → RC
  | 0 => fun _ _ _ _ _ => none
  | n + 1 => fun M pc ls st s => match fch M pc with
    | some f => act (run n) M f.1 f.2.1 (kil f.2.2 ls) st s
    | none => none
/-! more fuel, the same answer -/
def rcLe (a b : RC) : Prop := ∀ M pc ls st s r, a M pc ls st s = some r → b M pc ls st s = some r
theorem bnI_le {x y : AR} {α : Type} {f g : Int → SG → Option α} {r : α} (h : bnI x f = some r) (hx : ∀ q, x = some q → y = some q) (hf : ∀ a s, f a s = some r → g a s = some r) : bnI y g = some r := by
  cases x with
  | none => cases h
  | some q =>
    rw [hx q rfl]
    obtain ⟨v, s⟩ := q
    cases v with
    | inl a => exact hf a s h
    | inr _ => cases h
theorem bnL_le {x y : AR} {α : Type} {f g : Int → SG → Option α} {r : α} (h : bnL x f = some r) (hx : ∀ q, x = some q → y = some q) (hf : ∀ a s, f a s = some r → g a s = some r) : bnL y g = some r := by
  cases x with
  | none => cases h
  | some q =>
    rw [hx q rfl]
    obtain ⟨v, s⟩ := q
    rcases v with a | a | a | a
    · cases h
    · exact hf a s h
    · cases h
    · cases h
theorem bnV_le {x y : AR} {α : Type} {f g : SG → Option α} {r : α} (h : bnV x f = some r) (hx : ∀ q, x = some q → y = some q) (hf : ∀ s, f s = some r → g s = some r) : bnV y g = some r := by
  cases x with
  | none => cases h
  | some q =>
    rw [hx q rfl]
    obtain ⟨v, s⟩ := q
    rcases v with a | a | a | a
    · cases h
    · cases h
    · cases h
    · exact hf s h
theorem rcv_le {α : Type} {c : Int} {as : List AV} {x y : Option α} {r : α} (h : rcv c as x = some r) (hx : x = some r → y = some r) : rcv c as y = some r := by
  cases c with
  | ofNat n =>
    cases as with
    | nil => cases h
    | cons v l =>
      rcases v with a | a | a | a
      · cases h
      · cases h
      · show grd _ y = some r
        have h : grd _ x = some r := h
        unfold grd at h ⊢
        split at h
        · next hp => rw [if_pos hp]; exact hx h
        · cases h
      · cases h
  | negSucc n => exact hx h
theorem calR_le {a b : RC} (hab : rcLe a b) {M k nx : Nat} {ls l0 rest : List AV} {s : SG} {rk : Nat} {r : AV × SG} (h : calR a M k nx ls l0 rest s rk = some r) : calR b M k nx ls l0 rest s rk = some r := by
  unfold calR at h ⊢
  split at h
  · exact bnV_le h (fun q hq => hab _ _ _ _ _ _ hq) (fun s hq => hab _ _ _ _ _ _ hq)
  · exact bnI_le h (fun q hq => hab _ _ _ _ _ _ hq) (fun a s hq => hab _ _ _ _ _ _ hq)
  · exact bnL_le h (fun q hq => hab _ _ _ _ _ _ hq) (fun a s hq => hab _ _ _ _ _ _ hq)
  · exact bnI_le h (fun q hq => hab _ _ _ _ _ _ hq) (fun a s hq => hab _ _ _ _ _ _ hq)
  · cases h
theorem cal_le {a b : RC} (hab : rcLe a b) {M k nx : Nat} {ls st : List AV} {s : SG} {r : AV × SG} (h : cal a M k nx ls st s = some r) : cal b M k nx ls st s = some r := by
  unfold cal at h ⊢
  split at h
  · exact rcv_le h (fun h => calR_le hab h)
  · cases h
theorem bind_le {a b : RC} (hab : rcLe a b) {M : Nat} {x : Option SR} {r : AV × SG} (h : (x.bind fun q => a M q.1 q.2.1 q.2.2.1 q.2.2.2) = some r) : (x.bind fun q => b M q.1 q.2.1 q.2.2.1 q.2.2.2) = some r := by
  cases x with
  | none => cases h
  | some q => exact hab _ _ _ _ _ _ h
theorem act_le {a b : RC} (hab : rcLe a b) {M : Nat} {ins : ClassFile.Instr} {nx : Nat} {ls st : List AV} {s : SG} {r : AV × SG} (h : act a M ins nx ls st s = some r) : act b M ins nx ls st s = some r := by
  cases ins <;> first
    | exact h
    | exact cal_le hab h
    | exact bind_le (M := M) (x := stp _ nx ls st s) hab h
    | exact hab _ _ _ _ _ _ h
theorem run_le1 : ∀ n, rcLe (run n) (run (n + 1)) := by
  intro n
  induction n with
  | zero => intro M pc ls st s r h; cases h
  | succ n ih =>
    intro M pc ls st s r h
    unfold run at h ⊢
    split at h
    · next f e => exact act_le ih h
    · cases h
theorem run_le {n m : Nat} (h : n ≤ m) : rcLe (run n) (run m) := by
  induction h with
  | refl => intro M pc ls st s r h; exact h
  | step _ ih => intro M pc ls st s r h; exact run_le1 _ _ _ _ _ _ _ (ih _ _ _ _ _ _ h)
/-- what a method answers from a place in it on, whatever the fuel -/
noncomputable def sem : RC := fun M pc ls st s => @dite _ (∃ n r, run n M pc ls st s = some r) (Classical.propDecidable _) (fun h => run h.choose M pc ls st s) (fun _ => none)
theorem sem_of_run {n M pc : Nat} {ls st : List AV} {s : SG} {r : AV × SG} (h : run n M pc ls st s = some r) : sem M pc ls st s = some r := by
  have he : ∃ n r, run n M pc ls st s = some r := ⟨n, r, h⟩
  unfold sem
  rw [dif_pos he]
  obtain ⟨r', hr'⟩ := he.choose_spec
  have h1 := run_le (Nat.le_max_left n he.choose) _ _ _ _ _ _ h
  have h2 := run_le (Nat.le_max_right n he.choose) _ _ _ _ _ _ hr'
  rw [h1] at h2
  rw [hr', h2]
theorem run_of_sem {M pc : Nat} {ls st : List AV} {s : SG} {r : AV × SG} (h : sem M pc ls st s = some r) : ∃ n, run n M pc ls st s = some r := by
  unfold sem at h
  split at h
  · next he => exact ⟨_, h⟩
  · cases h
theorem run_sem (n : Nat) : rcLe (run n) sem := fun _ _ _ _ _ _ h => sem_of_run h
theorem calR_sem {M k nx : Nat} {ls l0 rest : List AV} {s : SG} {rk : Nat} {r : AV × SG} (h : calR sem M k nx ls l0 rest s rk = some r) : ∃ n, calR (run n) M k nx ls l0 rest s rk = some r := by
  cases hx : sem k 0 l0 [] s with
  | none =>
    unfold calR at h
    rw [hx] at h
    split at h <;> cases h
  | some q =>
    obtain ⟨n1, hn1⟩ := run_of_sem hx
    obtain ⟨v, s1⟩ := q
    have fin : ∀ r0 : List AV, sem M nx ls r0 s1 = some r → ∃ N, run N k 0 l0 [] s = some (v, s1) ∧ run N M nx ls r0 s1 = some r := by
      intro r0 h0
      obtain ⟨n2, hn2⟩ := run_of_sem h0
      exact ⟨n1 + n2, run_le (by omega) _ _ _ _ _ _ hn1, run_le (by omega) _ _ _ _ _ _ hn2⟩
    unfold calR at h ⊢
    rw [hx] at h
    rcases v with a | a | a | a
    · split at h
      · cases h
      · obtain ⟨N, e1, e2⟩ := fin _ h
        exact ⟨N, by rw [e1]; exact e2⟩
      · cases h
      · obtain ⟨N, e1, e2⟩ := fin _ h
        exact ⟨N, by rw [e1]; exact e2⟩
      · cases h
    · split at h
      · cases h
      · cases h
      · obtain ⟨N, e1, e2⟩ := fin _ h
        exact ⟨N, by rw [e1]; exact e2⟩
      · cases h
      · cases h
    · split at h <;> cases h
    · split at h
      · obtain ⟨N, e1, e2⟩ := fin _ h
        exact ⟨N, by rw [e1]; exact e2⟩
      · cases h
      · cases h
      · cases h
      · cases h
theorem rcv_ok {α : Type} {c : Int} {as : List AV} {x : Option α} {r : α} (h : rcv c as x = some r) : x = some r := by
  unfold rcv at h
  split at h
  · split at h
    · unfold grd at h
      split at h
      · exact h
      · cases h
    · cases h
  · exact h
theorem cal_sem {M k nx : Nat} {ls st : List AV} {s : SG} {r : AV × SG} (h : cal sem M k nx ls st s = some r) : ∃ n, cal (run n) M k nx ls st s = some r := by
  unfold cal at h ⊢
  split at h
  · next hc =>
    obtain ⟨n, hn⟩ := calR_sem (rcv_ok h)
    exact ⟨n, rcv_le h (fun _ => hn)⟩
  · cases h
theorem act_sem {M : Nat} {ins : ClassFile.Instr} {nx : Nat} {ls st : List AV} {s : SG} {r : AV × SG} (h : act sem M ins nx ls st s = some r) : ∃ n, act (run n) M ins nx ls st s = some r := by
  have hb : ∀ x : Option SR, (x.bind fun q => sem M q.1 q.2.1 q.2.2.1 q.2.2.2) = some r → ∃ n, (x.bind fun q => run n M q.1 q.2.1 q.2.2.1 q.2.2.2) = some r := by
    intro x hx
    cases x with
    | none => cases hx
    | some q => exact run_of_sem hx
  cases ins <;> first
    | exact ⟨0, h⟩
    | exact cal_sem h
    | exact hb (stp _ nx ls st s) h
    | exact run_of_sem h
/-- the law of the reading: from an instruction to what it does -/
theorem sem_eq {M pc : Nat} {ins : ClassFile.Instr} {nx : Nat} {ks : List Nat} (hf : fch M pc = some (ins, nx, ks)) (ls st : List AV) (s : SG) : sem M pc ls st s = act sem M ins nx (kil ks ls) st s := by
  apply Option.ext
  intro r
  constructor
  · intro h
    obtain ⟨n, hn⟩ := run_of_sem h
    cases n with
    | zero => cases hn
    | succ n =>
      unfold run at hn
      rw [hf] at hn
      exact act_le (run_sem n) hn
  · intro h
    obtain ⟨n, hn⟩ := act_sem h
    refine sem_of_run (n := n + 1) ?_
    unfold run
    rw [hf]
    exact hn

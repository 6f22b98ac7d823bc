/-! each instruction of the machine is the reading's -/
def Gtbl : List Cond := lw_tbl.filter goodWord
theorem g_in {w : Cond} (h : w ∈ lw_tbl) (hg : goodWord w = true) : w ∈ Gtbl := List.mem_filter.mpr ⟨h, hg⟩
def isNest : Cond → Bool
  | .fieldLinkNest _ _ _ _ _ _ => true
  | .methodLinkNest _ _ _ _ => true
  | _ => false
def Ntbl : List Cond := lw_tbl.filter isNest
theorem n_in {w : Cond} (h : w ∈ lw_tbl) (hg : isNest w = true) : w ∈ Ntbl := List.mem_filter.mpr ⟨h, hg⟩
/-- the words that are carried along by hand -/
def NW (U : State) : Prop := (∀ w ∈ Ntbl, va_Nw w U) ∧ va_AO RX1 U
theorem NW.warm {s U : State} (hW : s.WarmedH U.vm) (h : NW s) : NW U := by
  refine ⟨fun w hw => ?_, h.2.moved hW.alike⟩
  have h1 := h.1 w hw
  have h2 := (List.mem_filter.mp hw).2
  cases w <;> first
    | exact va_Nw.warmF hW h1
    | exact va_Nw.warmM hW h1
    | cases h2
theorem NW.blind {U : State} {a : Array Value} {g : JFrame} {mk : MethodId} (h : NW U) : NW (U.calling g mk a) := by
  refine ⟨fun w hw => ?_, h.2.moved (U := U.calling g mk a) (Vm.Alike.refl U.vm)⟩
  have h1 := h.1 w hw
  have h2 := (List.mem_filter.mp hw).2
  cases w <;> first
    | exact va_Nw.same rfl (U := U.calling g mk a) rfl h1
    | cases h2
def RV (b : Nat) (ws : va_W) (v : AV) (x : Value) : Prop := match v with
  | .inl a => ∃ i : Int32, x = .int i ∧ i.toInt = a
  | .inr (.inl a) => ∃ i : Int64, x = .long i ∧ i.toInt = a
  | .inr (.inr (.inl k)) => ∃ a : Nat, x = .ref a ∧ ((∃ (n : Nat) (q : Nat × va_E), k = n ∧ ws[n]? = some q ∧ q.1 = a) ∨ (k = -7 ∧ a = b))
  | .inr (.inr (.inr _)) => False
def RLo (b : Nat) (ws : va_W) (nL : Nat) (ls : List AV) (la : Array Slot) : Prop := ls.length = nL ∧ ∃ lv : List (Nat × Value), lv_has la nL lv ∧ ∀ (i : Nat) (v : AV), ls[i]? = some v → v ≠ aU → ∃ x, (i, x) ∈ lv ∧ RV b ws v x
def RSt (b : Nat) (ws : va_W) : List AV → List Value → Prop
  | [], [] => True
  | v :: r, x :: xs => RV b ws v x ∧ RSt b ws r xs
  | _, _ => False
def RF (b : Nat) (ws : va_W) (t : Nat) (v : Int) (x : Value) : Prop := match t with
  | 0 => RV b ws (aI v) x
  | 1 => RV b ws (aL v) x
  | 2 => (v < 0 ∧ x = .null) ∨ (0 ≤ v ∧ RV b ws (aA v) x)
  | _ => False
def RO (ws : va_W) (v : Int) (o : Option Nat) : Prop := (v < 0 ∧ o = none) ∨ ∃ (n : Nat) (q : Nat × va_E), v = n ∧ ws[n]? = some q ∧ o = some q.1
def RArr (ws : va_W) (k : Nat) (ty : FieldType) (a : vp_A) (s : SG) : Prop := match a.2 with
  | .inl f => ((kd k = 101 ∧ ty = .int) ∨ (kd k = 102 ∧ ty = .boolean)) ∧ ∀ i : Nat, i < a.1 → (f i).toInt = s k i
  | .inr (.inl f) => (kd k = 103 ∧ ty = .long) ∧ ∀ i : Nat, i < a.1 → (f i).toInt = s k i
  | .inr (.inr (.inr (.inr f))) => (kd k = 104 ∧ ty = .object RX1) ∧ ∀ i : Nat, i < a.1 → RO ws (s k i) (f i)
  | _ => False
def RCl (b : Nat) (tys : List (ClassId × FieldType)) (ws : va_W) (k : Nat) (e : va_E) (s : SG) : Prop := match e with
  | .inl (cA, a) => (kl k = a.1 ∧ a.1 < 2 ^ 31) ∧ ∃ (t : Nat) (ty : FieldType), tys[t]? = some (cA, ty) ∧ RArr ws k ty a s
  | .inr (ci, fs) => kd k = ci ∧ ∃ r : vw_C, vwCl[ci]? = some r ∧ fs.length = r.2.2 ∧ ∀ (j : Nat) (x : Value), fs[j]? = some x → RF b ws (fty ci j) (s k j) x
def RW (b : Nat) (D : va_G) (U : State) (H : Heap) (A : Nat → Prop) (ws : va_W) (s : SG) : Prop := ∃ tys, va_K D vwCl tys U ∧ va_P D vwCl ws H ∧ va_D A ws ∧ s (-1) 0 = ws.length ∧ ∀ (k : Nat) (q : Nat × va_E), ws[k]? = some q → RCl b tys ws k q.2 s
def Ext (w0 w1 : va_W) : Prop := ∀ (n : Nat) (q : Nat × va_E), w0[n]? = some q → ∃ e, w1[n]? = some (q.1, e)
theorem Ext.rf {w : va_W} : Ext w w := fun _ q h => ⟨q.2, h⟩
theorem Ext.tr {a b c : va_W} (h1 : Ext a b) (h2 : Ext b c) : Ext a c := fun n q h => by
  obtain ⟨e, he⟩ := h1 n q h
  exact h2 n (q.1, e) he
theorem Ext.set {w : va_W} {k a : Nat} {e0 e : va_E} (h : w[k]? = some (a, e0)) : Ext w (w.set k (a, e)) := fun n q hq => by
  by_cases hn : k = n
  · subst hn
    rw [h] at hq
    cases hq
    refine ⟨e, ?_⟩
    rw [List.getElem?_set_self (List.getElem?_eq_some_iff.mp h).1]
  · exact ⟨q.2, by rw [List.getElem?_set_ne hn]; exact hq⟩
theorem Ext.app {w w2 : va_W} : Ext w (w ++ w2) := fun n q hq => ⟨q.2, by rw [List.getElem?_append_left (List.getElem?_eq_some_iff.mp hq).1]; exact hq⟩
theorem RV.ext {b : Nat} {w0 w1 : va_W} (h : Ext w0 w1) {v : AV} {x : Value} (hv : RV b w0 v x) : RV b w1 v x := by
  rcases v with a | a | a | a
  · exact hv
  · exact hv
  · obtain ⟨r, h1, h2⟩ := hv
    refine ⟨r, h1, ?_⟩
    rcases h2 with ⟨n, q, e1, e2, e3⟩ | h2
    · obtain ⟨e, he⟩ := h n q e2
      exact Or.inl ⟨n, _, e1, he, e3⟩
    · exact Or.inr h2
  · exact hv
theorem RLo.ext {b nL : Nat} {w0 w1 : va_W} (h : Ext w0 w1) {ls : List AV} {la : Array Slot} (hv : RLo b w0 nL ls la) : RLo b w1 nL ls la := by
  obtain ⟨h0, lv, h1, h2⟩ := hv
  refine ⟨h0, lv, h1, fun i v hi hu => ?_⟩
  obtain ⟨x, e1, e2⟩ := h2 i v hi hu
  exact ⟨x, e1, e2.ext h⟩
theorem RSt.ext {b : Nat} {w0 w1 : va_W} (h : Ext w0 w1) : ∀ {st : List AV} {sa : List Value}, RSt b w0 st sa → RSt b w1 st sa
  | [], [], _ => trivial
  | _ :: _, _ :: _, hv => ⟨hv.1.ext h, RSt.ext h hv.2⟩
  | [], _ :: _, hv => hv.elim
  | _ :: _, [], hv => hv.elim
theorem RF.ext {b t : Nat} {w0 w1 : va_W} (h : Ext w0 w1) {v : Int} {x : Value} (hv : RF b w0 t v x) : RF b w1 t v x := by
  unfold RF at hv ⊢
  split
  · exact RV.ext h hv
  · exact RV.ext h hv
  · rcases hv with hv | ⟨h1, h2⟩
    · exact Or.inl hv
    · exact Or.inr ⟨h1, h2.ext h⟩
  · next h0 h1 h2 =>
    split at hv
    · exact (h0 rfl).elim
    · exact (h1 rfl).elim
    · exact (h2 rfl).elim
    · exact hv
theorem RO.ext {w0 w1 : va_W} (h : Ext w0 w1) {v : Int} {o : Option Nat} (hv : RO w0 v o) : RO w1 v o := by
  rcases hv with hv | ⟨n, q, e1, e2, e3⟩
  · exact Or.inl hv
  · obtain ⟨e, he⟩ := h n q e2
    exact Or.inr ⟨n, _, e1, he, e3⟩
theorem RSt.cons {b : Nat} {ws : va_W} {v : AV} {r : List AV} {sa : List Value} (h : RSt b ws (v :: r) sa) : ∃ x xs, sa = x :: xs ∧ RV b ws v x ∧ RSt b ws r xs := by
  cases sa with
  | nil => exact h.elim
  | cons x xs => exact ⟨x, xs, rfl, h.1, h.2⟩
theorem RSt.nil {b : Nat} {ws : va_W} {sa : List Value} (h : RSt b ws [] sa) : sa = [] := by
  cases sa with
  | nil => rfl
  | cons x xs => exact h.elim
theorem RSt.i {b : Nat} {ws : va_W} {v : Int} {r : List AV} {sa : List Value} (h : RSt b ws (aI v :: r) sa) : ∃ (x : Int32) (xs : List Value), sa = .int x :: xs ∧ v = x.toInt ∧ RSt b ws r xs := by
  obtain ⟨x, xs, rfl, ⟨i, rfl, hi⟩, hr⟩ := h.cons
  exact ⟨i, xs, rfl, hi.symm, hr⟩
theorem RSt.l {b : Nat} {ws : va_W} {v : Int} {r : List AV} {sa : List Value} (h : RSt b ws (aL v :: r) sa) : ∃ (x : Int64) (xs : List Value), sa = .long x :: xs ∧ v = x.toInt ∧ RSt b ws r xs := by
  obtain ⟨x, xs, rfl, ⟨i, rfl, hi⟩, hr⟩ := h.cons
  exact ⟨i, xs, rfl, hi.symm, hr⟩
theorem RSt.a {b : Nat} {ws : va_W} {v : Int} {r : List AV} {sa : List Value} (h : RSt b ws (aA v :: r) sa) : ∃ (x : Nat) (xs : List Value), sa = .ref x :: xs ∧ RV b ws (aA v) (.ref x) ∧ RSt b ws r xs := by
  obtain ⟨x, xs, rfl, ⟨i, rfl, hi⟩, hr⟩ := h.cons
  exact ⟨i, xs, rfl, ⟨i, rfl, hi⟩, hr⟩
theorem RV.i {b : Nat} {ws : va_W} (x : Int32) : RV b ws (aI x.toInt) (.int x) := ⟨x, rfl, rfl⟩
theorem RV.l {b : Nat} {ws : va_W} (x : Int64) : RV b ws (aL x.toInt) (.long x) := ⟨x, rfl, rfl⟩
/-- the words of the operand stack -/
theorem RSt.wsum {b : Nat} {ws : va_W} : ∀ {st : List AV} {sa : List Value}, RSt b ws st sa → (sa.map fun v => v.category).sum = wsum st
  | [], [], _ => rfl
  | v :: r, x :: xs, h => by
    have ih := RSt.wsum h.2
    have h1 := h.1
    rw [List.map_cons, List.sum_cons, ih]
    rcases v with a | a | a | a
    · obtain ⟨i, rfl, -⟩ := h1; rfl
    · obtain ⟨i, rfl, -⟩ := h1; rfl
    · obtain ⟨i, rfl, -⟩ := h1; rfl
    · exact h1.elim
  | [], _ :: _, hv => hv.elim
  | _ :: _, [], hv => hv.elim
theorem RSt.cat1 {b : Nat} {ws : va_W} {v : AV} {x : Value} (h : RV b ws v x) (hc : cat1 v = true) : x.category = 1 := by
  rcases v with a | a | a | a
  · obtain ⟨i, rfl, -⟩ := h; rfl
  · cases hc
  · obtain ⟨i, rfl, -⟩ := h; rfl
  · cases hc
theorem RLo.get {b nL : Nat} {ws : va_W} {ls : List AV} {la : Array Slot} (h : RLo b ws nL ls la) {i : Nat} {v : AV} (hi : ls[i]? = some v) (hu : v ≠ aU) : ∃ x, la[i]? = some (.val x) ∧ RV b ws v x := by
  obtain ⟨h0, lv, h1, h2⟩ := h
  obtain ⟨x, e1, e2⟩ := h2 i v hi hu
  exact ⟨x, h1.2.2 _ e1, e2⟩
theorem RLo.size {b nL : Nat} {ws : va_W} {ls : List AV} {la : Array Slot} (h : RLo b ws nL ls la) : la.size = nL := by
  obtain ⟨h0, lv, h1, h2⟩ := h
  exact h1.1
theorem RLo.kil {b nL : Nat} {ws : va_W} {la : Array Slot} : ∀ (ks : List Nat) {ls : List AV}, RLo b ws nL ls la → RLo b ws nL (kil ks ls) la
  | [], _, h => h
  | k :: ks, ls, h => by
    refine RLo.kil ks (ls := ls.set k aU) ?_
    obtain ⟨h0, lv, h1, h2⟩ := h
    refine ⟨by rw [List.length_set]; exact h0, lv, h1, fun i v hi hu => ?_⟩
    by_cases hk : k = i
    · subst hk
      rw [List.getElem?_set] at hi
      simp only [if_true] at hi
      split at hi
      · cases hi; exact (hu rfl).elim
      · cases hi
    · rw [List.getElem?_set_ne hk] at hi
      exact h2 i v hi hu
theorem sto1_spec {ls l : List AV} {i : Nat} {v : AV} (h : sto1 ls i v = some l) : i < ls.length ∧ (0 < i → lng ls[i - 1]? = false) ∧ l = ls.set i v := by
  unfold sto1 at h
  split at h
  · next hc =>
    cases h
    simp only [Bool.and_eq_true, Bool.not_eq_true'] at hc
    refine ⟨Nat.blt_eq.mp hc.1, fun hi => ?_, rfl⟩
    have h2 := hc.2
    rw [Nat.blt_eq.mpr hi, Bool.true_and] at h2
    exact h2
  · cases h
theorem sto2_spec {ls l : List AV} {i : Nat} {v : AV} (h : sto2 ls i v = some l) : i + 1 < ls.length ∧ (0 < i → lng ls[i - 1]? = false) ∧ l = (ls.set i v).set (i + 1) aU := by
  unfold sto2 at h
  split at h
  · next hc =>
    cases h
    simp only [Bool.and_eq_true, Bool.not_eq_true'] at hc
    refine ⟨Nat.blt_eq.mp hc.1, fun hi => ?_, rfl⟩
    have h2 := hc.2
    rw [Nat.blt_eq.mpr hi, Bool.true_and] at h2
    exact h2
  · cases h
/-- what a store of one slot leaves -/
theorem RLo.put1 {b nL : Nat} {ws : va_W} {ls : List AV} {lv : List (Nat × Value)} {i : Nat} {v : AV} {x : Value} (h0 : ls.length = nL) (h2 : ∀ (i : Nat) (v : AV), ls[i]? = some v → v ≠ aU → ∃ x, (i, x) ∈ lv ∧ RV b ws v x) (hi : i < ls.length) (hl : 0 < i → lng ls[i - 1]? = false) (hv : RV b ws v x) :
    ∀ la', lv_has la' nL ((i, x) :: lv.filter (fun q => !(q.1 == i) && !(q.1 + 1 == i && q.2.category == 2))) → RLo b ws nL (ls.set i v) la' := by
  intro la' hla
  refine ⟨by rw [List.length_set]; exact h0, _, hla, fun j w hj hu => ?_⟩
  by_cases hk : i = j
  · subst hk
    rw [List.getElem?_set_self hi] at hj
    cases hj
    exact ⟨x, List.mem_cons_self, hv⟩
  · rw [List.getElem?_set_ne hk] at hj
    obtain ⟨y, e1, e2⟩ := h2 j w hj hu
    refine ⟨y, List.mem_cons_of_mem _ (List.mem_filter.mpr ⟨e1, ?_⟩), e2⟩
    have g1 : (j == i) = false := by simp; omega
    have g2 : (j + 1 == i && y.category == 2) = false := by
      by_cases hj1 : j + 1 = i
      · have hl' := hl (by omega)
        rw [show i - 1 = j from by omega, hj] at hl'
        rcases w with a | a | a | a
        · obtain ⟨z, rfl, -⟩ := e2; simp [Value.category]
        · simp [lng] at hl'
        · obtain ⟨z, rfl, -⟩ := e2; simp [Value.category]
        · exact e2.elim
      · simp [hj1]
    simp [g1, g2]
theorem RLo.put2 {b nL : Nat} {ws : va_W} {ls : List AV} {lv : List (Nat × Value)} {i : Nat} {v : AV} {x : Value} (h0 : ls.length = nL) (h2 : ∀ (i : Nat) (v : AV), ls[i]? = some v → v ≠ aU → ∃ x, (i, x) ∈ lv ∧ RV b ws v x) (hi : i + 1 < ls.length) (hl : 0 < i → lng ls[i - 1]? = false) (hv : RV b ws v x) :
    ∀ la', lv_has la' nL ((i, x) :: lv.filter (fun q => !(q.1 == i) && (!(q.1 == i + 1) && !(q.1 + 1 == i && q.2.category == 2)))) → RLo b ws nL ((ls.set i v).set (i + 1) aU) la' := by
  intro la' hla
  refine ⟨by rw [List.length_set, List.length_set]; exact h0, _, hla, fun j w hj hu => ?_⟩
  by_cases hk1 : i + 1 = j
  · subst hk1
    rw [List.getElem?_set_self (by rw [List.length_set]; exact hi)] at hj
    cases hj
    exact (hu rfl).elim
  rw [List.getElem?_set_ne hk1] at hj
  by_cases hk : i = j
  · subst hk
    rw [List.getElem?_set_self (by omega)] at hj
    cases hj
    exact ⟨x, List.mem_cons_self, hv⟩
  · rw [List.getElem?_set_ne hk] at hj
    obtain ⟨y, e1, e2⟩ := h2 j w hj hu
    refine ⟨y, List.mem_cons_of_mem _ (List.mem_filter.mpr ⟨e1, ?_⟩), e2⟩
    have g1 : (j == i) = false := by simp; omega
    have g3 : (j == i + 1) = false := by simp; omega
    have g2 : (j + 1 == i && y.category == 2) = false := by
      by_cases hj1 : j + 1 = i
      · have hl' := hl (by omega)
        rw [show i - 1 = j from by omega, hj] at hl'
        rcases w with a | a | a | a
        · obtain ⟨z, rfl, -⟩ := e2; simp [Value.category]
        · simp [lng] at hl'
        · obtain ⟨z, rfl, -⟩ := e2; simp [Value.category]
        · exact e2.elim
      · simp [hj1]
    simp [g1, g2, g3]
def dd (s s' : SG) (j : Int) : Nat := (s' (-1) j - s (-1) j).toNat
theorem dd_self (s : SG) (j : Int) : dd s s j = 0 := by simp [dd]
def FrC (cc : ByteArray) (own nm : String) (nL dp : Nat) (p : Program) (R : Room) (s : State) (m : MethodId) (args : Array Value) (meth : Method) (c : Code) : Prop :=
  p.tables.exec = Jvm.exec ∧ c.code = cc ∧ c.maxLocals = nL ∧ s.vm.findClass own = some m.cls ∧ (∀ w ∈ Gtbl, w.before args s = true) ∧ dp ≤ R.frames ∧ 42 * dp ≤ R.locals ∧ (nm = "<init>" → meth.name = nm) ∧ NW s
def ScC (law : Bool) (b : Nat) (s : State) (A : Nat → Prop) (sg : SG) : Prop := law = true → ∃ (L : Nat) (xs : Nat → Int32), va_X b L xs s s.heap ∧ b < s.heap.size ∧ ¬ A b ∧ L ≤ 3584 ∧ sg (-7) (-1) = L ∧ ∀ i : Nat, i < L → (xs i).toInt = sg (-7) i
def FSt (b : Nat) (D : va_G) (A : Nat → Prop) (s : State) (nL : Nat) (ws : va_W) (sg : SG) (ls st : List AV) (H : Heap) (locs : List Loc) (la : Array Slot) (sa : List Value) : Prop := RW b D s H A ws sg ∧ va_S A s.heap H locs ∧ RLo b ws nL ls la ∧ RSt b ws st sa
/-- an instruction's row -/
def Row (cc : ByteArray) (own nm : String) (nL dp : Nat) (law : Bool) (pc : Nat) (ins : ClassFile.Instr) (nx : Nat) : Prop :=
  ∀ (p : Program) (l : Launch) (e : Env) (R : Room) (s : State) (m : MethodId) (args : Array Value) (below : List Frame) (meth : Method) (c : Code) (Q : State → Prop) (b : Nat) (D : va_G) (A : Nat → Prop) (H : Heap) (locs : List Loc) (ws : va_W) (sg : SG) (ls st : List AV) (la : Array Slot) (sa : List Value) (cells slots : Nat),
    FrC cc own nm nL dp p R s m args meth c → ScC law b s A sg → (∀ q, s.heap.size ≤ q → A q) → FSt b D A s nL ws sg ls st H locs la sa → ∀ q : SR, stp ins nx ls st sg = some q → cells + dd sg q.2.2.2 0 ≤ R.cells ∧ slots + dd sg q.2.2.2 1 ≤ R.slots →
    (∀ (H' : Heap) (locs' : List Loc) (ws' : va_W) (la' : Array Slot) (sa' : List Value), Ext ws ws' → FSt b D A s nL ws' q.2.2.2 q.2.1 q.2.2.1 H' locs' la' sa' → W p l e R s m args below meth c H' locs' (cells + dd sg q.2.2.2 0) (slots + dd sg q.2.2.2 1) Q (F0 m q.1 la' sa')) →
    W p l e R s m args below meth c H locs cells slots Q (F0 m pc la sa)
/-- a row that writes nothing in the heap -/
def RowP (cc : ByteArray) (own nm : String) (nL dp : Nat) (law : Bool) (pc : Nat) (ins : ClassFile.Instr) (nx : Nat) : Prop :=
  ∀ (p : Program) (l : Launch) (e : Env) (R : Room) (s : State) (m : MethodId) (args : Array Value) (below : List Frame) (meth : Method) (c : Code) (Q : State → Prop) (b : Nat) (D : va_G) (A : Nat → Prop) (H : Heap) (locs : List Loc) (ws : va_W) (sg : SG) (ls st : List AV) (la : Array Slot) (sa : List Value) (cells slots : Nat),
    FrC cc own nm nL dp p R s m args meth c → ScC law b s A sg → RW b D s H A ws sg → va_S A s.heap H locs → RLo b ws nL ls la → RSt b ws st sa → cells ≤ R.cells ∧ slots ≤ R.slots → ∀ q : SR, stp ins nx ls st sg = some q → q.2.2.2 = sg ∧
    ((∀ (la' : Array Slot) (sa' : List Value), RLo b ws nL q.2.1 la' → RSt b ws q.2.2.1 sa' → W p l e R s m args below meth c H locs cells slots Q (F0 m q.1 la' sa')) →
    W p l e R s m args below meth c H locs cells slots Q (F0 m pc la sa))
theorem RowP.row {cc : ByteArray} {own nm : String} {nL dp : Nat} {law : Bool} {pc : Nat} {ins : ClassFile.Instr} {nx : Nat} (h : RowP cc own nm nL dp law pc ins nx) : Row cc own nm nL dp law pc ins nx := by
  intro p l e R s m args below meth c Q b D A H locs ws sg ls st la sa cells slots F hsc hA X q hq hb K
  obtain ⟨hW, hS, hL, hT⟩ := X
  obtain ⟨e1, e2⟩ := h p l e R s m args below meth c Q b D A H locs ws sg ls st la sa cells slots F hsc hW hS hL hT ⟨Nat.le_trans (Nat.le_add_right _ _) hb.1, Nat.le_trans (Nat.le_add_right _ _) hb.2⟩ q hq
  refine e2 fun la' sa' h1 h2 => ?_
  have k := K H locs ws la' sa' Ext.rf ⟨by rw [e1]; exact hW, hS, h1, h2⟩
  rw [e1] at k
  simpa only [dd_self, Nat.add_zero] using k

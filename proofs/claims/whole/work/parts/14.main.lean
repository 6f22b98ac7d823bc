/-! what the reading answers, the machine answers -/
theorem RSt.append {b : Nat} {ws : va_W} : ∀ {a : List AV} {x : List Value} {c : List AV} {y : List Value}, RSt b ws a x → RSt b ws c y → RSt b ws (a ++ c) (x ++ y)
  | [], [], _, _, _, h2 => h2
  | _ :: _, _ :: _, _, _, h1, h2 => ⟨h1.1, RSt.append h1.2 h2⟩
  | [], _ :: _, _, _, h1, _ => h1.elim
  | _ :: _, [], _, _, h1, _ => h1.elim
theorem RSt.reverse {b : Nat} {ws : va_W} : ∀ {a : List AV} {x : List Value}, RSt b ws a x → RSt b ws a.reverse x.reverse
  | [], [], _ => trivial
  | v :: a, w :: x, h => by
    rw [List.reverse_cons, List.reverse_cons]
    exact RSt.append (RSt.reverse h.2) ⟨h.1, trivial⟩
  | [], _ :: _, h => h.elim
  | _ :: _, [], h => h.elim
theorem RSt.split {b : Nat} {ws : va_W} : ∀ (n : Nat) {st : List AV} {sa : List Value}, RSt b ws st sa → RSt b ws (st.take n) (sa.take n) ∧ RSt b ws (st.drop n) (sa.drop n)
  | 0, _, _, h => ⟨trivial, h⟩
  | n + 1, [], [], _ => ⟨trivial, trivial⟩
  | n + 1, v :: a, w :: x, h => ⟨⟨h.1, (RSt.split n h.2).1⟩, (RSt.split n h.2).2⟩
  | _ + 1, [], _ :: _, h => h.elim
  | _ + 1, _ :: _, [], h => h.elim
theorem RSt.len {b : Nat} {ws : va_W} : ∀ {st : List AV} {sa : List Value}, RSt b ws st sa → st.length = sa.length
  | [], [], _ => rfl
  | v :: a, w :: x, h => by rw [List.length_cons, List.length_cons, RSt.len h.2]
  | [], _ :: _, h => h.elim
  | _ :: _, [], h => h.elim
theorem ent_args {b : Nat} {ws : va_W} : ∀ {as : List AV} {As : List Value} (k : Nat), RSt b ws as As → (ent as).length = (lg_sl As).length ∧ ∀ (i : Nat) (v : AV), (ent as)[i]? = some v → v ≠ aU → ∃ x, (k + i, x) ∈ lv_args k As ∧ RV b ws v x
  | [], [], _, _ => ⟨rfl, fun i v h => by simp [ent] at h⟩
  | v :: as, x :: As, k, h => by
    have h1 := h.1
    rcases v with a | a | a | a
    · obtain ⟨z, rfl, hz⟩ := h1
      obtain ⟨e1, e2⟩ := ent_args (k + 1) h.2
      refine ⟨?_, fun i w hi hw => ?_⟩
      · show (ent as).length + 1 = _
        rw [e1]; simp [lg_sl, Value.category]
      · cases i with
        | zero => cases hi; exact ⟨_, List.mem_cons_self, z, rfl, hz⟩
        | succ i =>
          obtain ⟨y, g1, g2⟩ := e2 i w hi hw
          refine ⟨y, List.mem_cons_of_mem _ ?_, g2⟩
          rw [show k + (i + 1) = k + 1 + i from by omega]
          exact g1
    · obtain ⟨z, rfl, hz⟩ := h1
      obtain ⟨e1, e2⟩ := ent_args (k + 2) h.2
      refine ⟨?_, fun i w hi hw => ?_⟩
      · show (ent as).length + 1 + 1 = _
        rw [e1]; simp [lg_sl, Value.category]
      · cases i with
        | zero => cases hi; exact ⟨_, List.mem_cons_self, z, rfl, hz⟩
        | succ i =>
          cases i with
          | zero => cases hi; exact (hw rfl).elim
          | succ i =>
            obtain ⟨y, g1, g2⟩ := e2 i w hi hw
            refine ⟨y, List.mem_cons_of_mem _ ?_, g2⟩
            rw [show k + (i + 1 + 1) = k + 2 + i from by omega]
            exact g1
    · obtain ⟨z, rfl, hz⟩ := h1
      obtain ⟨e1, e2⟩ := ent_args (k + 1) h.2
      refine ⟨?_, fun i w hi hw => ?_⟩
      · show (ent as).length + 1 = _
        rw [e1]; simp [lg_sl, Value.category]
      · cases i with
        | zero => cases hi; exact ⟨_, List.mem_cons_self, z, rfl, hz⟩
        | succ i =>
          obtain ⟨y, g1, g2⟩ := e2 i w hi hw
          refine ⟨y, List.mem_cons_of_mem _ ?_, g2⟩
          rw [show k + (i + 1) = k + 1 + i from by omega]
          exact g1
    · exact h1.elim
  | [], _ :: _, _, h => h.elim
  | _ :: _, [], _, h => h.elim
theorem RLo.entry {b n : Nat} {ws : va_W} {as : List AV} {As : List Value} (h : RSt b ws as As) (hn : (ent as).length ≤ n) : RLo b ws n (pad n (ent as)) ((lg_sl As ++ List.replicate (n - (lg_sl As).length) Slot.unset).toArray) := by
  obtain ⟨e1, e2⟩ := ent_args 0 h
  refine ⟨?_, lv_args 0 As, lv_entry As (by omega), fun i v hi hu => ?_⟩
  · unfold pad
    rw [List.length_append, List.length_replicate]
    omega
  · unfold pad at hi
    by_cases hl : i < (ent as).length
    · rw [List.getElem?_append_left hl] at hi
      obtain ⟨x, g1, g2⟩ := e2 i v hi hu
      exact ⟨x, by simpa using g1, g2⟩
    · rw [List.getElem?_append_right (by omega)] at hi
      have := List.eq_of_mem_replicate (List.mem_of_getElem? hi)
      exact (hu this).elim
theorem RW.moved {b : Nat} {D : va_G} {U U' : State} {H : Heap} {A A' : Nat → Prop} {ws : va_W} {sg : SG} (h : RW b D U H A ws sg) (hvm : U.vm.Alike U'.vm) (hA : ∀ q, A q → A' q) : RW b D U' H A' ws sg := by
  obtain ⟨tys, hK, hP, hD, hn, hc⟩ := h
  exact ⟨tys, va_K.moved hvm hK, hP, hD.weaken (fun _ q _ hq => hA q.1 hq), hn, hc⟩
theorem RW.self {b : Nat} {D : va_G} {U : State} {H : Heap} {A : Nat → Prop} {ws : va_W} {sg : SG} {sz : Nat} (h : RW b D U H A ws sg) : RW b D U H (va_A ws sz) ws sg := by
  obtain ⟨tys, hK, hP, hD, hn, hc⟩ := h
  exact ⟨tys, hK, hP, hD.self, hn, hc⟩
theorem ScC.gd {law : Bool} {b : Nat} {s : State} {A : Nat → Prop} {sg sg1 : SG} (h : ScC law b s A sg) (hg : Gd sg sg1) : ScC law b s A sg1 := by
  intro hl
  obtain ⟨L, xs, h1, h2, h3, h4, h5, h6⟩ := h hl
  exact ⟨L, xs, h1, h2, h3, h4, by rw [hg.2.2, h5], fun i hi => by rw [hg.2.2]; exact h6 i hi⟩
def FrM (M : Nat) (p : Program) (R : Room) (s : State) (m : MethodId) (args : Array Value) (meth : Method) (c : Code) : Prop := FrC (mnq M).2.1 (mnq M).1.cls (mnq M).1.name (mt M).2.2.1 (mt M).1 p R s m args meth c
def RetAt (M : Nat) (v : AV) (pcr : Nat) (sa : List Value) : Prop :=
  (∃ i : Int32, v = aI i.toInt ∧ sa = [.int i] ∧ decode (mnq M).2.1 pcr = .ok (.ireturn, 1) ∧ ((mt M).2.2.2.1 = 1 ∨ ((mt M).2.2.2.1 = 3 ∧ (i.toInt = 0 ∨ i.toInt = 1)))) ∨
  (∃ i : Int64, v = aL i.toInt ∧ sa = [.long i] ∧ decode (mnq M).2.1 pcr = .ok (.lreturn, 1) ∧ (mt M).2.2.2.1 = 2) ∨
  (v = aU ∧ sa = [] ∧ decode (mnq M).2.1 pcr = .ok (.return_, 1) ∧ (mt M).2.2.2.1 = 0)
/-- the reading's run from a place on, and the machine's -/
def SndAt (n : Nat) : Prop := ∀ (M pc : Nat) (ls st : List AV) (sg : SG) (v : AV) (sg' : SG), run n M pc ls st sg = some (v, sg') → 0 ≤ sg (-1) 0 →
  ∀ (p : Program) (l : Launch) (e : Env) (R : Room) (s : State) (m : MethodId) (args : Array Value) (below : List Frame) (meth : Method) (c : Code) (Q : State → Prop) (b : Nat) (D : va_G) (A : Nat → Prop) (H : Heap) (locs : List Loc) (ws : va_W) (la : Array Slot) (sa : List Value) (cells slots : Nat),
    FrM M p R s m args meth c → ScC (isLaw M) b s A sg → (∀ q, s.heap.size ≤ q → A q) → FSt b D A s (mt M).2.2.1 ws sg ls st H locs la sa → cells + dd sg sg' 0 ≤ R.cells ∧ slots + dd sg sg' 1 ≤ R.slots →
    (∀ (pcr : Nat) (H' : Heap) (locs' : List Loc) (ws' : va_W) (la' : Array Slot) (sa' : List Value), Ext ws ws' → RW b D s H' A ws' sg' → va_S A s.heap H' locs' → RetAt M v pcr sa' → W p l e R s m args below meth c H' locs' (cells + dd sg sg' 0) (slots + dd sg sg' 1) Q (F0 m pcr la' sa')) →
    W p l e R s m args below meth c H locs cells slots Q (F0 m pc la sa)
def CPre (b : Nat) (D : va_G) (ws : va_W) (sg : SG) (As : List Value) (sz : Nat) : Array Value → State → Prop := va_Pc As (fun U => U.heap.size = sz ∧ NW U ∧ RW b D U U.heap (fun _ => True) ws sg)
def CB (b : Nat) (D : va_G) (ws : va_W) (sg1 : SG) (sz : Nat) (u : va_W) (t : State) : Prop := Ext ws u ∧ RW b D t t.heap (va_A ws sz) u sg1
def rmOf (j : Nat) (sg sg1 : SG) : Room := { frames := (mt j).1, cells := dd sg sg1 0, slots := dd sg sg1 1, locals := 42 * (mt j).1 }
abbrev wsOf (j : Nat) : List Cond := Cond.code (mnq j).1 (mnq j).2.1 (mt j).2.2.1 (mnq j).2.2 :: Gtbl
theorem mtOk_spec {j : Nat} (hj : j < 225) : (mt j).1 ≤ 8 ∧ (mt j).2.2.1 ≤ 23 ∧ plainName (mnq j).1.cls = true ∧ (parseMethodDescriptor (mnq j).1.desc).map (fun d => d.parameters.length) = some (if (mt j).2.2.2.2 = -1 then (mt j).2.1 else (mt j).2.1 - 1) ∧
    (((mt j).2.2.2.1 = 0 ∧ (mnq j).2.2 = none) ∨ ((mt j).2.2.2.1 = 1 ∧ (mnq j).2.2 = some .int) ∨ ((mt j).2.2.2.1 = 2 ∧ (mnq j).2.2 = some .long) ∨ ((mt j).2.2.2.1 = 3 ∧ (mnq j).2.2 = some .boolean)) ∧
    ((mt j).2.2.2.2 = -1 ∨ ∃ (c : Nat) (r : vw_C), (mt j).2.2.2.2 = c ∧ vwCl[c]? = some r ∧ r.1 = (mnq j).1.cls) := by
  have h := mtOk_l j hj
  unfold mtOk at h
  simp only [Bool.and_eq_true, decide_eq_true_eq] at h
  obtain ⟨h1, h2, h3, h4, h5, h6⟩ := h
  refine ⟨h1, h2, h3, h4, ?_, ?_⟩
  · revert h5
    generalize (mt j).2.2.2.1 = a
    generalize (mnq j).2.2 = r
    intro h5
    split at h5
    · exact Or.inl ⟨rfl, rfl⟩
    · exact Or.inr (Or.inl ⟨rfl, rfl⟩)
    · exact Or.inr (Or.inr (Or.inl ⟨rfl, rfl⟩))
    · exact Or.inr (Or.inr (Or.inr ⟨rfl, rfl⟩))
    · cases h5
  · revert h6
    generalize (mt j).2.2.2.2 = a
    intro h6
    split at h6
    · next c =>
      split at h6
      · next r hr => exact Or.inr ⟨c, r, rfl, hr, of_decide_eq_true h6⟩
      · cases h6
    · exact Or.inl (of_decide_eq_true h6)
/-- a callee's entry, with what is owed at its end -/
theorem met_body {n : Nat} (IH : SndAt n) {l : Launch} {j : Nat} (hj : j < 225) (hlaw : isLaw j = false) {as : List AV} {As : List Value} {v : AV} {sg sg1 : SG} (hrun : run n j 0 (pad (mt j).2.2.1 (ent as)) [] sg = some (v, sg1)) (h0 : 0 ≤ sg (-1) 0) {b : Nat} {D : va_G} {ws : va_W} (hargs : RSt b ws as As) (hlen : (ent as).length ≤ (mt j).2.2.1) (sz : Nat) {Qc : Array Value → State → Outcome → State → Prop}
    (hq : ∀ (p : Program) (e : Env) (s : State) (m : MethodId) (below : List Frame) (meth : Method) (c : Code), p.tables.exec = Jvm.exec → c.code = (mnq j).2.1 → meth.sig.returnType = (mnq j).2.2 → meth.locks = false → s.heap.size = sz → ∀ (pcr : Nat) (H' : Heap) (locs' : List Loc) (ws' : va_W) (la' : Array Slot) (sa' : List Value), Ext ws ws' → RW b D s H' (va_A ws sz) ws' sg1 → va_S (va_A ws sz) s.heap H' locs' → RetAt j v pcr sa' →
      W p l e (rmOf j sg sg1) s m As.toArray below meth c H' locs' (dd sg sg1 0) (dd sg sg1 1) (MQ below Qc As.toArray s (dd sg sg1 0) (dd sg sg1 1) (va_A ws sz)) (F0 m pcr la' sa')) :
    Met l (mnq j).1 (wsOf j) (rmOf j sg sg1) (CPre b D ws sg As sz) Qc (dd sg sg1 0) (dd sg sg1 1) (va_A ws sz) := by
  have hT := mtOk_spec hj
  refine Met.ofW (cc := (mnq j).2.1) (maxL := (mt j).2.2.1) (ret := (mnq j).2.2) hT.2.2.1 rfl ?_
  intro p e s m args below meth c s₁ B hml hv
  obtain ⟨rfl, hsz, hnw, hW⟩ := hv
  have hts := atoms_spec (ws := wsOf j) B.pre
  have hlocks := B.notSynchronized
  subst hsz
  rw [lg_entry_eq]
  refine IH j 0 _ _ sg v sg1 hrun h0 p l e _ s m As.toArray below meth c _ b D (va_A ws s.heap.size) s.heap [] ws _ [] 0 0 ⟨B.exec, B.bytes, hml, findClass_of_methodNamed B.named, fun w hw => hts w (List.mem_cons_of_mem _ hw), Nat.le_refl _, Nat.le_refl _, fun _ => (name_of_methodNamed B.named B.method).1, hnw⟩ ?_ (fun q hq => Or.inr hq) ⟨hW.self, va_S.rf, RLo.entry hargs hlen, trivial⟩ ⟨by rw [Nat.zero_add]; exact Nat.le_refl _, by rw [Nat.zero_add]; exact Nat.le_refl _⟩ ?_
  · intro hl
    rw [hlaw] at hl
    cases hl
  · intro pcr H' locs' ws' la' sa' hE hW' hS' hR
    rw [Nat.zero_add, Nat.zero_add]
    exact hq p e s m below meth c B.exec B.bytes B.returns hlocks rfl pcr H' locs' ws' la' sa' hE hW' hS' hR
theorem RW.back {b : Nat} {D : va_G} {s t : State} {H' : Heap} {A : Nat → Prop} {ws : va_W} {sg : SG} (h : RW b D s H' A ws sg) (ht : t.heap = H') (hW : s.WarmedH t.vm) : RW b D t t.heap A ws sg := by
  rw [ht]
  exact h.moved hW.alike (fun _ h => h)
theorem met_v {n : Nat} (IH : SndAt n) {l : Launch} {j : Nat} (hj : j < 225) (hlaw : isLaw j = false) {as : List AV} {As : List Value} {sg sg1 : SG} (hrun : run n j 0 (pad (mt j).2.2.1 (ent as)) [] sg = some (aU, sg1)) (h0 : 0 ≤ sg (-1) 0) {b : Nat} {D : va_G} {ws : va_W} (hargs : RSt b ws as As) (hlen : (ent as).length ≤ (mt j).2.2.1) (sz : Nat) :
    Met l (mnq j).1 (wsOf j) (rmOf j sg sg1) (CPre b D ws sg As sz) (va_Qv (fun _ : va_W => True) (CB b D ws sg1 sz) (va_A ws sz)) (dd sg sg1 0) (dd sg sg1 1) (va_A ws sz) := by
  refine met_body IH hj hlaw hrun h0 hargs hlen sz (fun p e s m below meth c hx hcb hr hlocks hsz pcr H' locs' ws' la' sa' hE hW' hS' hR => ?_)
  have hT := (mtOk_spec hj).2.2.2.2.1
  rcases hR with ⟨i, e1, -⟩ | ⟨i, e1, -⟩ | ⟨e1, rfl, hd, hk⟩
  · cases e1
  · cases e1
  · have hret : (mnq j).2.2 = none := by
      rcases hT with h | h | h | h
      · exact h.2
      · have := h.1; omega
      · have := h.1; omega
      · have := h.1; omega
    exact W.vret hx hcb (hr.trans hret) (fun t ht hW => ⟨⟨ws', rfl, trivial, hE, hW'.back ht hW⟩, hS'.F ht⟩) hS'.2.2 hd
theorem met_i {n : Nat} (IH : SndAt n) {l : Launch} {j : Nat} (hj : j < 225) (hlaw : isLaw j = false) {as : List AV} {As : List Value} {a : Int} {sg sg1 : SG} (hrun : run n j 0 (pad (mt j).2.2.1 (ent as)) [] sg = some (aI a, sg1)) (h0 : 0 ≤ sg (-1) 0) {b : Nat} {D : va_G} {ws : va_W} (hargs : RSt b ws as As) (hlen : (ent as).length ≤ (mt j).2.2.1) (sz : Nat) :
    Met l (mnq j).1 (wsOf j) (rmOf j sg sg1) (CPre b D ws sg As sz) (va_Qi (fun (r : Int32) (_ : va_W) => r.toInt = a) (CB b D ws sg1 sz) (va_A ws sz)) (dd sg sg1 0) (dd sg sg1 1) (va_A ws sz) := by
  refine met_body IH hj hlaw hrun h0 hargs hlen sz (fun p e s m below meth c hx hcb hr hlocks hsz pcr H' locs' ws' la' sa' hE hW' hS' hR => ?_)
  have hT := (mtOk_spec hj).2.2.2.2.1
  rcases hR with ⟨i, e1, rfl, hd, hk⟩ | ⟨i, e1, -⟩ | ⟨e1, -⟩
  · have hai : i.toInt = a := by cases e1; rfl
    rcases hk with hk | ⟨hk, hb⟩
    · have hret : (mnq j).2.2 = some .int := by
        rcases hT with h | h | h | h
        · have := h.1; omega
        · exact h.2
        · have := h.1; omega
        · have := h.1; omega
      exact W.iret hx hcb (hr.trans hret) (fun t ht hW => ⟨⟨i, ws', rfl, hai, hE, hW'.back ht hW⟩, hS'.F ht⟩) hS'.2.2 hd
    · have hret : (mnq j).2.2 = some .boolean := by
        rcases hT with h | h | h | h
        · have := h.1; omega
        · have := h.1; omega
        · have := h.1; omega
        · exact h.2
      have hnar : narrow .boolean (.int i) = .int i := by
        rcases hb with hb | hb
        · have : i = 0 := Int32.toInt_inj.mp hb
          rw [this]; rfl
        · have : i = 1 := Int32.toInt_inj.mp hb
          rw [this]; rfl
      exact W.zret hx hcb (hr.trans hret) hnar (fun t ht hW => ⟨⟨i, ws', rfl, hai, hE, hW'.back ht hW⟩, hS'.F ht⟩) hS'.2.2 hd
  · cases e1
  · cases e1
theorem met_l {n : Nat} (IH : SndAt n) {l : Launch} {j : Nat} (hj : j < 225) (hlaw : isLaw j = false) {as : List AV} {As : List Value} {a : Int} {sg sg1 : SG} (hrun : run n j 0 (pad (mt j).2.2.1 (ent as)) [] sg = some (aL a, sg1)) (h0 : 0 ≤ sg (-1) 0) {b : Nat} {D : va_G} {ws : va_W} (hargs : RSt b ws as As) (hlen : (ent as).length ≤ (mt j).2.2.1) (sz : Nat) :
    Met l (mnq j).1 (wsOf j) (rmOf j sg sg1) (CPre b D ws sg As sz) (va_Ql (fun (r : Int64) (_ : va_W) => r.toInt = a) (CB b D ws sg1 sz) (va_A ws sz)) (dd sg sg1 0) (dd sg sg1 1) (va_A ws sz) := by
  refine met_body IH hj hlaw hrun h0 hargs hlen sz (fun p e s m below meth c hx hcb hr hlocks hsz pcr H' locs' ws' la' sa' hE hW' hS' hR => ?_)
  have hT := (mtOk_spec hj).2.2.2.2.1
  rcases hR with ⟨i, e1, -⟩ | ⟨i, e1, rfl, hd, hk⟩ | ⟨e1, -⟩
  · cases e1
  · have hai : i.toInt = a := by cases e1; rfl
    have hret : (mnq j).2.2 = some .long := by
      rcases hT with h | h | h | h
      · have := h.1; omega
      · have := h.1; omega
      · exact h.2
      · have := h.1; omega
    exact W.lret hx hcb (hr.trans hret) (fun t ht hW => ⟨⟨i, ws', rfl, hai, hE, hW'.back ht hW⟩, hS'.F ht⟩) hS'.2.2 hd
  · cases e1
theorem CPre.blind {b : Nat} {D : va_G} {ws : va_W} {sg : SG} {As : List Value} {sz : Nat} : FrameBlind (CPre b D ws sg As sz) := by
  intro a U g mk h
  obtain ⟨h1, h2, h3, h4⟩ := h
  exact ⟨h1, h2, h3.blind, h4.moved (U' := U.calling g mk a) (Vm.Alike.refl U.vm) (fun _ h => h)⟩
set_option maxHeartbeats 4000000 in
theorem snd : ∀ n, SndAt n := by
  intro n
  induction n with
  | zero => intro M pc ls st sg v sg' h; cases h
  | succ n IH =>
    intro M pc ls st sg v sg' hrun h0 p l e R s m args below meth c Q b D A H locs ws la sa cells slots F hsc hA X hbud hret
    unfold run at hrun
    split at hrun
    case h_2 => cases hrun
    next f hf =>
    obtain ⟨ins, nx, ks⟩ := f
    have hok := okT M _ (fch_mem hf)
    have hM := fch_lt hf
    have hcl := clOk_of hf
    obtain ⟨hW, hS, hL, hT⟩ := X
    have hL := hL.kil ks
    rcases act_spec hrun with ⟨rfl, a, rfl, e, hk⟩ | ⟨rfl, a, rfl, e, hk⟩ | ⟨rfl, rfl, e, hk⟩ | ⟨j, hins, hc⟩ | ⟨hrow, q, hq, hr⟩
    · cases e
      have hd : decode (mnq M).2.1 pc = .ok (.ireturn, 1) := hok
      obtain ⟨x, xs, rfl, e1, hT1⟩ := hT.i
      have := hT1.nil
      subst this; subst e1
      have k := hret pc H locs ws la _ Ext.rf hW hS (Or.inl ⟨x, rfl, rfl, hd, hk⟩)
      simpa only [dd_self, Nat.add_zero] using k
    · cases e
      have hd : decode (mnq M).2.1 pc = .ok (.lreturn, 1) := hok
      obtain ⟨x, xs, rfl, e1, hT1⟩ := hT.l
      have := hT1.nil
      subst this; subst e1
      have k := hret pc H locs ws la _ Ext.rf hW hS (Or.inr (Or.inl ⟨x, rfl, rfl, hd, hk⟩))
      simpa only [dd_self, Nat.add_zero] using k
    · cases e
      have hd : decode (mnq M).2.1 pc = .ok (.return_, 1) := hok
      have := hT.nil
      subst this
      have k := hret pc H locs ws la _ Ext.rf hW hS (Or.inr (Or.inr ⟨rfl, rfl, hd, hk⟩))
      simpa only [dd_self, Nat.add_zero] using k
    · obtain ⟨c1, c2, c3, c4, c5, v1, sg1, c6, c7⟩ := cal_spec hc
      have hg1 := run_gd _ _ _ _ _ _ _ _ c6 h0
      have h01 : 0 ≤ sg1 (-1) 0 := Int.le_trans h0 hg1.1
      have hg2 : Gd sg1 sg' := by
        rcases c7 with ⟨-, -, e2⟩ | ⟨-, a, -, e2⟩ | ⟨-, a, -, e2⟩
        · exact run_gd _ _ _ _ _ _ _ _ e2 h01
        · exact run_gd _ _ _ _ _ _ _ _ e2 h01
        · exact run_gd _ _ _ _ _ _ _ _ e2 h01
      have ed0 := dd_add hg1 hg2 (j := 0) (Or.inl rfl)
      have ed1 := dd_add hg1 hg2 (j := 1) (Or.inr rfl)
      rw [ed0, ed1] at hbud hret
      obtain ⟨hx, hcb, hml, hown, hts, hfr, hlo, hnm, hnw⟩ := F
      have hj : j < 225 := by
        rcases hins with rfl | rfl | rfl <;> (simp only [clOk, Bool.and_eq_true, decide_eq_true_eq] at hcl; exact hcl.2)
      obtain ⟨m1, m2, m3, m4, m5, m6⟩ := mtOk_spec hj
      obtain ⟨M1, -⟩ := mtOk_spec hM
      have hlaw : isLaw j = false := by
        unfold isLaw
        by_cases h224 : j = 224
        · subst h224
          have : (mt 224).1 = 8 := rfl
          omega
        · simp [h224]
      obtain ⟨hsp1, hsp2⟩ := hT.split (mt j).2.1
      have hargs := hsp1.reverse
      have hsa : sa = (sa.take (mt j).2.1).reverse.reverse ++ sa.drop (mt j).2.1 := by rw [List.reverse_reverse, List.take_append_drop]
      have hAl : (sa.take (mt j).2.1).reverse.length = (mt j).2.1 := by
        rw [List.length_reverse, List.length_take, ← hT.len]
        omega
      generalize hAs : (sa.take (mt j).2.1).reverse = As at hargs hsa hAl
      generalize hrest : sa.drop (mt j).2.1 = rest at hsp2 hsa
      have hws8 : (rest.map fun v => v.category).sum ≤ 8 := by rw [hsp2.wsum]; exact c3
      have hfree : ∀ q, va_A ws H.size q → A q := by
        intro q hq
        rcases hq with ⟨k, e9, hq⟩ | hq
        · obtain ⟨tys, -, -, hD, -⟩ := hW
          exact hD.2 k _ hq
        · exact hA q (Nat.le_trans hS.1 hq)
      have hpc : ∀ U : State, U.heap = H → s.WarmedH U.vm → CPre b D ws sg As H.size As.toArray U := by
        intro U hU hWm
        refine ⟨rfl, by rw [hU], hnw.warm hWm, ?_⟩
        rw [hU]
        exact hW.moved hWm.alike (fun _ _ => trivial)
      have hrm1 : (rmOf j sg sg1).frames + 1 ≤ R.frames := by show (mt j).1 + 1 ≤ _; omega
      have hrm2 : 8 + ((mt j).2.2.1 + 11) + (rmOf j sg sg1).locals ≤ R.locals := by show 8 + ((mt j).2.2.1 + 11) + 42 * (mt j).1 ≤ _; omega
      have hbd : cells + dd sg sg1 0 ≤ R.cells ∧ slots + dd sg sg1 1 ≤ R.slots := ⟨by omega, by omega⟩
      have hobj : ∀ cI : Nat, (mt j).2.2.2.2 = cI → ∃ (bb : Nat) (As' : List Value) (cellB : Cell), As = .ref bb :: As' ∧ H[bb]? = some cellB ∧ cellB.vm.isStatics = false ∧ s.vm.findClass (mnq j).1.cls = some cellB.cls := by
        intro cI hcI
        obtain ⟨o, lo, e1, e2⟩ := c5 cI hcI
        rw [e1] at hargs
        obtain ⟨x, xs, rfl, e3, -⟩ := hargs.a
        rcases m6 with h | ⟨c9, r9, g1, g2, g3⟩
        · omega
        · have : c9 = cI := by omega
          subst this
          obtain ⟨tys, hK, hP, hD, hn, hcells⟩ := hW
          obtain ⟨n9, fs, -, hw9, -, -⟩ := RW.obj (A := A) (D := D) (U := s) (H := H) hcells e3 e2 g2
          obtain ⟨cell, q1, q2, q3⟩ := va_recv hK hP g2 hw9
          exact ⟨x, xs, cell, rfl, q1, q2, by rw [← g3]; exact q3⟩
      have hcall : nx = pc + 3 ∧ ∀ (Qc : Array Value → State → Outcome → State → Prop), Met l (mnq j).1 (wsOf j) (rmOf j sg sg1) (CPre b D ws sg As H.size) Qc (dd sg sg1 0) (dd sg sg1 1) (va_A ws H.size) → va_Run p l e R s m args below meth c H locs cells slots (dd sg sg1 0) (dd sg sg1 1) (F0 m pc la (As.reverse ++ rest)) rest (Qc As.toArray) (va_A ws H.size) := by
        rcases hins with rfl | rfl | rfl
        · obtain ⟨e1, e2⟩ : nx = pc + 3 ∧ CalOk (mnq M).2.1 (mnq M).1.cls (mt M).2.2.1 pc 1 (mnq j).1 (mnq j).2.1 (mt j).2.2.1 (mnq j).2.2 := hok
          simp only [clOk, Bool.and_eq_true, decide_eq_true_eq] at hcl
          refine ⟨e1, fun Qc hMet => e2 p l e R s m args below meth c H locs cells slots _ _ Qc _ _ _ As rest la ⟨hx, hcb, hml, hown, hts⟩ hnw hMet rfl rfl hrm1 hrm2 CPre.blind (fun h => by cases h) (fun h => by cases h) hpc ?_ hL.size hws8 hbd⟩
          rw [m4, if_pos hcl.1, if_pos rfl, hAl]
        · obtain ⟨e1, e2⟩ : nx = pc + 3 ∧ CalOk (mnq M).2.1 (mnq M).1.cls (mt M).2.2.1 pc 0 (mnq j).1 (mnq j).2.1 (mt j).2.2.1 (mnq j).2.2 := hok
          simp only [clOk, Bool.and_eq_true, decide_eq_true_eq] at hcl
          have hcN : (mt j).2.2.2.2 = ((mt j).2.2.2.2.toNat : Int) := by omega
          refine ⟨e1, fun Qc hMet => e2 p l e R s m args below meth c H locs cells slots _ _ Qc _ _ _ As rest la ⟨hx, hcb, hml, hown, hts⟩ hnw hMet rfl rfl hrm1 hrm2 CPre.blind (fun _ => hobj _ hcN) (fun h => by cases h) hpc ?_ hL.size hws8 hbd⟩
          rw [m4, if_neg (by omega), if_neg (by omega), hAl]
        · obtain ⟨e1, e2⟩ : nx = pc + 3 ∧ CalOk (mnq M).2.1 (mnq M).1.cls (mt M).2.2.1 pc 2 (mnq j).1 (mnq j).2.1 (mt j).2.2.1 (mnq j).2.2 := hok
          simp only [clOk, Bool.and_eq_true, decide_eq_true_eq] at hcl
          have hcN : (mt j).2.2.2.2 = ((mt j).2.2.2.2.toNat : Int) := by omega
          refine ⟨e1, fun Qc hMet => e2 p l e R s m args below meth c H locs cells slots _ _ Qc _ _ _ As rest la ⟨hx, hcb, hml, hown, hts⟩ hnw hMet rfl rfl hrm1 hrm2 CPre.blind (fun h => by cases h) (fun _ => ?_) hpc ?_ hL.size hws8 hbd⟩
          · obtain ⟨bb, As', -, e9, -⟩ := hobj _ hcN
            exact ⟨bb, As', e9⟩
          · rw [m4, if_neg (by omega), if_neg (by omega), hAl]
      obtain ⟨rfl, hcall⟩ := hcall
      rw [hsa]
      have next : ∀ (st1 : List AV) (sa1 : List Value) (u : va_W) (t : State) (H1 : Heap) (locs1 : List Loc), run n M (pc + 3) (kil ks ls) (st1 ++ st.drop (mt j).2.1) sg1 = some (v, sg') → t.heap = H1 → s.vm.Alike t.vm → CB b D ws sg1 H.size u t → va_S A s.heap H1 locs1 → RSt b u st1 sa1 → W p l e R s m args below meth c H1 locs1 (cells + dd sg sg1 0) (slots + dd sg sg1 1) Q (F0 m (pc + 3) la (sa1 ++ rest)) := by
        intro st1 sa1 u t H1 locs1 hr1 ht hvm hB hS1 hst1
        obtain ⟨hE, hWt⟩ := hB
        rw [ht] at hWt
        refine IH M (pc + 3) _ _ sg1 v sg' hr1 h01 p l e R s m args below meth c Q b D A H1 locs1 u la _ _ _ ⟨hx, hcb, hml, hown, hts, hfr, hlo, hnm, hnw⟩ (hsc.gd hg1) hA ⟨hWt.moved hvm.symm hfree, hS1, hL.ext hE, RSt.append hst1 (hsp2.ext hE)⟩ ⟨by omega, by omega⟩ ?_
        intro pcr H' locs' ws' la' sa' hE' hW' hS' hR'
        rw [Nat.add_assoc, Nat.add_assoc]
        exact hret pcr H' locs' ws' la' sa' (hE.tr hE') hW' hS' hR'
      rcases c7 with ⟨-, rfl, e2⟩ | ⟨-, a, rfl, e2⟩ | ⟨-, a, rfl, e2⟩
      · exact va_callv (hcall _ (met_v IH hj hlaw c6 h0 hargs c4 H.size)) hS (fun q _ h => hfree q h) hfree (fun u t H1 locs1 ht hvm hw hB hz1 hk1 hS1 => next [] [] u t H1 locs1 e2 ht hvm hB hS1 trivial)
      · exact va_calli (hcall _ (met_i IH hj hlaw c6 h0 hargs c4 H.size)) hS (fun q _ h => hfree q h) hfree (fun r u t H1 locs1 ht hvm hw hB hz1 hk1 hS1 => next [aI a] [.int r] u t H1 locs1 e2 ht hvm hB hS1 ⟨⟨r, rfl, hw⟩, trivial⟩)
      · exact va_calll (hcall _ (met_l IH hj hlaw c6 h0 hargs c4 H.size)) hS (fun q _ h => hfree q h) hfree (fun r u t H1 locs1 ht hvm hw hB hz1 hk1 hS1 => next [aL a] [.long r] u t H1 locs1 e2 ht hvm hB hS1 ⟨⟨r, rfl, hw⟩, trivial⟩)
    · have hg1 := stp_gd hq h0
      have h01 : 0 ≤ q.2.2.2 (-1) 0 := Int.le_trans h0 hg1.1
      have hg2 := run_gd _ _ _ _ _ _ _ _ hr h01
      have ed0 := dd_add hg1 hg2 (j := 0) (Or.inl rfl)
      have ed1 := dd_add hg1 hg2 (j := 1) (Or.inr rfl)
      rw [ed0, ed1] at hbud hret
      refine hrow _ _ _ _ _ _ _ _ hok p l e R s m args below meth c Q b D A H locs ws sg (kil ks ls) st la sa cells slots F hsc hA ⟨hW, hS, hL, hT⟩ q hq ⟨by omega, by omega⟩ (fun H' locs' ws' la' sa' hE hF => ?_)
      refine IH M q.1 _ _ _ v sg' hr h01 p l e R s m args below meth c Q b D A H' locs' ws' la' sa' _ _ F (hsc.gd hg1) hA hF ⟨by omega, by omega⟩ ?_
      intro pcr H2 locs2 ws2 la2 sa2 hE2 hW2 hS2 hR2
      rw [Nat.add_assoc, Nat.add_assoc]
      exact hret pcr H2 locs2 ws2 la2 sa2 (hE.tr hE2) hW2 hS2 hR2

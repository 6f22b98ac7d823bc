/-! the law's store at its entry: nothing made, the script at place -7 -/
def sg0 (L : Nat) (xs : Nat → Int) : SG := fun k i => if k = -7 then (if i = -1 then (L : Int) else xs i.toNat) else 0
def LawAm : Prop := ∀ (L : Nat) (xs : Nat → Int), L ≤ 3584 → (∀ i, -2147483648 ≤ xs i ∧ xs i < 2147483648) → ∃ sg', sem 224 0 [aA (-7), aU, aU, aU] [] (sg0 L xs) = some (aI 1, sg') ∧ sg' (-1) 0 ≤ 600000 ∧ sg' (-1) 1 ≤ 7302250
/-! THE CLAIM OUT OF ONE WALK OF THE LAW'S BODY. Your part is whole_start (and what it stands on); all else here is the same for every law, but numbers. -/
def R_law : String := "UnsoldAtElevenLaw"
def lw_P (b : Addr) (xs : List Int32) (args : Array Value) (s : State) : Prop := args = #[.ref b] ∧ s.IntsAt b xs ∧ xs.length ≤ 3584 ∧ (Jvm.Cond.and given_1 narrow_1).before args s = true
def lw_Q (_ : Array Value) (s : State) (o : Outcome) (t : State) : Prop := o = .returned (some (.int 1)) ∧ Framed s o t [] 600000 7302250
def lw_Z (below : List Frame) (a : Array Value) (s : State) : State → Prop := fun t => ∃ o, t.status = .running ∧ Ended t below o ∧ lw_Q a s o t
/-- the law's own end, with 1 on the stack, nothing written that was there before, its room as the claim has it -/
theorem lw_ret {p : Program} {l : Launch} {e : Env} {s : State} {m : MethodId} {below : List Frame} {meth : Method} {c : Code} {b : Nat} (hx : p.tables.exec = Jvm.exec) (hb : c.code = code) (hr : meth.sig.returnType = ret) (hlocks : meth.locks = false) {pc : Nat} {H : Heap} {ls : Array Slot} (hdg : decode code pc = .ok (.ireturn, 1)) : W p l e room_1 s m #[Value.ref b] below meth c H [] 600000 7302250 (lw_Z below #[Value.ref b] s) (F0 m pc ls [.int 1]) := by
  intro T hT X
  obtain ⟨fs, hret, hrun, hended, hW, hframe⟩ := X.leave (v := some (.int 1)) (hlocks := hlocks) (fun h => by rw [hr] at h; cases h)
  have hmeth' : T.vm.method? m = some meth := X.method'
  refine ⟨T.setFrames fs, ?_, .returned (some (.int 1)), hrun, hended, rfl, ⟨_, rfl⟩, hW, hframe⟩
  jvm_step X.here [X.here.top, hx, hb, hdg, hmeth', hr, ret, narrow_b1]
  (try refine ⟨rfl, ?_⟩); (try refine ⟨rfl, ?_⟩)
  first | (intro acts; rw [hret _ acts rfl rfl rfl]) | rw [hret _ _ rfl rfl rfl]
  exact Steps.refl _
/-- what holds at the law's entry: the machine, the code, the tables' words (any of lw_tbl by 'hts w (by decide +kernel)'), the script of L ints xs at the cell b, what the Statement gives of the start (any of its parts by flat_of_before) -/
def lw_At (p : Program) (s : State) (m : MethodId) (meth : Method) (c : Code) (b L : Nat) (xs : Nat → Int32) : Prop :=
  p.tables.exec = Jvm.exec ∧ c.code = code ∧ meth.sig.returnType = ret ∧ c.maxLocals = 4 ∧ s.vm.findClass R_law = some m.cls ∧ (∀ w ∈ lw_tbl, w.before #[Value.ref b] s = true) ∧ va_X b L xs s s.heap ∧ b < s.heap.size ∧ meth.locks = false ∧ (Jvm.Cond.and given_1 narrow_1).before #[Value.ref b] s = true
theorem whole_of (HL : LawAm) {p : Program} {e : Env} {s : State} {m : MethodId} {below : List Frame} {meth : Method} {c : Code} (l : Launch) {b L : Nat} {xs : Nat → Int32} (hL : L ≤ 3584) (C0 : lw_At p s m meth c b L xs) : W p l e room_1 s m #[Value.ref b] below meth c s.heap [] 0 0 (lw_Z below #[Value.ref b] s) (entryFrame m ([Value.ref b] : List Value).toArray 4) := by
  obtain ⟨hx, hb, hr, hml, hown, hts, hX, hbl, hlocks, hgv⟩ := C0
  obtain ⟨c0, iS0, hKn0⟩ := u_known (C := RX0) (T := TX0) (N := 5) (n := 5) hts (fun w hw => (List.mem_filter.mp (inX0 w hw)).1) (hts (.instantiable RX0 5) (List.mem_of_getElem? (i := 117) (by decide +kernel)))
  obtain ⟨c1, iS1, hKn1⟩ := u_known (C := RX1) (T := TX1) (N := 11) (n := 11) hts (fun w hw => (List.mem_filter.mp (inX1 w hw)).1) (hts (.instantiable RX1 11) (List.mem_of_getElem? (i := 184) (by decide +kernel)))
  obtain ⟨c2, iS2, hKn2⟩ := u_known (C := RX2) (T := TX2) (N := 3) (n := 3) hts (fun w hw => (List.mem_filter.mp (inX2 w hw)).1) (hts (.instantiable RX2 3) (List.mem_of_getElem? (i := 100) (by decide +kernel)))
  obtain ⟨c3, iS3, hKn3⟩ := u_known (C := RX3) (T := TX3) (N := 13) (n := 13) hts (fun w hw => (List.mem_filter.mp (inX3 w hw)).1) (hts (.instantiable RX3 13) (List.mem_of_getElem? (i := 244) (by decide +kernel)))
  obtain ⟨c4, iS4, hKn4⟩ := u_known (C := RX4) (T := TX4) (N := 3) (n := 3) hts (fun w hw => (List.mem_filter.mp (inX4 w hw)).1) (hts (.instantiable RX4 3) (List.mem_of_getElem? (i := 140) (by decide +kernel)))
  obtain ⟨c5, iS5, hKn5⟩ := u_known (C := RX5) (T := TX5) (N := 2) (n := 2) hts (fun w hw => (List.mem_filter.mp (inX5 w hw)).1) (hts (.instantiable RX5 2) (List.mem_of_getElem? (i := 86) (by decide +kernel)))
  obtain ⟨c6, iS6, hKn6⟩ := u_known (C := RX6) (T := TX6) (N := 8) (n := 8) hts (fun w hw => (List.mem_filter.mp (inX6 w hw)).1) (hts (.instantiable RX6 8) (List.mem_of_getElem? (i := 291) (by decide +kernel)))
  obtain ⟨c7, iS7, hKn7⟩ := u_known (C := RX7) (T := TX7) (N := 7) (n := 7) hts (fun w hw => (List.mem_filter.mp (inX7 w hw)).1) (hts (.instantiable RX7 7) (List.mem_of_getElem? (i := 156) (by decide +kernel)))
  obtain ⟨c8, iS8, hKn8⟩ := u_known (C := RX8) (T := TX8) (N := 11) (n := 11) hts (fun w hw => (List.mem_filter.mp (inX8 w hw)).1) (hts (.instantiable RX8 11) (List.mem_of_getElem? (i := 78) (by decide +kernel)))
  obtain ⟨c9, iS9, hKn9⟩ := u_known (C := RX9) (T := TX9) (N := 45) (n := 45) hts (fun w hw => (List.mem_filter.mp (inX9 w hw)).1) (hts (.instantiable RX9 45) (List.mem_of_getElem? (i := 983) (by decide +kernel)))
  obtain ⟨dC, dI, hKc⟩ : ∃ (dC : Nat → ClassId) (dI : Nat → Nat → Nat), ∀ (k : Nat) (q : vw_C), vwCl[k]? = some q → u_Kn s q.1 q.2.1 q.2.2 (dC k) (dI k) := by
    refine ⟨fun k => match k with | 0 => c0 | 1 => c1 | 2 => c2 | 3 => c3 | 4 => c4 | 5 => c5 | 6 => c6 | 7 => c7 | 8 => c8 | _ => c9, fun k => match k with | 0 => iS0 | 1 => iS1 | 2 => iS2 | 3 => iS3 | 4 => iS4 | 5 => iS5 | 6 => iS6 | 7 => iS7 | 8 => iS8 | _ => iS9, ?_⟩
    intro k q hq
    match k, hq with
    | 0, hq => cases hq; exact hKn0
    | 1, hq => cases hq; exact hKn1
    | 2, hq => cases hq; exact hKn2
    | 3, hq => cases hq; exact hKn3
    | 4, hq => cases hq; exact hKn4
    | 5, hq => cases hq; exact hKn5
    | 6, hq => cases hq; exact hKn6
    | 7, hq => cases hq; exact hKn7
    | 8, hq => cases hq; exact hKn8
    | 9, hq => cases hq; exact hKn9
    | k + 10, hq => simp [vwCl] at hq
  obtain ⟨sg', hsem, hc0, hc1⟩ := HL L (fun i => (xs i).toInt) hL (fun i => ⟨Int32.le_toInt _, Int32.toInt_lt _⟩)
  obtain ⟨n, hrun⟩ := run_of_sem hsem
  have hnw : NW s := by
    refine ⟨fun w hw => ?_, va_AO.of (A := #[Value.ref b]) (hts _ (List.mem_of_getElem? (i := 289) (by decide +kernel)))⟩
    have h1 := hts w (List.mem_filter.mp hw).1
    have h2 := (List.mem_filter.mp hw).2
    cases w <;> first
      | exact va_Nw.of rfl h1
      | cases h2
  have hz0 : sg0 L (fun i => (xs i).toInt) (-1) 0 = 0 := rfl
  have hz1 : sg0 L (fun i => (xs i).toInt) (-1) 1 = 0 := rfl
  have hd0 : dd (sg0 L (fun i => (xs i).toInt)) sg' 0 ≤ 600000 := by unfold dd; rw [hz0]; omega
  have hd1 : dd (sg0 L (fun i => (xs i).toInt)) sg' 1 ≤ 7302250 := by unfold dd; rw [hz1]; omega
  have hA : ∀ q : Nat, s.heap.size ≤ q → (fun q : Nat => s.heap.size ≤ q) q := fun _ h => h
  rw [lg_entry_eq]
  refine snd n 224 0 _ [] _ (aI 1) sg' hrun (by rw [hz0]; decide) p l e room_1 s m #[Value.ref b] below meth c _ b (dC, dI) (fun q : Nat => s.heap.size ≤ q) s.heap [] [] _ [] 0 0 ⟨hx, hb, hml, hown, fun w hw => hts w (List.mem_filter.mp hw).1, by decide, by decide, fun h => absurd h (by decide), hnw⟩ ?_ hA ⟨⟨[], ⟨hKc, fun k q h => by simp at h⟩, fun k q h => by simp at h, ⟨fun i j p q h => by simp at h, fun k q h => by simp at h⟩, hz0, fun k q h => by simp at h⟩, va_S.rf, RLo.entry (as := [aA (-7)]) (As := [.ref b]) ⟨⟨b, rfl, Or.inr ⟨rfl, rfl⟩⟩, trivial⟩ (by decide), trivial⟩ ⟨by rw [Nat.zero_add]; exact hd0, by rw [Nat.zero_add]; exact hd1⟩ ?_
  · intro _
    refine ⟨L, xs, hX, hbl, Nat.not_le.mpr hbl, hL, ?_, fun i hi => ?_⟩
    · show (if (-7 : Int) = -7 then (if (-1 : Int) = -1 then (L : Int) else _) else 0) = _
      simp
    · show _ = (if (-7 : Int) = -7 then (if (i : Int) = -1 then (L : Int) else (xs (i : Int).toNat).toInt) else 0)
      rw [if_pos rfl, if_neg (by omega)]
      simp
  · intro pcr H' locs' ws' la' sa' hE hW' hS' hR
    rcases hR with ⟨i, e1, rfl, hd, hk⟩ | ⟨i, e1, -⟩ | ⟨e1, -⟩
    · have hi : i = 1 := by
        have h1 : (1 : Int) = i.toInt := Sum.inl.inj e1
        exact Int32.toInt_inj.mp (h1.symm.trans rfl)
      subst hi
      refine va_forget (fun q hq => hS'.2.2 q hq) ?_
      refine W.widen (k := 600000) (n := 7302250) (by rw [Nat.zero_add]; exact hd0) (by rw [Nat.zero_add]; exact hd1) ?_
      exact lw_ret hx hb hr hlocks hd
    · cases e1
    · cases e1

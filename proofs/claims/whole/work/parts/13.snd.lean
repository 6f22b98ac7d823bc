/-! counters only grow, the script stays -/
def Gd (s s' : SG) : Prop := s (-1) 0 ≤ s' (-1) 0 ∧ s (-1) 1 ≤ s' (-1) 1 ∧ ∀ i, s' (-7) i = s (-7) i
theorem Gd.rf {s : SG} : Gd s s := ⟨Int.le_refl _, Int.le_refl _, fun _ => rfl⟩
theorem Gd.tr {a b c : SG} (h1 : Gd a b) (h2 : Gd b c) : Gd a c := ⟨Int.le_trans h1.1 h2.1, Int.le_trans h1.2.1 h2.2.1, fun i => (h2.2.2 i).trans (h1.2.2 i)⟩
theorem Gd_up {s : SG} {k i v : Int} (h : 0 ≤ k) : Gd s (up s k i v) := ⟨by rw [up_ne (by omega)]; exact Int.le_refl _, by rw [up_ne (by omega)]; exact Int.le_refl _, fun j => up_ne (by omega) j⟩
theorem Gd_alc {s : SG} {n : Int} {d : Int → Int} (h : 0 ≤ s (-1) 0) (hn : 0 ≤ n) : Gd s (alc s n d) := ⟨by rw [alc_0 h]; omega, by rw [alc_1 h]; omega, fun j => alc_k (by omega) (by omega) j⟩
def AMcpy_ne (s : SG) (q sp d dp n k i : Int) : Prop := cpy s q sp d dp n k i = s k i
theorem Gd_cpy {s : SG} {q sp d dp n : Int} (h : 0 ≤ d) : Gd s (cpy s q sp d dp n) := by
  have e : ∀ k i : Int, k < 0 → AMcpy_ne s q sp d dp n k i := fun k i hk => by
    unfold AMcpy_ne cpy
    rw [if_neg (fun z => by have := z.1; omega)]
  exact ⟨by rw [e (-1) 0 (by decide)]; exact Int.le_refl _, by rw [e (-1) 1 (by decide)]; exact Int.le_refl _, fun j => e (-7) j (by decide)⟩
theorem kd_pos {k c : Int} (h : kd k = c) (hc : 0 ≤ c) : 0 ≤ k := by
  rcases kd_small k with h1 | h1
  · omega
  · exact h1.1
theorem kl_pos {k c : Int} (h : kd k = c) (hc : 0 ≤ c) : 0 ≤ kl k := by
  rcases kd_small k with h1 | h1
  · omega
  · exact h1.2.1
theorem grd_spec {α : Type} {p : Prop} [Decidable p] {x : Option α} {r : α} (h : grd p x = some r) : p ∧ x = some r := by
  unfold grd at h
  split at h
  · next hp => exact ⟨hp, h⟩
  · cases h
theorem stp_gd {ins : ClassFile.Instr} {nx : Nat} {ls st : List AV} {s : SG} {q : SR} (h : stp ins nx ls st s = some q) (h0 : 0 ≤ s (-1) 0) : Gd s q.2.2.2 := by
  have eI : ∀ {f : Int → List AV → Option SR}, uI st f = some q → (∀ a r, f a r = some q → Gd s q.2.2.2) → Gd s q.2.2.2 := by
    intro f h1 h2
    unfold uI at h1
    split at h1
    · exact h2 _ _ h1
    · cases h1
  have eL : ∀ {f : Int → List AV → Option SR}, uL st f = some q → (∀ a r, f a r = some q → Gd s q.2.2.2) → Gd s q.2.2.2 := by
    intro f h1 h2
    unfold uL at h1
    split at h1
    · exact h2 _ _ h1
    · cases h1
  have eA : ∀ {f : Int → List AV → Option SR}, uA st f = some q → (∀ a r, f a r = some q → Gd s q.2.2.2) → Gd s q.2.2.2 := by
    intro f h1 h2
    unfold uA at h1
    split at h1
    · exact h2 _ _ h1
    · cases h1
  have eB : ∀ {f : Int → Int → List AV → Option SR}, bI st f = some q → (∀ a b r, f a b r = some q → Gd s q.2.2.2) → Gd s q.2.2.2 := by
    intro f h1 h2
    unfold bI at h1
    split at h1
    · exact h2 _ _ _ h1
    · cases h1
  have eC : ∀ {f : Int → Int → List AV → Option SR}, bL st f = some q → (∀ a b r, f a b r = some q → Gd s q.2.2.2) → Gd s q.2.2.2 := by
    intro f h1 h2
    unfold bL at h1
    split at h1
    · exact h2 _ _ _ h1
    · cases h1
  have eS : ∀ {f : Int → Int → List AV → Option SR}, sL st f = some q → (∀ a b r, f a b r = some q → Gd s q.2.2.2) → Gd s q.2.2.2 := by
    intro f h1 h2
    unfold sL at h1
    split at h1
    · exact h2 _ _ _ h1
    · cases h1
  have eX : ∀ {st0 : List AV} {f : Int → Int → List AV → Option SR}, iA st0 f = some q → (∀ a b r, f a b r = some q → Gd s q.2.2.2) → Gd s q.2.2.2 := by
    intro st0 f h1 h2
    unfold iA at h1
    split at h1
    · exact h2 _ _ _ h1
    · cases h1
  cases ins <;> first
    | (cases h; done)
    | cases h; exact Gd.rf
    | exact eB h fun a b r h => by cases h; exact Gd.rf
    | exact eC h fun a b r h => by cases h; exact Gd.rf
    | exact eS h fun a b r h => by cases h; exact Gd.rf
    | exact eI h fun a r h => by cases h; exact Gd.rf
    | exact eL h fun a r h => by cases h; exact Gd.rf
    | exact eB h fun a b r h => by cases (grd_spec h).2; exact Gd.rf
    | exact eC h fun a b r h => by cases (grd_spec h).2; exact Gd.rf
    | exact eB h fun a b r h => by cases (chk_spec h).2; exact Gd.rf
    | exact eC h fun a b r h => by cases (chk_spec h).2; exact Gd.rf
    | exact eL h fun a r h => by cases (chk_spec h).2; exact Gd.rf
    | exact eA h fun a r h => by cases (chk_spec h).2; exact Gd.rf
    | exact eI h fun a r h => by obtain ⟨l, -, rfl⟩ := Option.map_eq_some_iff.mp h; exact Gd.rf
    | exact eL h fun a r h => by obtain ⟨l, -, rfl⟩ := Option.map_eq_some_iff.mp h; exact Gd.rf
    | exact eA h fun a r h => by obtain ⟨l, -, rfl⟩ := Option.map_eq_some_iff.mp h; exact Gd.rf
    | exact eA h fun a r h => by cases (grd_spec h).2; exact Gd.rf
    | exact eX h fun a b r h => by cases (grd_spec (grd_spec h).2).2; exact Gd.rf
    | exact eX h fun a b r h => by cases (grd_spec (grd_spec (grd_spec h).2).2).2; exact Gd.rf
    | exact eI h fun v r0 h => eX h fun k i r h => by
        have h1 := grd_spec h
        have h2 := kd_pos h1.1 (by decide)
        cases (grd_spec h1.2).2
        exact Gd_up h2
    | exact eL h fun v r0 h => eX h fun k i r h => by
        have h1 := grd_spec h
        have h2 := kd_pos h1.1 (by decide)
        cases (grd_spec h1.2).2
        exact Gd_up h2
    | exact eI h fun v r0 h => eX h fun k i r h => by
        have h1 := grd_spec h
        have h2 := kd_pos h1.1 (by decide)
        cases (grd_spec (grd_spec h1.2).2).2
        exact Gd_up h2
    | exact eA h fun v r0 h => eX h fun k i r h => by
        have h1 := grd_spec h
        have h2 := kd_pos h1.1 (by decide)
        cases (grd_spec (grd_spec h1.2).2).2
        exact Gd_up h2
    | skip
  case iload => simp only [stp] at h; split at h <;> cases h; exact Gd.rf
  case lload => simp only [stp] at h; split at h <;> cases h; exact Gd.rf
  case aload => simp only [stp] at h; split at h <;> cases h; exact Gd.rf
  case iinc =>
    simp only [stp] at h
    split at h
    · obtain ⟨l, -, rfl⟩ := Option.map_eq_some_iff.mp h
      exact Gd.rf
    · cases h
  case dup => simp only [stp] at h; split at h <;> try cases h
              split at h <;> cases h; exact Gd.rf
  case dup2 => simp only [stp] at h; split at h <;> try cases h
               split at h <;> cases h; exact Gd.rf
  case pop => simp only [stp] at h; split at h <;> try cases h
              split at h <;> cases h; exact Gd.rf
  case invokeinterface =>
    refine eA h fun k r h => ?_
    have h1 := (grd_spec h).2
    split at h1
    · cases h1; exact Gd.rf
    · cases h1; exact Gd.rf
    · cases (grd_spec h1).2; exact Gd.rf
    · cases h1
  case multianewarray =>
    simp only [stp] at h
    split at h
    · split at h
      · have h1 := grd_spec h
        have h2 := kd_nn h1.1
        cases h1.2
        exact Gd_up h2
      · cases h
    · split at h
      · have h1 := grd_spec h
        have h2 := kd_nn h1.1
        cases h1.2
        exact Gd_up h2
      · cases h
    · split at h
      · have h1 := grd_spec h
        have h2 := kd_nn h1.1
        cases (grd_spec h1.2).2
        exact Gd_up h2
      · cases h
    · cases h
  case new =>
    have h1 := grd_spec h
    cases h1.2
    exact Gd_alc h0 (kl_pos h1.1 (Int.natCast_nonneg _))
  case newarray t =>
    refine eI h fun n r h => ?_
    have h1 := grd_spec h
    cases h1.2
    have ht : 0 ≤ kl (s (-1) 0) := by
      rcases kd_small (s (-1) 0) with h2 | h2
      · exfalso
        have h3 := h1.1.1
        rw [h2] at h3
        cases t <;> exact absurd h3 (by decide)
      · exact h2.2.1
    exact Gd_alc h0 (by omega)
  case anewarray =>
    refine eI h fun n r h => ?_
    have h1 := grd_spec h
    cases h1.2
    exact Gd_alc h0 (by have := kl_pos h1.1.1 (by decide); omega)
  case invokedynamic =>
    simp only [stp] at h
    split at h
    · have h1 := grd_spec h
      have h2 := kd_pos h1.1.2 (by decide)
      cases (chk_spec (grd_spec h1.2).2).2
      exact Gd_cpy h2
    · cases h
theorem bnI_spec {x : AR} {α : Type} {f : Int → SG → Option α} {r : α} (h : bnI x f = some r) : ∃ a s, x = some (aI a, s) ∧ f a s = some r := by
  unfold bnI at h
  split at h
  · exact ⟨_, _, rfl, h⟩
  · cases h
theorem bnL_spec {x : AR} {α : Type} {f : Int → SG → Option α} {r : α} (h : bnL x f = some r) : ∃ a s, x = some (aL a, s) ∧ f a s = some r := by
  unfold bnL at h
  split at h
  · exact ⟨_, _, rfl, h⟩
  · cases h
theorem bnV_spec {x : AR} {α : Type} {f : SG → Option α} {r : α} (h : bnV x f = some r) : ∃ s, x = some (aU, s) ∧ f s = some r := by
  unfold bnV at h
  split at h
  · exact ⟨_, rfl, h⟩
  · cases h
/-- a call taken apart -/
theorem cal_spec {rc : RC} {M k nx : Nat} {ls st : List AV} {s : SG} {r : AV × SG} (h : cal rc M k nx ls st s = some r) :
    (mt k).1 < (mt M).1 ∧ (mt k).2.1 ≤ st.length ∧ wsum (st.drop (mt k).2.1) ≤ 8 ∧ (ent ((st.take (mt k).2.1).reverse)).length ≤ (mt k).2.2.1 ∧ (∀ c : Nat, (mt k).2.2.2.2 = c → ∃ o l, (st.take (mt k).2.1).reverse = aA o :: l ∧ kd o = c) ∧
    ∃ v s1, rc k 0 (pad (mt k).2.2.1 (ent ((st.take (mt k).2.1).reverse))) [] s = some (v, s1) ∧
      (((mt k).2.2.2.1 = 0 ∧ v = aU ∧ rc M nx ls (st.drop (mt k).2.1) s1 = some r) ∨ (((mt k).2.2.2.1 = 1 ∨ (mt k).2.2.2.1 = 3) ∧ ∃ a, v = aI a ∧ rc M nx ls (aI a :: st.drop (mt k).2.1) s1 = some r) ∨ ((mt k).2.2.2.1 = 2 ∧ ∃ a, v = aL a ∧ rc M nx ls (aL a :: st.drop (mt k).2.1) s1 = some r)) := by
  unfold cal at h
  split at h
  case h_2 => cases h
  next hc =>
  simp only [Bool.and_eq_true] at hc
  refine ⟨Nat.blt_eq.mp hc.1, Nat.ble_eq.mp hc.2.1, Nat.ble_eq.mp hc.2.2.1, Nat.ble_eq.mp hc.2.2.2, ?_, ?_⟩
  · intro c e
    unfold calM at h
    rw [e] at h
    unfold rcv at h
    generalize (List.take (mt k).2.1 st).reverse = as at h ⊢
    cases as with
    | nil => cases h
    | cons x l =>
      rcases x with a | a | a | a
      · cases h
      · cases h
      · exact ⟨a, l, rfl, (grd_spec (p := kd a = (c : Int)) h).1⟩
      · cases h
  · have h1 := rcv_ok h
    unfold calR at h1
    split at h1
    · next e =>
      obtain ⟨s1, e1, e2⟩ := bnV_spec h1
      exact ⟨_, s1, e1, Or.inl ⟨e, rfl, e2⟩⟩
    · next e =>
      obtain ⟨a, s1, e1, e2⟩ := bnI_spec h1
      exact ⟨_, s1, e1, Or.inr (Or.inl ⟨Or.inl e, a, rfl, e2⟩)⟩
    · next e =>
      obtain ⟨a, s1, e1, e2⟩ := bnL_spec h1
      exact ⟨_, s1, e1, Or.inr (Or.inr ⟨e, a, rfl, e2⟩)⟩
    · next e =>
      obtain ⟨a, s1, e1, e2⟩ := bnI_spec h1
      exact ⟨_, s1, e1, Or.inr (Or.inl ⟨Or.inr e, a, rfl, e2⟩)⟩
    · cases h1
/-- what an act is: an end, a call, a step -/
theorem act_spec {rc : RC} {M : Nat} {ins : ClassFile.Instr} {nx : Nat} {ls st : List AV} {s : SG} {r : AV × SG} (h : act rc M ins nx ls st s = some r) :
    (ins = .ireturn ∧ ∃ a, st = [aI a] ∧ r = (aI a, s) ∧ ((mt M).2.2.2.1 = 1 ∨ ((mt M).2.2.2.1 = 3 ∧ (a = 0 ∨ a = 1)))) ∨ (ins = .lreturn ∧ ∃ a, st = [aL a] ∧ r = (aL a, s) ∧ (mt M).2.2.2.1 = 2) ∨ (ins = .return_ ∧ st = [] ∧ r = (aU, s) ∧ (mt M).2.2.2.1 = 0) ∨
    (∃ k, (ins = .invokestatic k ∨ ins = .invokevirtual k ∨ ins = .invokespecial k) ∧ cal rc M k nx ls st s = some r) ∨
    ((∀ (cc : ByteArray) (own nm : String) (nL dp : Nat) (law : Bool) (pc : Nat) (ks : List Nat), OkE cc own nm nL dp law (pc, ins, nx, ks) → Row cc own nm nL dp law pc ins nx) ∧ ∃ q : SR, stp ins nx ls st s = some q ∧ rc M q.1 q.2.1 q.2.2.1 q.2.2.2 = some r) := by
  have hb : ∀ x : Option SR, (x.bind fun q => rc M q.1 q.2.1 q.2.2.1 q.2.2.2) = some r → ∃ q : SR, x = some q ∧ rc M q.1 q.2.1 q.2.2.1 q.2.2.2 = some r := by
    intro x hx
    cases x with
    | none => cases hx
    | some q => exact ⟨q, rfl, hx⟩
  cases ins <;> first
    | exact Or.inr (Or.inr (Or.inr (Or.inr ⟨fun _ _ _ _ _ _ _ _ h => h, hb (stp _ nx ls st s) h⟩)))
    | exact Or.inr (Or.inr (Or.inr (Or.inr ⟨fun _ _ _ _ _ _ _ _ h => h, _, rfl, h⟩)))
    | skip
  case ireturn =>
    refine Or.inl ⟨rfl, ?_⟩
    simp only [act] at h
    split at h
    · next a =>
      unfold retI at h
      split at h
      · next e => cases h; exact ⟨a, rfl, rfl, Or.inl e⟩
      · next e =>
        have h1 := grd_spec h
        cases h1.2
        exact ⟨a, rfl, rfl, Or.inr ⟨e, h1.1⟩⟩
      · cases h
    · cases h
  case lreturn =>
    refine Or.inr (Or.inl ⟨rfl, ?_⟩)
    simp only [act] at h
    split at h
    · next a =>
      split at h
      · next e => cases h; exact ⟨a, rfl, rfl, e⟩
      · cases h
    · cases h
  case return_ =>
    refine Or.inr (Or.inr (Or.inl ⟨rfl, ?_⟩))
    simp only [act] at h
    split at h
    · split at h
      · next e => cases h; exact ⟨rfl, rfl, e⟩
      · cases h
    · cases h
  case invokestatic k => exact Or.inr (Or.inr (Or.inr (Or.inl ⟨k, Or.inl rfl, h⟩)))
  case invokevirtual k => exact Or.inr (Or.inr (Or.inr (Or.inl ⟨k, Or.inr (Or.inl rfl), h⟩)))
  case invokespecial k => exact Or.inr (Or.inr (Or.inr (Or.inl ⟨k, Or.inr (Or.inr rfl), h⟩)))
theorem run_gd : ∀ (n M pc : Nat) (ls st : List AV) (s : SG) (v : AV) (s' : SG), run n M pc ls st s = some (v, s') → 0 ≤ s (-1) 0 → Gd s s' := by
  intro n
  induction n with
  | zero => intro M pc ls st s v s' h; cases h
  | succ n ih =>
    intro M pc ls st s v s' h h0
    unfold run at h
    split at h
    case h_2 => cases h
    next f hf =>
    rcases act_spec h with ⟨-, a, -, e, -⟩ | ⟨-, a, -, e, -⟩ | ⟨-, -, e, -⟩ | ⟨k, -, hc⟩ | ⟨-, q, hq, hr⟩
    · cases e; exact Gd.rf
    · cases e; exact Gd.rf
    · cases e; exact Gd.rf
    · obtain ⟨-, -, -, -, -, v1, s1, e1, e2⟩ := cal_spec hc
      have g1 := ih _ _ _ _ _ _ _ e1 h0
      rcases e2 with ⟨-, -, e2⟩ | ⟨-, a, -, e2⟩ | ⟨-, a, -, e2⟩
      · exact g1.tr (ih _ _ _ _ _ _ _ e2 (Int.le_trans h0 g1.1))
      · exact g1.tr (ih _ _ _ _ _ _ _ e2 (Int.le_trans h0 g1.1))
      · exact g1.tr (ih _ _ _ _ _ _ _ e2 (Int.le_trans h0 g1.1))
    · have g1 := stp_gd hq h0
      exact g1.tr (ih _ _ _ _ _ _ _ hr (Int.le_trans h0 g1.1))
theorem dd_add {a b c : SG} (h1 : Gd a b) (h2 : Gd b c) {j : Int} (hj : j = 0 ∨ j = 1) : dd a c j = dd a b j + dd b c j := by
  obtain ⟨p1, p2, -⟩ := h1
  obtain ⟨q1, q2, -⟩ := h2
  unfold dd
  rcases hj with rfl | rfl <;> omega

/-! what a reference holds stays, but where a town is put in another's place -/
def ctl : List Nat := [0, 17, 30, 44, 64, 74, 80, 90, 102, 151, 224]
def inS (M : Nat) : Bool := !(ctl.contains M)
def inT (M : Nat) : Bool := !(ctl.contains M) && !(M == 106)
def rcb (k j : Int) : Bool := decide (kd k = 104) || (decide (0 ≤ kd k ∧ kd k < 10 ∧ 0 ≤ j) && decide (fty (kd k).toNat j.toNat = 2))
def swp (k j : Int) : Bool := decide (k = 0) && (decide (j = 9) || decide (j = 10))
def insOk (b : Bool) (x : CE) : Bool := match x.2.1 with
  | .new _ => false
  | .newarray _ => false
  | .anewarray _ => false
  | .aastore => false
  | .multianewarray c j => !(fty c j == 2) || (b && (c == 8 && (j == 9 || j == 10)))
  | .invokestatic k => inT k
  | .invokevirtual k => inT k
  | .invokespecial _ => false
  | _ => true
theorem insOk_l : ∀ M, M < 225 → inS M = true → (cdl.getD M []).all (insOk (!(inT M))) = true := by decide +kernel
theorem insOk_of {M pc : Nat} {f : ClassFile.Instr × Nat × List Nat} (h : fch M pc = some f) (hS : inS M = true) : insOk (!(inT M)) (pc, f) = true := List.all_eq_true.mp (insOk_l M (fch_lt h) hS) _ (fch_mem h)
theorem inT_inS {M : Nat} (h : inT M = true) : inS M = true := by
  unfold inT at h
  unfold inS
  simp only [Bool.and_eq_true] at h
  exact h.1
theorem kd_0 (k : Int) : kd k = 8 → k = 0 := by
  intro h
  cases k with
  | ofNat n =>
    have h1 : n < 85 := by
      have e1 : kd (Int.ofNat n) = (match kdl[n]? with | some q => q.1 | none => -1) := rfl
      rw [e1] at h
      cases h2 : kdl[n]? with
      | none => rw [h2] at h; cases h
      | some q => exact (List.getElem?_eq_some_iff.mp h2).1
    have h2 : ∀ n, n < 85 → kd (Int.ofNat n) = 8 → n = 0 := by decide +kernel
    have := h2 n h1 h
    subst this
    rfl
  | negSucc n => cases h
theorem stp_ref {b : Bool} {pc : Nat} {ins : ClassFile.Instr} {nx : Nat} {ks : List Nat} {ls st : List AV} {s : SG} {q : SR} (hok : insOk b (pc, ins, nx, ks) = true) (h : stp ins nx ls st s = some q) {k j : Int} (hr : rcb k j = true) (hb : b = true → swp k j = false) : q.2.2.2 k j = s k j := by
  have nk : ∀ {k' : Int} {c : Int}, kd k' = c → (c = 101 ∨ c = 102 ∨ c = 103) → k ≠ k' := by
    intro k' c h1 h2 e
    subst e
    unfold rcb at hr
    simp only [Bool.or_eq_true, Bool.and_eq_true, decide_eq_true_eq] at hr
    omega
  have eI : ∀ {f : Int → List AV → Option SR}, uI st f = some q → (∀ a r, f a r = some q → q.2.2.2 k j = s k j) → q.2.2.2 k j = s k j := by
    intro f h1 h2
    unfold uI at h1
    split at h1
    · exact h2 _ _ h1
    · cases h1
  have eL : ∀ {f : Int → List AV → Option SR}, uL st f = some q → (∀ a r, f a r = some q → q.2.2.2 k j = s k j) → q.2.2.2 k j = s k j := by
    intro f h1 h2
    unfold uL at h1
    split at h1
    · exact h2 _ _ h1
    · cases h1
  have eA : ∀ {f : Int → List AV → Option SR}, uA st f = some q → (∀ a r, f a r = some q → q.2.2.2 k j = s k j) → q.2.2.2 k j = s k j := by
    intro f h1 h2
    unfold uA at h1
    split at h1
    · exact h2 _ _ h1
    · cases h1
  have eB : ∀ {f : Int → Int → List AV → Option SR}, bI st f = some q → (∀ a b r, f a b r = some q → q.2.2.2 k j = s k j) → q.2.2.2 k j = s k j := by
    intro f h1 h2
    unfold bI at h1
    split at h1
    · exact h2 _ _ _ h1
    · cases h1
  have eC : ∀ {f : Int → Int → List AV → Option SR}, bL st f = some q → (∀ a b r, f a b r = some q → q.2.2.2 k j = s k j) → q.2.2.2 k j = s k j := by
    intro f h1 h2
    unfold bL at h1
    split at h1
    · exact h2 _ _ _ h1
    · cases h1
  have eS : ∀ {f : Int → Int → List AV → Option SR}, sL st f = some q → (∀ a b r, f a b r = some q → q.2.2.2 k j = s k j) → q.2.2.2 k j = s k j := by
    intro f h1 h2
    unfold sL at h1
    split at h1
    · exact h2 _ _ _ h1
    · cases h1
  have eX : ∀ {st0 : List AV} {f : Int → Int → List AV → Option SR}, iA st0 f = some q → (∀ a b r, f a b r = some q → q.2.2.2 k j = s k j) → q.2.2.2 k j = s k j := by
    intro st0 f h1 h2
    unfold iA at h1
    split at h1
    · exact h2 _ _ _ h1
    · cases h1
  cases ins <;> first
    | (cases h; done)
    | (cases hok; done)
    | cases h; rfl
    | exact eB h fun a b r h => by cases h; rfl
    | exact eC h fun a b r h => by cases h; rfl
    | exact eS h fun a b r h => by cases h; rfl
    | exact eI h fun a r h => by cases h; rfl
    | exact eL h fun a r h => by cases h; rfl
    | exact eB h fun a b r h => by cases (grd_spec h).2; rfl
    | exact eC h fun a b r h => by cases (grd_spec h).2; rfl
    | exact eB h fun a b r h => by cases (chk_spec h).2; rfl
    | exact eC h fun a b r h => by cases (chk_spec h).2; rfl
    | exact eL h fun a r h => by cases (chk_spec h).2; rfl
    | exact eA h fun a r h => by cases (chk_spec h).2; rfl
    | exact eI h fun a r h => by obtain ⟨l, -, rfl⟩ := Option.map_eq_some_iff.mp h; rfl
    | exact eL h fun a r h => by obtain ⟨l, -, rfl⟩ := Option.map_eq_some_iff.mp h; rfl
    | exact eA h fun a r h => by obtain ⟨l, -, rfl⟩ := Option.map_eq_some_iff.mp h; rfl
    | exact eA h fun a r h => by cases (grd_spec h).2; rfl
    | exact eX h fun a b r h => by cases (grd_spec (grd_spec h).2).2; rfl
    | exact eX h fun a b r h => by cases (grd_spec (grd_spec (grd_spec h).2).2).2; rfl
    | exact eI h fun v r0 h => eX h fun k' i r h => by
        have h1 := grd_spec h
        cases (grd_spec h1.2).2
        exact up_ne (nk h1.1 (by decide)) _
    | exact eL h fun v r0 h => eX h fun k' i r h => by
        have h1 := grd_spec h
        cases (grd_spec h1.2).2
        exact up_ne (nk h1.1 (by decide)) _
    | exact eI h fun v r0 h => eX h fun k' i r h => by
        have h1 := grd_spec h
        cases (grd_spec (grd_spec h1.2).2).2
        exact up_ne (nk h1.1 (by decide)) _
    | skip
  case iload => simp only [stp] at h; split at h <;> cases h; rfl
  case lload => simp only [stp] at h; split at h <;> cases h; rfl
  case aload => simp only [stp] at h; split at h <;> cases h; rfl
  case iinc =>
    simp only [stp] at h
    split at h
    · obtain ⟨l, -, rfl⟩ := Option.map_eq_some_iff.mp h
      rfl
    · cases h
  case dup => simp only [stp] at h; split at h <;> try cases h
              split at h <;> cases h; rfl
  case dup2 => simp only [stp] at h; split at h <;> try cases h
               split at h <;> cases h; rfl
  case pop => simp only [stp] at h; split at h <;> try cases h
              split at h <;> cases h; rfl
  case invokeinterface =>
    refine eA h fun k r h => ?_
    have h1 := (grd_spec h).2
    split at h1
    · cases h1; rfl
    · cases h1; rfl
    · cases (grd_spec h1).2; rfl
    · cases h1
  case multianewarray c i =>
    have h10 : fty c i ≤ 2 → c < 10 := by
      intro hf
      by_cases hc : c < 10
      · exact hc
      · have hl : ftl.length = 10 := rfl
        unfold fty at hf
        rw [List.getD_eq_getElem?_getD (l := ftl), List.getElem?_eq_none (by omega)] at hf
        exact absurd hf (by simp)
    have key : ∀ (k' v : Int), fty c i ≤ 2 → kd k' = c → up s k' i v k j = s k j := by
      intro k' v hf hk
      have h10 := h10 hf
      by_cases e : k = k' ∧ j = i
      · exfalso
        obtain ⟨rfl, rfl⟩ := e
        simp only [insOk, Bool.or_eq_true, Bool.and_eq_true, Bool.not_eq_true', beq_eq_false_iff_ne, beq_iff_eq] at hok
        rcases hok with h1 | ⟨h1, h2, h3⟩
        · unfold rcb at hr
          simp only [Bool.or_eq_true, Bool.and_eq_true, decide_eq_true_eq] at hr
          rcases hr with hr | ⟨-, hr⟩
          · omega
          · rw [hk] at hr
            simp at hr
            exact h1 hr
        · have h4 := hb h1
          subst h2
          have h5 := kd_0 k hk
          subst h5
          unfold swp at h4
          rcases h3 with rfl | rfl <;> exact absurd h4 (by decide)
      · unfold up
        rw [if_neg e]
    simp only [stp] at h
    split at h
    · next hf =>
      split at h
      · have h1 := grd_spec h
        cases h1.2
        exact key _ _ (by omega) h1.1
      · cases h
    · next hf =>
      split at h
      · have h1 := grd_spec h
        cases h1.2
        exact key _ _ (by omega) h1.1
      · cases h
    · next hf =>
      split at h
      · have h1 := grd_spec h
        cases (grd_spec h1.2).2
        exact key _ _ (by omega) h1.1
      · cases h
    · cases h
  case invokedynamic =>
    simp only [stp] at h
    split at h
    · have h1 := grd_spec h
      cases (chk_spec (grd_spec h1.2).2).2
      have h2 := nk h1.1.2 (by decide)
      show cpy _ _ _ _ _ _ k j = _
      unfold cpy
      rw [if_neg (fun z => h2 z.1)]
    · cases h
theorem run_ref : ∀ (n M pc : Nat) (ls st : List AV) (s : SG) (v : AV) (s' : SG), run n M pc ls st s = some (v, s') → inS M = true → ∀ k j, rcb k j = true → (inT M = false → swp k j = false) → s' k j = s k j := by
  intro n
  induction n with
  | zero => intro M pc ls st s v s' h; cases h
  | succ n ih =>
    intro M pc ls st s v s' h hS k j hr hsw
    unfold run at h
    split at h
    case h_2 => cases h
    next f hf =>
    have hok := insOk_of hf hS
    obtain ⟨ins, nx, ks⟩ := f
    rcases act_spec h with ⟨-, a, -, e, -⟩ | ⟨-, a, -, e, -⟩ | ⟨-, -, e, -⟩ | ⟨k9, hins, hc⟩ | ⟨-, q, hq, hr9⟩
    · cases e; rfl
    · cases e; rfl
    · cases e; rfl
    · obtain ⟨-, -, -, -, -, v1, s1, e1, e2⟩ := cal_spec hc
      have hT : inT k9 = true := by
        rcases hins with rfl | rfl | rfl
        · exact hok
        · exact hok
        · cases hok
      have g1 := ih _ _ _ _ _ _ _ e1 (inT_inS hT) k j hr (fun z => by rw [hT] at z; cases z)
      rcases e2 with ⟨-, -, e2⟩ | ⟨-, a, -, e2⟩ | ⟨-, a, -, e2⟩
      · exact (ih _ _ _ _ _ _ _ e2 hS k j hr hsw).trans g1
      · exact (ih _ _ _ _ _ _ _ e2 hS k j hr hsw).trans g1
      · exact (ih _ _ _ _ _ _ _ e2 hS k j hr hsw).trans g1
    · have g1 := stp_ref hok hq hr (fun z => hsw (by simpa using z))
      exact (ih _ _ _ _ _ _ _ hr9 hS k j hr hsw).trans g1
theorem sem_ref {M pc : Nat} {ls st : List AV} {s s' : SG} {v : AV} (h : sem M pc ls st s = some (v, s')) (hS : inS M = true) {k j : Int} (hr : rcb k j = true) (hsw : inT M = false → swp k j = false) : s' k j = s k j := by
  obtain ⟨n, hn⟩ := run_of_sem h
  exact run_ref n _ _ _ _ _ _ _ hn hS k j hr hsw
/-- the references that never change -/
def RefC (s : SG) : Prop := s 0 0 = 1 ∧ s 0 1 = 3 ∧ s 0 2 = 5 ∧ s 0 3 = 10 ∧ s 0 4 = 13 ∧ s 0 5 = 16 ∧ s 0 6 = 23 ∧ s 0 7 = 30 ∧ s 0 8 = 31 ∧ s 1 0 = 2 ∧ s 3 0 = 4 ∧ s 5 0 = 6 ∧ s 5 1 = 7 ∧ s 5 2 = 8 ∧ s 5 3 = 9 ∧ s 10 0 = 11 ∧ s 10 1 = 12 ∧ s 13 0 = 14 ∧ s 13 1 = 15 ∧ s 16 0 = 17 ∧ s 16 1 = 18 ∧ s 16 2 = 19 ∧ s 16 3 = 20 ∧ s 16 4 = 21 ∧ s 16 5 = 22 ∧ s 23 0 = 24 ∧ s 23 1 = 25 ∧ s 23 2 = 26 ∧ s 23 3 = 27 ∧ s 23 4 = 28 ∧ s 23 5 = 29 ∧ s 30 0 = 42 ∧ s 30 1 = 49 ∧ s 32 0 = 33 ∧ s 32 1 = 34 ∧ s 32 2 = 35 ∧ s 32 3 = 36 ∧ s 37 0 = 38 ∧ s 37 1 = 39 ∧ s 37 2 = 40 ∧ s 37 3 = 41 ∧ s 42 0 = 43 ∧ s 42 1 = 44 ∧ s 42 2 = 45 ∧ s 42 3 = 46 ∧ s 42 4 = 47 ∧ s 42 5 = 48 ∧ s 49 0 = 50 ∧ s 49 1 = 51 ∧ s 49 2 = 52 ∧ s 49 3 = 53 ∧ s 49 4 = 54 ∧ s 49 5 = 55 ∧ s 56 0 = 57 ∧ s 56 1 = 58 ∧ s 56 2 = 59 ∧ s 56 3 = 60 ∧ s 56 8 = 61 ∧ s 56 10 = 62 ∧ s 56 11 = 63 ∧ s 56 12 = 64 ∧ s 56 13 = 65 ∧ s 56 16 = 66 ∧ s 56 17 = 67 ∧ s 56 18 = 68 ∧ s 56 23 = 69 ∧ s 56 24 = 70 ∧ s 56 25 = 71 ∧ s 56 26 = 72 ∧ s 56 27 = 73 ∧ s 56 28 = 74 ∧ s 56 29 = 75 ∧ s 56 30 = 76 ∧ s 56 31 = 77 ∧ s 56 32 = 78 ∧ s 56 39 = 79 ∧ s 56 40 = 80 ∧ s 56 41 = 81 ∧ s 56 42 = 82 ∧ s 56 43 = 83 ∧ s 56 44 = 84
theorem RefC.sem {M pc : Nat} {ls st : List AV} {s s' : SG} {v : AV} (h : sem M pc ls st s = some (v, s')) (hS : inS M = true) (hR : RefC s) : RefC s' := by
  have key : ∀ k j, rcb k j = true → swp k j = false → s' k j = s k j := fun k j h1 h2 => sem_ref h hS h1 (fun _ => h2)
  obtain ⟨h0, h1, h2, h3, h4, h5, h6, h7, h8, h9, h10, h11, h12, h13, h14, h15, h16, h17, h18, h19, h20, h21, h22, h23, h24, h25, h26, h27, h28, h29, h30, h31, h32, h33, h34, h35, h36, h37, h38, h39, h40, h41, h42, h43, h44, h45, h46, h47, h48, h49, h50, h51, h52, h53, h54, h55, h56, h57, h58, h59, h60, h61, h62, h63, h64, h65, h66, h67, h68, h69, h70, h71, h72, h73, h74, h75, h76, h77, h78, h79, h80⟩ := hR
  exact ⟨(key 0 0 rfl rfl).trans h0, (key 0 1 rfl rfl).trans h1, (key 0 2 rfl rfl).trans h2, (key 0 3 rfl rfl).trans h3, (key 0 4 rfl rfl).trans h4, (key 0 5 rfl rfl).trans h5, (key 0 6 rfl rfl).trans h6, (key 0 7 rfl rfl).trans h7, (key 0 8 rfl rfl).trans h8, (key 1 0 rfl rfl).trans h9, (key 3 0 rfl rfl).trans h10, (key 5 0 rfl rfl).trans h11, (key 5 1 rfl rfl).trans h12, (key 5 2 rfl rfl).trans h13, (key 5 3 rfl rfl).trans h14, (key 10 0 rfl rfl).trans h15, (key 10 1 rfl rfl).trans h16, (key 13 0 rfl rfl).trans h17, (key 13 1 rfl rfl).trans h18, (key 16 0 rfl rfl).trans h19, (key 16 1 rfl rfl).trans h20, (key 16 2 rfl rfl).trans h21, (key 16 3 rfl rfl).trans h22, (key 16 4 rfl rfl).trans h23, (key 16 5 rfl rfl).trans h24, (key 23 0 rfl rfl).trans h25, (key 23 1 rfl rfl).trans h26, (key 23 2 rfl rfl).trans h27, (key 23 3 rfl rfl).trans h28, (key 23 4 rfl rfl).trans h29, (key 23 5 rfl rfl).trans h30, (key 30 0 rfl rfl).trans h31, (key 30 1 rfl rfl).trans h32, (key 32 0 rfl rfl).trans h33, (key 32 1 rfl rfl).trans h34, (key 32 2 rfl rfl).trans h35, (key 32 3 rfl rfl).trans h36, (key 37 0 rfl rfl).trans h37, (key 37 1 rfl rfl).trans h38, (key 37 2 rfl rfl).trans h39, (key 37 3 rfl rfl).trans h40, (key 42 0 rfl rfl).trans h41, (key 42 1 rfl rfl).trans h42, (key 42 2 rfl rfl).trans h43, (key 42 3 rfl rfl).trans h44, (key 42 4 rfl rfl).trans h45, (key 42 5 rfl rfl).trans h46, (key 49 0 rfl rfl).trans h47, (key 49 1 rfl rfl).trans h48, (key 49 2 rfl rfl).trans h49, (key 49 3 rfl rfl).trans h50, (key 49 4 rfl rfl).trans h51, (key 49 5 rfl rfl).trans h52, (key 56 0 rfl rfl).trans h53, (key 56 1 rfl rfl).trans h54, (key 56 2 rfl rfl).trans h55, (key 56 3 rfl rfl).trans h56, (key 56 8 rfl rfl).trans h57, (key 56 10 rfl rfl).trans h58, (key 56 11 rfl rfl).trans h59, (key 56 12 rfl rfl).trans h60, (key 56 13 rfl rfl).trans h61, (key 56 16 rfl rfl).trans h62, (key 56 17 rfl rfl).trans h63, (key 56 18 rfl rfl).trans h64, (key 56 23 rfl rfl).trans h65, (key 56 24 rfl rfl).trans h66, (key 56 25 rfl rfl).trans h67, (key 56 26 rfl rfl).trans h68, (key 56 27 rfl rfl).trans h69, (key 56 28 rfl rfl).trans h70, (key 56 29 rfl rfl).trans h71, (key 56 30 rfl rfl).trans h72, (key 56 31 rfl rfl).trans h73, (key 56 32 rfl rfl).trans h74, (key 56 39 rfl rfl).trans h75, (key 56 40 rfl rfl).trans h76, (key 56 41 rfl rfl).trans h77, (key 56 42 rfl rfl).trans h78, (key 56 43 rfl rfl).trans h79, (key 56 44 rfl rfl).trans h80⟩
/-- the town's place, and the draft's -/
def TwC (s : SG) (t : Int) : Prop := s 0 9 = t ∧ s 0 10 = 69 - t
theorem TwC.sem {M pc : Nat} {ls st : List AV} {s s' : SG} {v : AV} {t : Int} (h : sem M pc ls st s = some (v, s')) (hS : inT M = true) (hR : TwC s t) : TwC s' t := by
  have e : ∀ k j, rcb k j = true → s' k j = s k j := fun k j hr => sem_ref h (inT_inS hS) hr (fun z => by rw [hS] at z; cases z)
  exact ⟨(e 0 9 rfl).trans hR.1, (e 0 10 rfl).trans hR.2⟩
theorem kd_t {t : Int} (h : t = 32 ∨ t = 37) : kd t = 6 ∧ kd (t + 1) = 101 ∧ kl (t + 1) = 3 ∧ kd (t + 2) = 101 ∧ kl (t + 2) = 9 ∧ kd (t + 3) = 101 ∧ kl (t + 3) = 9 ∧ kd (t + 4) = 101 ∧ kl (t + 4) = 3 := by
  rcases h with rfl | rfl <;> exact ⟨rfl, rfl, rfl, rfl, rfl, rfl, rfl, rfl, rfl⟩
theorem kd_k {k : Int} (h : k = 16 ∨ k = 42 ∨ k = 49) : kd k = 1 ∧ kd (k + 1) = 101 ∧ kl (k + 1) = 3 ∧ kd (k + 2) = 101 ∧ kl (k + 2) = 3 ∧ kd (k + 3) = 101 ∧ kl (k + 3) = 3 ∧ kd (k + 4) = 101 ∧ kl (k + 4) = 6 ∧ kd (k + 5) = 101 ∧ kl (k + 5) = 6 ∧ kd (k + 6) = 101 ∧ kl (k + 6) = 6 := by
  rcases h with rfl | rfl | rfl <;> exact ⟨rfl, rfl, rfl, rfl, rfl, rfl, rfl, rfl, rfl, rfl, rfl, rfl, rfl⟩
theorem ref_t {s : SG} (h : RefC s) {t : Int} (ht : t = 32 ∨ t = 37) : s t 0 = t + 1 ∧ s t 1 = t + 2 ∧ s t 2 = t + 3 ∧ s t 3 = t + 4 := by
  unfold RefC at h
  rcases ht with rfl | rfl <;> simp only [h, Int.reduceAdd, and_self]
theorem ref_k {s : SG} (h : RefC s) {k : Int} (hk : k = 16 ∨ k = 42 ∨ k = 49) : s k 0 = k + 1 ∧ s k 1 = k + 2 ∧ s k 2 = k + 3 ∧ s k 3 = k + 4 ∧ s k 4 = k + 5 ∧ s k 5 = k + 6 := by
  unfold RefC at h
  rcases hk with rfl | rfl | rfl <;> simp only [h, Int.reduceAdd, and_self]
theorem g_t {α : Type} {p : Prop} [Decidable p] {x : Option α} (h : p) : grd p x = x := by unfold grd; rw [if_pos h]
theorem g_h {α : Type} {p : Prop} [Decidable p] {x y : Option α} (h : p → x = y) : grd p x = grd p y := by
  unfold grd
  split
  · next hp => exact h hp
  · rfl
theorem bI_h {α : Type} {x : AR} {f g : Int → SG → Option α} (h : ∀ a s, x = some (aI a, s) → f a s = g a s) : bnI x f = bnI x g := by
  unfold bnI
  split
  · exact h _ _ rfl
  · rfl
theorem bL_h {α : Type} {x : AR} {f g : Int → SG → Option α} (h : ∀ a s, x = some (aL a, s) → f a s = g a s) : bnL x f = bnL x g := by
  unfold bnL
  split
  · exact h _ _ rfl
  · rfl
theorem bV_h {α : Type} {x : AR} {f g : SG → Option α} (h : ∀ s, x = some (aU, s) → f s = g s) : bnV x f = bnV x g := by
  unfold bnV
  split
  · exact h _ rfl
  · rfl
theorem RefC.upd {s : SG} (hR : RefC s) {k i v : Int} (hn : rcb k i = false) : RefC (up s k i v) := by
  have key : ∀ k' j, rcb k' j = true → swp k' j = false → up s k i v k' j = s k' j := by
    intro k' j hr _
    unfold up
    rw [if_neg]
    rintro ⟨rfl, rfl⟩
    rw [hr] at hn
    cases hn
  obtain ⟨h0, h1, h2, h3, h4, h5, h6, h7, h8, h9, h10, h11, h12, h13, h14, h15, h16, h17, h18, h19, h20, h21, h22, h23, h24, h25, h26, h27, h28, h29, h30, h31, h32, h33, h34, h35, h36, h37, h38, h39, h40, h41, h42, h43, h44, h45, h46, h47, h48, h49, h50, h51, h52, h53, h54, h55, h56, h57, h58, h59, h60, h61, h62, h63, h64, h65, h66, h67, h68, h69, h70, h71, h72, h73, h74, h75, h76, h77, h78, h79, h80⟩ := hR
  exact ⟨(key 0 0 rfl rfl).trans h0, (key 0 1 rfl rfl).trans h1, (key 0 2 rfl rfl).trans h2, (key 0 3 rfl rfl).trans h3, (key 0 4 rfl rfl).trans h4, (key 0 5 rfl rfl).trans h5, (key 0 6 rfl rfl).trans h6, (key 0 7 rfl rfl).trans h7, (key 0 8 rfl rfl).trans h8, (key 1 0 rfl rfl).trans h9, (key 3 0 rfl rfl).trans h10, (key 5 0 rfl rfl).trans h11, (key 5 1 rfl rfl).trans h12, (key 5 2 rfl rfl).trans h13, (key 5 3 rfl rfl).trans h14, (key 10 0 rfl rfl).trans h15, (key 10 1 rfl rfl).trans h16, (key 13 0 rfl rfl).trans h17, (key 13 1 rfl rfl).trans h18, (key 16 0 rfl rfl).trans h19, (key 16 1 rfl rfl).trans h20, (key 16 2 rfl rfl).trans h21, (key 16 3 rfl rfl).trans h22, (key 16 4 rfl rfl).trans h23, (key 16 5 rfl rfl).trans h24, (key 23 0 rfl rfl).trans h25, (key 23 1 rfl rfl).trans h26, (key 23 2 rfl rfl).trans h27, (key 23 3 rfl rfl).trans h28, (key 23 4 rfl rfl).trans h29, (key 23 5 rfl rfl).trans h30, (key 30 0 rfl rfl).trans h31, (key 30 1 rfl rfl).trans h32, (key 32 0 rfl rfl).trans h33, (key 32 1 rfl rfl).trans h34, (key 32 2 rfl rfl).trans h35, (key 32 3 rfl rfl).trans h36, (key 37 0 rfl rfl).trans h37, (key 37 1 rfl rfl).trans h38, (key 37 2 rfl rfl).trans h39, (key 37 3 rfl rfl).trans h40, (key 42 0 rfl rfl).trans h41, (key 42 1 rfl rfl).trans h42, (key 42 2 rfl rfl).trans h43, (key 42 3 rfl rfl).trans h44, (key 42 4 rfl rfl).trans h45, (key 42 5 rfl rfl).trans h46, (key 49 0 rfl rfl).trans h47, (key 49 1 rfl rfl).trans h48, (key 49 2 rfl rfl).trans h49, (key 49 3 rfl rfl).trans h50, (key 49 4 rfl rfl).trans h51, (key 49 5 rfl rfl).trans h52, (key 56 0 rfl rfl).trans h53, (key 56 1 rfl rfl).trans h54, (key 56 2 rfl rfl).trans h55, (key 56 3 rfl rfl).trans h56, (key 56 8 rfl rfl).trans h57, (key 56 10 rfl rfl).trans h58, (key 56 11 rfl rfl).trans h59, (key 56 12 rfl rfl).trans h60, (key 56 13 rfl rfl).trans h61, (key 56 16 rfl rfl).trans h62, (key 56 17 rfl rfl).trans h63, (key 56 18 rfl rfl).trans h64, (key 56 23 rfl rfl).trans h65, (key 56 24 rfl rfl).trans h66, (key 56 25 rfl rfl).trans h67, (key 56 26 rfl rfl).trans h68, (key 56 27 rfl rfl).trans h69, (key 56 28 rfl rfl).trans h70, (key 56 29 rfl rfl).trans h71, (key 56 30 rfl rfl).trans h72, (key 56 31 rfl rfl).trans h73, (key 56 32 rfl rfl).trans h74, (key 56 39 rfl rfl).trans h75, (key 56 40 rfl rfl).trans h76, (key 56 41 rfl rfl).trans h77, (key 56 42 rfl rfl).trans h78, (key 56 43 rfl rfl).trans h79, (key 56 44 rfl rfl).trans h80⟩
theorem rcb_a {k i : Int} (h : 100 < kd k ∧ kd k < 104) : rcb k i = false := by
  unfold rcb
  rw [decide_eq_false (by omega), decide_eq_false (by omega)]
  rfl
theorem rcb_f {k : Int} {c j : Nat} (h : kd k = c) (hc : c < 10) (hf : fty c j ≠ 2) : rcb k j = false := by
  unfold rcb
  rw [decide_eq_false (by omega), h]
  have e1 : ((c : Int)).toNat = c := by omega
  have e2 : ((j : Int)).toNat = j := by omega
  rw [e1, e2, decide_eq_false hf]
  simp
theorem TwC.upd {s : SG} {t : Int} (h : TwC s t) {k i v : Int} (hn : k ≠ 0) : TwC (up s k i v) t := ⟨(up_ne (Ne.symm hn) _).trans h.1, (up_ne (Ne.symm hn) _).trans h.2⟩
theorem g_kl {α : Type} {i k n : Int} {x y : Option α} (hk : kl k = n) (h : 0 ≤ i ∧ i < n → x = y) : grd (0 ≤ i ∧ i < kl k) x = grd (0 ≤ i ∧ i < n) y := by
  subst hk
  exact g_h h
theorem g_kt {α : Type} {i k n : Int} {x : Option α} (hk : kl k = n) (h : 0 ≤ i ∧ i < n) : grd (0 ≤ i ∧ i < kl k) x = x := by
  subst hk
  exact g_t h
theorem y_get0 {M pc nx : Nat} {ks : List Nat} {ls : List AV} {s : SG} {c j : Nat} {ji k : Int} {r : List AV} (hj : (j : Int) = ji) (f : fch M pc = some (.invokeinterface c j, nx, ks)) (hk : kil ks ls = ls) (hf : fty c j = 0) : sem M pc ls (aA k :: r) s = grd (kd k = c) (sem M nx ls (aI (s k ji) :: r) s) := by subst hj; exact x_get0 f hk hf
theorem y_get1 {M pc nx : Nat} {ks : List Nat} {ls : List AV} {s : SG} {c j : Nat} {ji k : Int} {r : List AV} (hj : (j : Int) = ji) (f : fch M pc = some (.invokeinterface c j, nx, ks)) (hk : kil ks ls = ls) (hf : fty c j = 1) : sem M pc ls (aA k :: r) s = grd (kd k = c) (sem M nx ls (aL (s k ji) :: r) s) := by subst hj; exact x_get1 f hk hf
theorem y_get2 {M pc nx : Nat} {ks : List Nat} {ls : List AV} {s : SG} {c j : Nat} {ji k : Int} {r : List AV} (hj : (j : Int) = ji) (f : fch M pc = some (.invokeinterface c j, nx, ks)) (hk : kil ks ls = ls) (hf : fty c j = 2) : sem M pc ls (aA k :: r) s = grd (kd k = c) (grd (0 ≤ s k ji) (sem M nx ls (aA (s k ji) :: r) s)) := by subst hj; exact x_get2 f hk hf
theorem y_put0 {M pc nx : Nat} {ks : List Nat} {ls : List AV} {s : SG} {c j : Nat} {ji k v : Int} {r : List AV} (hj : (j : Int) = ji) (f : fch M pc = some (.multianewarray c j, nx, ks)) (hk : kil ks ls = ls) (hf : fty c j = 0) : sem M pc ls (aI v :: aA k :: r) s = grd (kd k = c) (sem M nx ls r (up s k ji v)) := by subst hj; exact x_put0 f hk hf
theorem y_put1 {M pc nx : Nat} {ks : List Nat} {ls : List AV} {s : SG} {c j : Nat} {ji k v : Int} {r : List AV} (hj : (j : Int) = ji) (f : fch M pc = some (.multianewarray c j, nx, ks)) (hk : kil ks ls = ls) (hf : fty c j = 1) : sem M pc ls (aL v :: aA k :: r) s = grd (kd k = c) (sem M nx ls r (up s k ji v)) := by subst hj; exact x_put1 f hk hf
theorem cpy_ne {s : SG} {q sp d dp n k : Int} (h : k ≠ d) (i : Int) : cpy s q sp d dp n k i = s k i := by
  unfold cpy
  rw [if_neg (fun z => h z.1)]
def Jvm_cpy (s : SG) (q sp d dp n : Int) : SG := cpy s q sp d dp n
theorem RefC.cpyd {s : SG} (hR : RefC s) {q sp d dp n : Int} (hk : kd d = 101) : RefC (Jvm_cpy s q sp d dp n) := by
  have key : ∀ k' j, rcb k' j = true → swp k' j = false → Jvm_cpy s q sp d dp n k' j = s k' j := by
    intro k' j hr _
    show Jvm_cpy s q sp d dp n k' j = s k' j
    unfold Jvm_cpy
    refine cpy_ne ?_ j
    rintro rfl
    rw [rcb_a (by omega)] at hr
    cases hr
  obtain ⟨h0, h1, h2, h3, h4, h5, h6, h7, h8, h9, h10, h11, h12, h13, h14, h15, h16, h17, h18, h19, h20, h21, h22, h23, h24, h25, h26, h27, h28, h29, h30, h31, h32, h33, h34, h35, h36, h37, h38, h39, h40, h41, h42, h43, h44, h45, h46, h47, h48, h49, h50, h51, h52, h53, h54, h55, h56, h57, h58, h59, h60, h61, h62, h63, h64, h65, h66, h67, h68, h69, h70, h71, h72, h73, h74, h75, h76, h77, h78, h79, h80⟩ := hR
  exact ⟨(key 0 0 rfl rfl).trans h0, (key 0 1 rfl rfl).trans h1, (key 0 2 rfl rfl).trans h2, (key 0 3 rfl rfl).trans h3, (key 0 4 rfl rfl).trans h4, (key 0 5 rfl rfl).trans h5, (key 0 6 rfl rfl).trans h6, (key 0 7 rfl rfl).trans h7, (key 0 8 rfl rfl).trans h8, (key 1 0 rfl rfl).trans h9, (key 3 0 rfl rfl).trans h10, (key 5 0 rfl rfl).trans h11, (key 5 1 rfl rfl).trans h12, (key 5 2 rfl rfl).trans h13, (key 5 3 rfl rfl).trans h14, (key 10 0 rfl rfl).trans h15, (key 10 1 rfl rfl).trans h16, (key 13 0 rfl rfl).trans h17, (key 13 1 rfl rfl).trans h18, (key 16 0 rfl rfl).trans h19, (key 16 1 rfl rfl).trans h20, (key 16 2 rfl rfl).trans h21, (key 16 3 rfl rfl).trans h22, (key 16 4 rfl rfl).trans h23, (key 16 5 rfl rfl).trans h24, (key 23 0 rfl rfl).trans h25, (key 23 1 rfl rfl).trans h26, (key 23 2 rfl rfl).trans h27, (key 23 3 rfl rfl).trans h28, (key 23 4 rfl rfl).trans h29, (key 23 5 rfl rfl).trans h30, (key 30 0 rfl rfl).trans h31, (key 30 1 rfl rfl).trans h32, (key 32 0 rfl rfl).trans h33, (key 32 1 rfl rfl).trans h34, (key 32 2 rfl rfl).trans h35, (key 32 3 rfl rfl).trans h36, (key 37 0 rfl rfl).trans h37, (key 37 1 rfl rfl).trans h38, (key 37 2 rfl rfl).trans h39, (key 37 3 rfl rfl).trans h40, (key 42 0 rfl rfl).trans h41, (key 42 1 rfl rfl).trans h42, (key 42 2 rfl rfl).trans h43, (key 42 3 rfl rfl).trans h44, (key 42 4 rfl rfl).trans h45, (key 42 5 rfl rfl).trans h46, (key 49 0 rfl rfl).trans h47, (key 49 1 rfl rfl).trans h48, (key 49 2 rfl rfl).trans h49, (key 49 3 rfl rfl).trans h50, (key 49 4 rfl rfl).trans h51, (key 49 5 rfl rfl).trans h52, (key 56 0 rfl rfl).trans h53, (key 56 1 rfl rfl).trans h54, (key 56 2 rfl rfl).trans h55, (key 56 3 rfl rfl).trans h56, (key 56 8 rfl rfl).trans h57, (key 56 10 rfl rfl).trans h58, (key 56 11 rfl rfl).trans h59, (key 56 12 rfl rfl).trans h60, (key 56 13 rfl rfl).trans h61, (key 56 16 rfl rfl).trans h62, (key 56 17 rfl rfl).trans h63, (key 56 18 rfl rfl).trans h64, (key 56 23 rfl rfl).trans h65, (key 56 24 rfl rfl).trans h66, (key 56 25 rfl rfl).trans h67, (key 56 26 rfl rfl).trans h68, (key 56 27 rfl rfl).trans h69, (key 56 28 rfl rfl).trans h70, (key 56 29 rfl rfl).trans h71, (key 56 30 rfl rfl).trans h72, (key 56 31 rfl rfl).trans h73, (key 56 32 rfl rfl).trans h74, (key 56 39 rfl rfl).trans h75, (key 56 40 rfl rfl).trans h76, (key 56 41 rfl rfl).trans h77, (key 56 42 rfl rfl).trans h78, (key 56 43 rfl rfl).trans h79, (key 56 44 rfl rfl).trans h80⟩

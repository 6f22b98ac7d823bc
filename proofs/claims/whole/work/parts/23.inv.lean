theorem sem_gd {M pc : Nat} {ls st : List AV} {s s' : SG} {v : AV} (h : sem M pc ls st s = some (v, s')) (h0 : 0 ≤ s (-1) 0) : Gd s s' := by
  obtain ⟨n, hn⟩ := run_of_sem h
  exact run_gd n _ _ _ _ _ _ _ hn h0
set_option maxHeartbeats 4000000 in
theorem Inv.sc {s s' : SG} (h : Inv s) (hs : Sc s s')  : Inv s' := by
  have ht := h.2.1.1
  unfold Sc at hs
  have hd : s 0 10 = 32 ∨ s 0 10 = 37 := by omega
  have h9 : s' 0 9 = s 0 9 := hs 0 9 (by unfold scr; omega)
  have h10 : s' 0 10 = s 0 10 := hs 0 10 (by unfold scr; omega)
  refine ⟨?_, ⟨?_, ?_, ?_⟩, ?_, ?_, ?_, ?_, ⟨?_, ?_⟩, ?_⟩
  · have h1 := h.1
    unfold RefC at h1 ⊢
    simp (disch := (unfold scr; omega)) only [hs]
    exact h1
  · rw [h9, h10]; exact ht
  · have h1 := h.2.1.2.1
    rw [h9]
    intro i i0 i1
    have h2 := h1 i i0 i1
    unfold tv at h2 ⊢
    rcases ht with ⟨t1, t2⟩ | ⟨t1, t2⟩
    · rw [t2] at hs
      rw [t1] at h2 ⊢
      simp (disch := (unfold scr; omega)) only [hs]
      exact h2
    · rw [t2] at hs
      rw [t1] at h2 ⊢
      simp (disch := (unfold scr; omega)) only [hs]
      exact h2
  · have h1 := h.2.1.2.2
    unfold TRng at h1 ⊢
    simp (disch := (unfold scr; omega)) only [hs]
    exact h1
  · have h1 := h.2.2.1
    unfold TextI at h1 ⊢
    simp (disch := (unfold scr; omega)) only [hs]
    exact h1
  · have h1 := h.2.2.2.1
    have e : s' 58 = s 58 := funext fun i => hs 58 i (by unfold scr; omega)
    unfold ApartI at h1 ⊢
    rw [e]
    simp (disch := (unfold scr; omega)) only [hs]
    exact h1
  · have h1 := h.2.2.2.2.1
    unfold SeeI at h1 ⊢
    simp (disch := (unfold scr; omega)) only [hs]
    exact h1
  · have h1 := h.2.2.2.2.2.1
    unfold MornI at h1 ⊢
    simp (disch := (unfold scr; omega)) only [hs]
    exact h1
  · have h1 := h.2.2.2.2.2.2.1.1
    unfold SlotI at h1 ⊢
    simp (disch := (unfold scr; omega)) only [hs]
    exact h1
  · have h1 := h.2.2.2.2.2.2.1.2
    unfold SlotI at h1 ⊢
    simp (disch := (unfold scr; omega)) only [hs]
    exact h1
  · have h1 := h.2.2.2.2.2.2.2
    unfold CntI at h1 ⊢
    simp (disch := (unfold scr; omega)) only [hs]
    exact h1
def Ctext (k i : Int) : Prop := (k = 1 ∧ i = 1) ∨ k = 2 ∨ (k = 56 ∧ i = 4) ∨ k = 60
set_option maxHeartbeats 4000000 in
theorem Inv.text {s s' : SG} (h : Inv s) (hs : ∀ k i, ¬ scr (s 0 10) k i → ¬ Ctext k i → s' k i = s k i) (hX : TextI s') : Inv s' := by
  have ht := h.2.1.1
  have hd : s 0 10 = 32 ∨ s 0 10 = 37 := by omega
  have h9 : s' 0 9 = s 0 9 := hs 0 9 (by unfold scr; omega) (by unfold Ctext; omega)
  have h10 : s' 0 10 = s 0 10 := hs 0 10 (by unfold scr; omega) (by unfold Ctext; omega)
  refine ⟨?_, ⟨?_, ?_, ?_⟩, ?_, ?_, ?_, ?_, ⟨?_, ?_⟩, ?_⟩
  · have h1 := h.1
    unfold RefC at h1 ⊢
    simp (disch := first | (unfold scr; omega) | (unfold Ctext; omega)) only [hs]
    exact h1
  · rw [h9, h10]; exact ht
  · have h1 := h.2.1.2.1
    rw [h9]
    intro i i0 i1
    have h2 := h1 i i0 i1
    unfold tv at h2 ⊢
    rcases ht with ⟨t1, t2⟩ | ⟨t1, t2⟩
    · rw [t2] at hs
      rw [t1] at h2 ⊢
      simp (disch := first | (unfold scr; omega) | (unfold Ctext; omega)) only [hs]
      exact h2
    · rw [t2] at hs
      rw [t1] at h2 ⊢
      simp (disch := first | (unfold scr; omega) | (unfold Ctext; omega)) only [hs]
      exact h2
  · have h1 := h.2.1.2.2
    unfold TRng at h1 ⊢
    simp (disch := first | (unfold scr; omega) | (unfold Ctext; omega)) only [hs]
    exact h1
  · exact hX
  · have h1 := h.2.2.2.1
    have e : s' 58 = s 58 := funext fun i => hs 58 i (by unfold scr; omega) (by unfold Ctext; omega)
    unfold ApartI at h1 ⊢
    rw [e]
    simp (disch := first | (unfold scr; omega) | (unfold Ctext; omega)) only [hs]
    exact h1
  · have h1 := h.2.2.2.2.1
    unfold SeeI at h1 ⊢
    simp (disch := first | (unfold scr; omega) | (unfold Ctext; omega)) only [hs]
    exact h1
  · have h1 := h.2.2.2.2.2.1
    unfold MornI at h1 ⊢
    simp (disch := first | (unfold scr; omega) | (unfold Ctext; omega)) only [hs]
    exact h1
  · have h1 := h.2.2.2.2.2.2.1.1
    unfold SlotI at h1 ⊢
    simp (disch := first | (unfold scr; omega) | (unfold Ctext; omega)) only [hs]
    exact h1
  · have h1 := h.2.2.2.2.2.2.1.2
    unfold SlotI at h1 ⊢
    simp (disch := first | (unfold scr; omega) | (unfold Ctext; omega)) only [hs]
    exact h1
  · have h1 := h.2.2.2.2.2.2.2
    unfold CntI at h1 ⊢
    simp (disch := first | (unfold scr; omega) | (unfold Ctext; omega)) only [hs]
    exact h1
def Csee (k i : Int) : Prop := (k = 10 ∧ i = 2) ∨ k = 11 ∨ k = 12 ∨ (k = 56 ∧ i = 9) ∨ k = 62 ∨ k = 63
set_option maxHeartbeats 4000000 in
theorem Inv.see {s s' : SG} (h : Inv s) (hs : ∀ k i, ¬ scr (s 0 10) k i → ¬ Csee k i → s' k i = s k i) (hX : SeeI s') : Inv s' := by
  have ht := h.2.1.1
  have hd : s 0 10 = 32 ∨ s 0 10 = 37 := by omega
  have h9 : s' 0 9 = s 0 9 := hs 0 9 (by unfold scr; omega) (by unfold Csee; omega)
  have h10 : s' 0 10 = s 0 10 := hs 0 10 (by unfold scr; omega) (by unfold Csee; omega)
  refine ⟨?_, ⟨?_, ?_, ?_⟩, ?_, ?_, ?_, ?_, ⟨?_, ?_⟩, ?_⟩
  · have h1 := h.1
    unfold RefC at h1 ⊢
    simp (disch := first | (unfold scr; omega) | (unfold Csee; omega)) only [hs]
    exact h1
  · rw [h9, h10]; exact ht
  · have h1 := h.2.1.2.1
    rw [h9]
    intro i i0 i1
    have h2 := h1 i i0 i1
    unfold tv at h2 ⊢
    rcases ht with ⟨t1, t2⟩ | ⟨t1, t2⟩
    · rw [t2] at hs
      rw [t1] at h2 ⊢
      simp (disch := first | (unfold scr; omega) | (unfold Csee; omega)) only [hs]
      exact h2
    · rw [t2] at hs
      rw [t1] at h2 ⊢
      simp (disch := first | (unfold scr; omega) | (unfold Csee; omega)) only [hs]
      exact h2
  · have h1 := h.2.1.2.2
    unfold TRng at h1 ⊢
    simp (disch := first | (unfold scr; omega) | (unfold Csee; omega)) only [hs]
    exact h1
  · have h1 := h.2.2.1
    unfold TextI at h1 ⊢
    simp (disch := first | (unfold scr; omega) | (unfold Csee; omega)) only [hs]
    exact h1
  · have h1 := h.2.2.2.1
    have e : s' 58 = s 58 := funext fun i => hs 58 i (by unfold scr; omega) (by unfold Csee; omega)
    unfold ApartI at h1 ⊢
    rw [e]
    simp (disch := first | (unfold scr; omega) | (unfold Csee; omega)) only [hs]
    exact h1
  · exact hX
  · have h1 := h.2.2.2.2.2.1
    unfold MornI at h1 ⊢
    simp (disch := first | (unfold scr; omega) | (unfold Csee; omega)) only [hs]
    exact h1
  · have h1 := h.2.2.2.2.2.2.1.1
    unfold SlotI at h1 ⊢
    simp (disch := first | (unfold scr; omega) | (unfold Csee; omega)) only [hs]
    exact h1
  · have h1 := h.2.2.2.2.2.2.1.2
    unfold SlotI at h1 ⊢
    simp (disch := first | (unfold scr; omega) | (unfold Csee; omega)) only [hs]
    exact h1
  · have h1 := h.2.2.2.2.2.2.2
    unfold CntI at h1 ⊢
    simp (disch := first | (unfold scr; omega) | (unfold Csee; omega)) only [hs]
    exact h1
def Cmorn (k i : Int) : Prop := (k = 16 ∧ 6 ≤ i) ∨ (17 ≤ k ∧ k ≤ 22) ∨ (k = 56 ∧ (i = 15 ∨ (19 ≤ i ∧ i ≤ 22))) ∨ (66 ≤ k ∧ k ≤ 71)
set_option maxHeartbeats 4000000 in
theorem Inv.morn {s s' : SG} (h : Inv s) (hs : ∀ k i, ¬ scr (s 0 10) k i → ¬ Cmorn k i → s' k i = s k i) (hX : MornI s') : Inv s' := by
  have ht := h.2.1.1
  have hd : s 0 10 = 32 ∨ s 0 10 = 37 := by omega
  have h9 : s' 0 9 = s 0 9 := hs 0 9 (by unfold scr; omega) (by unfold Cmorn; omega)
  have h10 : s' 0 10 = s 0 10 := hs 0 10 (by unfold scr; omega) (by unfold Cmorn; omega)
  refine ⟨?_, ⟨?_, ?_, ?_⟩, ?_, ?_, ?_, ?_, ⟨?_, ?_⟩, ?_⟩
  · have h1 := h.1
    unfold RefC at h1 ⊢
    simp (disch := first | (unfold scr; omega) | (unfold Cmorn; omega)) only [hs]
    exact h1
  · rw [h9, h10]; exact ht
  · have h1 := h.2.1.2.1
    rw [h9]
    intro i i0 i1
    have h2 := h1 i i0 i1
    unfold tv at h2 ⊢
    rcases ht with ⟨t1, t2⟩ | ⟨t1, t2⟩
    · rw [t2] at hs
      rw [t1] at h2 ⊢
      simp (disch := first | (unfold scr; omega) | (unfold Cmorn; omega)) only [hs]
      exact h2
    · rw [t2] at hs
      rw [t1] at h2 ⊢
      simp (disch := first | (unfold scr; omega) | (unfold Cmorn; omega)) only [hs]
      exact h2
  · have h1 := h.2.1.2.2
    unfold TRng at h1 ⊢
    simp (disch := first | (unfold scr; omega) | (unfold Cmorn; omega)) only [hs]
    exact h1
  · have h1 := h.2.2.1
    unfold TextI at h1 ⊢
    simp (disch := first | (unfold scr; omega) | (unfold Cmorn; omega)) only [hs]
    exact h1
  · have h1 := h.2.2.2.1
    have e : s' 58 = s 58 := funext fun i => hs 58 i (by unfold scr; omega) (by unfold Cmorn; omega)
    unfold ApartI at h1 ⊢
    rw [e]
    simp (disch := first | (unfold scr; omega) | (unfold Cmorn; omega)) only [hs]
    exact h1
  · have h1 := h.2.2.2.2.1
    unfold SeeI at h1 ⊢
    simp (disch := first | (unfold scr; omega) | (unfold Cmorn; omega)) only [hs]
    exact h1
  · exact hX
  · have h1 := h.2.2.2.2.2.2.1.1
    unfold SlotI at h1 ⊢
    simp (disch := first | (unfold scr; omega) | (unfold Cmorn; omega)) only [hs]
    exact h1
  · have h1 := h.2.2.2.2.2.2.1.2
    unfold SlotI at h1 ⊢
    simp (disch := first | (unfold scr; omega) | (unfold Cmorn; omega)) only [hs]
    exact h1
  · have h1 := h.2.2.2.2.2.2.2
    unfold CntI at h1 ⊢
    simp (disch := first | (unfold scr; omega) | (unfold Cmorn; omega)) only [hs]
    exact h1
def Cslot (k i : Int) : Prop := k = 31 ∨ (k = 42 ∧ 6 ≤ i) ∨ (43 ≤ k ∧ k ≤ 48) ∨ (k = 49 ∧ 6 ≤ i) ∨ (50 ≤ k ∧ k ≤ 55) ∨ (79 ≤ k ∧ k ≤ 84)
set_option maxHeartbeats 4000000 in
theorem Inv.slot {s s' : SG} (h : Inv s) (hs : ∀ k i, ¬ scr (s 0 10) k i → ¬ Cslot k i → s' k i = s k i) (hX : SlotI s' 0 42 ∧ SlotI s' 1 49) : Inv s' := by
  have ht := h.2.1.1
  have hd : s 0 10 = 32 ∨ s 0 10 = 37 := by omega
  have h9 : s' 0 9 = s 0 9 := hs 0 9 (by unfold scr; omega) (by unfold Cslot; omega)
  have h10 : s' 0 10 = s 0 10 := hs 0 10 (by unfold scr; omega) (by unfold Cslot; omega)
  refine ⟨?_, ⟨?_, ?_, ?_⟩, ?_, ?_, ?_, ?_, ?_, ?_⟩
  · have h1 := h.1
    unfold RefC at h1 ⊢
    simp (disch := first | (unfold scr; omega) | (unfold Cslot; omega)) only [hs]
    exact h1
  · rw [h9, h10]; exact ht
  · have h1 := h.2.1.2.1
    rw [h9]
    intro i i0 i1
    have h2 := h1 i i0 i1
    unfold tv at h2 ⊢
    rcases ht with ⟨t1, t2⟩ | ⟨t1, t2⟩
    · rw [t2] at hs
      rw [t1] at h2 ⊢
      simp (disch := first | (unfold scr; omega) | (unfold Cslot; omega)) only [hs]
      exact h2
    · rw [t2] at hs
      rw [t1] at h2 ⊢
      simp (disch := first | (unfold scr; omega) | (unfold Cslot; omega)) only [hs]
      exact h2
  · have h1 := h.2.1.2.2
    unfold TRng at h1 ⊢
    simp (disch := first | (unfold scr; omega) | (unfold Cslot; omega)) only [hs]
    exact h1
  · have h1 := h.2.2.1
    unfold TextI at h1 ⊢
    simp (disch := first | (unfold scr; omega) | (unfold Cslot; omega)) only [hs]
    exact h1
  · have h1 := h.2.2.2.1
    have e : s' 58 = s 58 := funext fun i => hs 58 i (by unfold scr; omega) (by unfold Cslot; omega)
    unfold ApartI at h1 ⊢
    rw [e]
    simp (disch := first | (unfold scr; omega) | (unfold Cslot; omega)) only [hs]
    exact h1
  · have h1 := h.2.2.2.2.1
    unfold SeeI at h1 ⊢
    simp (disch := first | (unfold scr; omega) | (unfold Cslot; omega)) only [hs]
    exact h1
  · have h1 := h.2.2.2.2.2.1
    unfold MornI at h1 ⊢
    simp (disch := first | (unfold scr; omega) | (unfold Cslot; omega)) only [hs]
    exact h1
  · exact hX
  · have h1 := h.2.2.2.2.2.2.2
    unfold CntI at h1 ⊢
    simp (disch := first | (unfold scr; omega) | (unfold Cslot; omega)) only [hs]
    exact h1

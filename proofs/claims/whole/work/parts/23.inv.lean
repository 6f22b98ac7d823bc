theorem sem_gd {M pc : Nat} {ls st : List AV} {s s' : SG} {v : AV} (h : sem M pc ls st s = some (v, s')) (h0 : 0 ≤ s (-1) 0) : Gd s s' := by
  obtain ⟨n, hn⟩ := run_of_sem h
  exact run_gd n _ _ _ _ _ _ _ hn h0
set_option maxHeartbeats 4000000 in
theorem Inv.sc {s s' : SG} (h : Inv s) (hs : Sc s s') : Inv s' := by
  have ht := h.2.1.1
  unfold Sc at hs
  have hd : s 0 10 = 32 ∨ s 0 10 = 37 := by omega
  have h9 : s' 0 9 = s 0 9 := hs 0 9 (by unfold scr; omega)
  have h10 : s' 0 10 = s 0 10 := hs 0 10 (by unfold scr; omega)
  refine ⟨?_, ⟨?_, ?_, ?_⟩, ?_, ?_, ?_, ?_, ⟨?_, ?_⟩, ?_⟩
  · have h1 := h.1
    unfold RefC at h1 ⊢
    simp (disch := (unfold scr; omega)) only [hs]
    exact h1
  · rw [h9, h10]; exact ht
  · have h1 := h.2.1.2.1
    rw [h9]
    intro i i0 i1
    have h2 := h1 i i0 i1
    unfold tv at h2 ⊢
    rcases ht with ⟨t1, t2⟩ | ⟨t1, t2⟩
    · rw [t2] at hs
      rw [t1] at h2 ⊢
      simp (disch := (unfold scr; omega)) only [hs]
      exact h2
    · rw [t2] at hs
      rw [t1] at h2 ⊢
      simp (disch := (unfold scr; omega)) only [hs]
      exact h2
  · have h1 := h.2.1.2.2
    unfold TRng at h1 ⊢
    simp (disch := (unfold scr; omega)) only [hs]
    exact h1
  · have h1 := h.2.2.1
    unfold TextI at h1 ⊢
    simp (disch := (unfold scr; omega)) only [hs]
    exact h1
  · have h1 := h.2.2.2.1
    have e : s' 58 = s 58 := funext fun i => hs 58 i (by unfold scr; omega)
    unfold ApartI at h1 ⊢
    rw [e]
    simp (disch := (unfold scr; omega)) only [hs]
    exact h1
  · have h1 := h.2.2.2.2.1
    unfold SeeI at h1 ⊢
    simp (disch := (unfold scr; omega)) only [hs]
    exact h1
  · have h1 := h.2.2.2.2.2.1
    unfold MornI at h1 ⊢
    simp (disch := (unfold scr; omega)) only [hs]
    exact h1
  · have h1 := h.2.2.2.2.2.2.1.1
    unfold SlotI at h1 ⊢
    simp (disch := (unfold scr; omega)) only [hs]
    exact h1
  · have h1 := h.2.2.2.2.2.2.1.2
    unfold SlotI at h1 ⊢
    simp (disch := (unfold scr; omega)) only [hs]
    exact h1
  · have h1 := h.2.2.2.2.2.2.2
    unfold CntI at h1 ⊢
    simp (disch := (unfold scr; omega)) only [hs]
    exact h1

theorem Inv.sam {s : SG} (h : Inv s) : Sam s s := h.2.2.1
theorem Sam.of {s t t' : SG} (h : Sam s t) (h4 : t' 56 4 = t 56 4) (h6 : ∀ i, t' 60 i = t 60 i) : Sam s t' := by
  unfold Sam at h ⊢
  rw [h4]
  refine ⟨h.1, h.2.1, fun i i0 i1 => ?_⟩
  rw [h6]
  exact h.2.2 i i0 i1
theorem Inv.dh {s : SG} (h : Inv s) : s 0 10 = 32 ∨ s 0 10 = 37 := by have := h.2.1.1; omega
/-- the class reads; the reference reads what it reads in any store with the same text -/
theorem k_read {s : SG} (h : Inv s) : ∃ r s1, sem 32 0 [aA 3, aA 1, aA (s 0 10), aU] [] s = some (aI r, s1) ∧ FcC2 (s 0 10) s s1 ∧ ∀ t, RefC t → t 56 4 = s 56 4 → (∀ i, t 60 i = s 60 i) → ∃ t', sem 159 0 [aA 56] [] t = some (aI r, t') ∧ FcR2 t t' ∧ (r = -9 → Rd (s 0 10) s1 t' ∧ s1 3 2 = t' 56 7) := by
  obtain ⟨r, s1, t', a1, a2, a3, a4, a5⟩ := j_read h.dh h.1 h.1 h.sam
  refine ⟨r, s1, a1, a3, fun t hR h4 h6 => ?_⟩
  obtain ⟨r2, s2, t2, b1, b2, b3, b4, b5⟩ := j_read h.dh h.1 hR (h.sam.of h4 h6)
  have e := a1.symm.trans b1
  injection e with e
  injection e with e1 e2
  injection e1 with e1
  subst e1
  subst e2
  exact ⟨t2, b2, b4, b5⟩
theorem q_fault {s : SG} (h : Inv s) : ∃ r s1 s2, sem 105 0 [aA 0] [] s = some (aI r, s1) ∧ sem 161 0 [aA 56] [] s1 = some (aI r, s2) ∧ Inv s2 := by
  have hR := h.1
  have hd := h.dh
  obtain ⟨r, s1, a1, a2, a3⟩ := k_read h
  have hR1 : RefC s1 := RefC.sem a1 rfl hR
  obtain ⟨t', b1, b2, -⟩ := a3 s1 hR1 (a2 56 4 (by omega) (by decide) (by omega) (by omega)) (fun i => a2 60 i (by omega) (by decide) (by omega) (by omega))
  refine ⟨r, s1, t', ?_, ?_, h.sc (fun k i hk => ?_)⟩
  · have r1 : s 0 1 = 3 := hR.2.1
    have r0 : s 0 0 = 1 := hR.1
    rw [e105_0, g_t (by decide), r1, g_t (by decide), g_t (by decide), r0, g_t (by decide), g_t (by decide), g_t (by omega), g_t (by decide), a1, bnI_some]
  · rw [g161_0 hR1, b1, bnI_some]
  · unfold scr at hk
    rw [b2 k i (by omega) (by omega) (by omega), a2 k i (by omega) (by omega) (by omega) (by omega)]

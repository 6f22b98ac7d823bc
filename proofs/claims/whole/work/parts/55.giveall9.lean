theorem ru61 {s : SG} (h : RefC s) (i v : Int) : RefC (up s 61 i v) := RefC.upd h (rcb_a (by decide))
theorem l_give9 {but p : Int} {n : Nat} : ∀ (m : Nat) (j : Int) (s : SG), RefC s → TRng (s 58) → s 58 0 = n → j + m = p → 0 ≤ j → p ≤ 60 → (∀ x : Int, 0 ≤ x → x < n → 0 ≤ s 61 x ∧ s 61 x + m ≤ 60) → ∃ s', sem 173 22 [aA 56, aI p, aI but, aI j, aU, aU, aU, aU, aU, aU] [] s = some (aU, s') ∧ s' 61 = gv (s 58) but n m (s 61) ∧ ∀ q, q ≠ 61 → s' q = s q := by
  intro m
  induction m with
  | zero =>
    intro j s hR hT hn hj h0 hp h61
    rw [g173_22 hR, if_neg (by omega)]
    exact ⟨s, rfl, rfl, fun _ _ => rfl⟩
  | succ m ih =>
    intro j s hR hT hn hj h0 hp h61
    have w : w32 (j + 1) = j + 1 := w32_id (by omega) (by omega)
    have e1 := l_pk9 hR hT hn (p := p) (but := but) (j := j) (fun x x0 x1 => by have := h61 x x0 x1; omega) n 0 (by omega)
    obtain ⟨s1, hs1⟩ : ∃ z, z = if pk (s 58) but (s 61) n = -9 then s else up s 61 (pk (s 58) but (s 61) n) (s 61 (pk (s 58) but (s 61) n) + 1) := ⟨_, rfl⟩
    rw [← hs1, w] at e1
    have hI : RefC s1 := by
      rw [hs1]
      split
      · exact hR
      · exact ru61 hR _ _
    have f1 : ∀ q, q ≠ 61 → s1 q = s q := fun q hq => by
      rw [hs1]
      split
      · rfl
      · exact up_k hq
    have f9 : s1 61 = gst (s 58) but n (s 61) := by
      rw [hs1]
      unfold gst
      split
      · rfl
      · funext x
        rw [up_app]
        by_cases z : x = pk (s 58) but (s 61) n
        · rw [if_pos ⟨rfl, z⟩, if_pos z, z]
        · rw [if_neg (fun y => z y.2), if_neg z]
    have e58 : s1 58 = s 58 := f1 58 (by decide)
    obtain ⟨s', b1, b2, b3⟩ := ih (j + 1) s1 hI (by rw [e58]; exact hT) (by rw [e58]; exact hn) (by omega) (by omega) hp (by
      rw [f9]
      exact gst_rng (fun x x0 x1 => by have := h61 x x0 x1; omega))
    refine ⟨s', ?_, ?_, fun q hq => by rw [b3 q hq, f1 q hq]⟩
    · rw [g173_22 hR, if_pos (by omega)]
      exact e1.trans b1
    · rw [b2, e58, f9]
      rfl

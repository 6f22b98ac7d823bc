/-! reading a text: the class's steps -/
def byt (s : SG) (p : Int) : Int := if 0 ≤ p ∧ p < s 1 1 then s 2 p else -1
theorem c_byteAt {s : SG} (hR : RefC s) (h64 : s 1 1 ≤ 64) (p : Int) : sem 79 0 [aA 1, aI p] [] s = some (aI (byt s p), s) := by
  rw [g79_0 hR]
  unfold byt
  simp (disch := omega) only [grd_if, bnI_some, bnL_some, bnV_some, up_app, kds, kls, and_true, true_and, and_self, and_false, false_and, or_true, true_or, or_false, false_or, not_true_eq_false, not_false_eq_true, ite_true, ite_false, if_true, if_false, ↓reduceIte, Int.reduceLT, Int.reduceLE, Int.reduceEq, Int.reduceNe, Int.reduceAdd, Int.reduceSub, Int.reduceMul, Int.reduceNeg, ne_eq, Int.le_refl, Int.lt_irrefl, cmpL_lt0, cmpL_gt0, cmpL_eq0, cmpL_le0, cmpL_ge0]
  repeat' split
  all_goals first | rfl | omega
def TxI (s : SG) : Prop := s 1 1 ≤ 64 ∧ ∀ i, 0 ≤ i → i < s 1 1 → 0 ≤ s 2 i ∧ s 2 i ≤ 255
theorem byt_r {s : SG} (h : TxI s) (p : Int) : -1 ≤ byt s p ∧ byt s p ≤ 255 := by
  unfold byt
  split
  · next q => have := h.2 p q.1 q.2; omega
  · omega
def fig (s : SG) (a b : Int) : Int := if byt s (s 3 1) - 48 < a ∨ b < byt s (s 3 1) - 48 then -9 else byt s (s 3 1) - 48
theorem c_fig {s : SG} (hR : RefC s) (h : TxI s) (a b : Int) : sem 39 0 [aA 3, aA 1, aI a, aI b, aU] [] s = some (aI (fig s a b), s) := by
  have r := byt_r h (s 3 1)
  rw [g39_0 hR, c_byteAt hR h.1, bnI_some, w32_id (by omega) (by omega)]
  unfold fig
  repeat' split
  all_goals first | rfl | omega
theorem c_takeC {s : SG} (hR : RefC s) (h : TxI s) (a b : Int) (ha : -9 < a) : sem 40 0 [aA 3, aA 1, aI a, aI b, aU] [] s = if fig s a b = -9 then some (aI (-9), s) else some (aI (fig s a b), up s 3 1 (w32 (s 3 1 + 1))) := by
  rw [g40_0 hR, c_fig hR h, bnI_some]
  split
  · next q => rw [q]
  · rfl
theorem c_tell {s : SG} (hR : RefC s) (c : Int) (hc : 0 ≤ c ∧ c < 18) : sem 42 0 [aA 3, aI c] [] s = if s 4 c = 0 then some (aI 1, up s 4 c 1) else some (aI 0, s) := by
  rw [g42_0 hR, if_neg (by omega), if_pos hc.2, g_t hc]
theorem c_untold {s : SG} (hR : RefC s) (h : TxI s) (b f : Int) (hb : b ≤ 2) (hf : 0 ≤ f ∧ f < 18 - 2) : sem 41 0 [aA 3, aA 1, aI b, aI f, aU] [] s = if fig s 0 b = -9 then some (aI (-9), s) else if s 4 (f + fig s 0 b) = 0 then some (aI (fig s 0 b), up (up s 4 (f + fig s 0 b) 1) 3 1 (w32 (s 3 1 + 1))) else some (aI (-9), s) := by
  rw [g41_0 hR, c_fig hR h, bnI_some]
  split
  · rfl
  · next q =>
    have r : 0 ≤ fig s 0 b ∧ fig s 0 b ≤ b := by
      unfold fig at q ⊢
      split at q
      · exact absurd rfl q
      · next z => rw [if_neg z]; omega
    have w : w32 (f + fig s 0 b) = f + fig s 0 b := w32_id (by omega) (by omega)
    rw [w, c_tell hR _ (by omega)]
    split
    · rw [bnI_some, if_neg (by decide), up_ne (by decide)]
    · rw [bnI_some, if_pos rfl]
theorem l_allTold {f m : Int} (hf : 0 ≤ f ∧ 0 ≤ m ∧ f + m ≤ 18) : ∀ (n : Nat) (l : Int) (s : SG), l + n = f + m → f ≤ l → RefC s → ∃ r, sem 43 6 [aA 3, aI f, aI m, aI l] [] s = some (aI r, s) ∧ ((r = 1 ∧ ∀ c, l ≤ c → c < f + m → s 4 c ≠ 0) ∨ (r = 0 ∧ ∃ c, l ≤ c ∧ c < f + m ∧ s 4 c = 0)) := by
  have w0 : w32 (f + m) = f + m := w32_id (by omega) (by omega)
  intro n
  induction n with
  | zero =>
    intro l s hl h0 hR
    rw [g43_6 hR, w0, if_neg (by omega)]
    exact ⟨1, rfl, Or.inl ⟨rfl, fun c h1 h2 => by omega⟩⟩
  | succ n ih =>
    intro l s hl h0 hR
    have w : w32 (l + 1) = l + 1 := w32_id (by omega) (by omega)
    rw [g43_6 hR, w0, w, if_pos (by omega), if_pos (by omega), g_t (by omega)]
    split
    · next q => exact ⟨0, rfl, Or.inr ⟨rfl, l, by omega, by omega, q⟩⟩
    · next q =>
      obtain ⟨r, e, h⟩ := ih (l + 1) s (by omega) (by omega) hR
      refine ⟨r, e, ?_⟩
      rcases h with ⟨h1, h2⟩ | ⟨h1, c, h2, h3, h4⟩
      · refine Or.inl ⟨h1, fun c c0 c1 => ?_⟩
        by_cases z : c = l
        · rw [z]; exact q
        · exact h2 c (by omega) c1
      · exact Or.inr ⟨h1, c, by omega, h3, h4⟩
theorem c_allTold {f m : Int} (hf : 0 ≤ f ∧ 0 ≤ m ∧ f + m ≤ 18) {s : SG} (hR : RefC s) : ∃ r, sem 43 0 [aA 3, aI f, aI m, aU] [] s = some (aI r, s) ∧ ((r = 1 ∧ ∀ c, f ≤ c → c < f + m → s 4 c ≠ 0) ∨ (r = 0 ∧ ∃ c, f ≤ c ∧ c < f + m ∧ s 4 c = 0)) := by
  have e : max f 0 = f := by omega
  rw [g43_0 hR, e]
  exact l_allTold hf m.toNat f s (by omega) (by omega) hR

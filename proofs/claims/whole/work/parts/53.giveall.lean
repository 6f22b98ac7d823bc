def gst (T : Int → Int) (but : Int) (n : Nat) (f : Int → Int) : Int → Int := if pk T but f n = -9 then f else fun x => if x = pk T but f n then f x + 1 else f x
def gv (T : Int → Int) (but : Int) (n : Nat) : Nat → (Int → Int) → Int → Int
  | 0, f => f
  | k + 1, f => gv T but n k (gst T but n f)
theorem Inv.u9 {s : SG} (h : Inv s) (i v : Int) : Inv (up s 9 i v) := h.sc (fun k j hk => by
  unfold scr at hk
  rw [up_app, if_neg (by omega)])
theorem gst_rng {T : Int → Int} {but : Int} {n : Nat} {f : Int → Int} {m : Int} (hf : ∀ x : Int, 0 ≤ x → x < n → 0 ≤ f x ∧ f x + (m + 1) ≤ 60) : ∀ x : Int, 0 ≤ x → x < n → 0 ≤ gst T but n f x ∧ gst T but n f x + m ≤ 60 := by
  intro x x0 x1
  have := hf x x0 x1
  unfold gst
  split
  · omega
  · dsimp only
    split <;> omega
theorem l_giveAll {but p : Int} {n : Nat} : ∀ (m : Nat) (j : Int) (s : SG), Inv s → s 58 0 = n → j + m = p → 0 ≤ j → p ≤ 60 → (∀ x : Int, 0 ≤ x → x < n → 0 ≤ s 9 x ∧ s 9 x + m ≤ 60) → ∃ s', sem 14 3 [aA 5, aA (s 0 9), aI p, aI but, aI j] [] s = some (aU, s') ∧ s' 9 = gv (s 58) but n m (s 9) ∧ ∀ q, q ≠ 9 → s' q = s q := by
  intro m
  induction m with
  | zero =>
    intro j s h hn hj h0 hp h9
    rw [g14_3 h.th h.1, if_neg (by omega)]
    exact ⟨s, rfl, rfl, fun _ _ => rfl⟩
  | succ m ih =>
    intro j s h hn hj h0 hp h9
    have w : w32 (j + 1) = j + 1 := w32_id (by omega) (by omega)
    have e1 : sem 15 0 [aA 5, aA (s 0 9), aI but, aU, aU] [] s = _ := (g15_0 h.th h.1 but).trans (l_pkC h hn but (fun x x0 x1 => by have := h9 x x0 x1; omega) n 0 (by omega))
    obtain ⟨s1, hs1⟩ : ∃ z, z = if pk (s 58) but (s 9) n = -9 then s else up s 9 (pk (s 58) but (s 9) n) (s 9 (pk (s 58) but (s 9) n) + 1) := ⟨_, rfl⟩
    rw [← hs1] at e1
    have hI : Inv s1 := by
      rw [hs1]
      split
      · exact h
      · exact h.u9 _ _
    have f1 : ∀ q, q ≠ 9 → s1 q = s q := fun q hq => by
      rw [hs1]
      split
      · rfl
      · exact up_k hq
    have f9 : s1 9 = gst (s 58) but n (s 9) := by
      rw [hs1]
      unfold gst
      split
      · rfl
      · funext x
        rw [up_app]
        by_cases z : x = pk (s 58) but (s 9) n
        · rw [if_pos ⟨rfl, z⟩, if_pos z, z]
        · rw [if_neg (fun y => z y.2), if_neg z]
    have e0 : s1 0 9 = s 0 9 := by rw [f1 0 (by decide)]
    have e58 : s1 58 = s 58 := f1 58 (by decide)
    obtain ⟨s', b1, b2, b3⟩ := ih (j + 1) s1 hI (by rw [e58]; exact hn) (by omega) (by omega) hp (by
      rw [f9]
      exact gst_rng (fun x x0 x1 => by have := h9 x x0 x1; omega))
    refine ⟨s', ?_, ?_, fun q hq => by rw [b3 q hq, f1 q hq]⟩
    · rw [g14_3 h.th h.1, if_pos (by omega), e1, bnV_some, w, ← e0]
      exact b1
    · rw [b2, e58, f9]
      rfl

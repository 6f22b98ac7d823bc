/-! reading a text: the reference's steps -/
def Bt (m v : Int) : Prop := iandA (ishrA m v) 1 ≠ 0
theorem v10 {v : Int} (h : 0 ≤ v ∧ v ≤ 9) : v = 0 ∨ v = 1 ∨ v = 2 ∨ v = 3 ∨ v = 4 ∨ v = 5 ∨ v = 6 ∨ v = 7 ∨ v = 8 ∨ v = 9 := by omega
def msk (b0 b1 b2 : Prop) [Decidable b0] [Decidable b1] [Decidable b2] : Int := (if b0 then 1 else 0) + (if b1 then 2 else 0) + (if b2 then 4 else 0)
theorem bt_msk {b0 b1 b2 : Prop} [Decidable b0] [Decidable b1] [Decidable b2] {v : Int} (h : 0 ≤ v ∧ v ≤ 9) : Bt (msk b0 b1 b2) v ↔ (v = 0 ∧ b0) ∨ (v = 1 ∧ b1) ∨ (v = 2 ∧ b2) := by
  unfold Bt msk
  by_cases h0 : b0 <;> by_cases h1 : b1 <;> by_cases h2 : b2 <;> simp only [h0, h1, h2, if_true, if_false, and_true, and_false, or_false, false_or] <;> rcases v10 h with rfl | rfl | rfl | rfl | rfl | rfl | rfl | rfl | rfl | rfl <;> decide +kernel
theorem bt_14 {v : Int} (h : 0 ≤ v ∧ v ≤ 9) : Bt 14 v ↔ 1 ≤ v ∧ v ≤ 3 := by
  unfold Bt
  rcases v10 h with rfl | rfl | rfl | rfl | rfl | rfl | rfl | rfl | rfl | rfl <;> decide +kernel
theorem bt_15 {v : Int} (h : 0 ≤ v ∧ v ≤ 9) : Bt 15 v ↔ v ≤ 3 := by
  unfold Bt
  rcases v10 h with rfl | rfl | rfl | rfl | rfl | rfl | rfl | rfl | rfl | rfl <;> decide +kernel
theorem bt_1022 {v : Int} (h : 0 ≤ v ∧ v ≤ 9) : Bt 1022 v ↔ 1 ≤ v := by
  unfold Bt
  rcases v10 h with rfl | rfl | rfl | rfl | rfl | rfl | rfl | rfl | rfl | rfl <;> decide +kernel
theorem bt_1023 {v : Int} (h : 0 ≤ v ∧ v ≤ 9) : Bt 1023 v := by
  unfold Bt
  rcases v10 h with rfl | rfl | rfl | rfl | rfl | rfl | rfl | rfl | rfl | rfl <;> decide +kernel
theorem bt_nx {n a v : Int} (hn : n = 2 ∨ n = 3) (ha : 0 ≤ a ∧ a < n) (h : 0 ≤ v ∧ v ≤ 9) : Bt (iandA (w32 ((ishlA 1 n) - 1)) (ixorA (ishlA 1 a) (-1))) v ↔ v < n ∧ v ≠ a := by
  unfold Bt
  have h3 : a = 0 ∨ a = 1 ∨ a = 2 := by omega
  rcases hn with rfl | rfl <;> rcases h3 with rfl | rfl | rfl <;> first | (exfalso; omega) | (rcases v10 h with rfl | rfl | rfl | rfl | rfl | rfl | rfl | rfl | rfl | rfl <;> decide +kernel)
theorem msk_0 {b0 b1 b2 : Prop} [Decidable b0] [Decidable b1] [Decidable b2] : msk b0 b1 b2 = 0 ↔ ¬ b0 ∧ ¬ b1 ∧ ¬ b2 := by
  unfold msk
  by_cases h0 : b0 <;> by_cases h1 : b1 <;> by_cases h2 : b2 <;> simp [h0, h1, h2]
theorem ior_msk {b0 b1 b2 : Prop} [Decidable b0] [Decidable b1] [Decidable b2] : iorA (iorA (iorA 0 (if b0 then ishlA 1 0 else 0)) (if b1 then ishlA 1 1 else 0)) (if b2 then ishlA 1 2 else 0) = msk b0 b1 b2 := by
  unfold msk
  by_cases h0 : b0 <;> by_cases h1 : b1 <;> by_cases h2 : b2 <;> simp only [h0, h1, h2, if_true, if_false] <;> decide +kernel
theorem ior_msk2 {b0 b1 : Prop} [Decidable b0] [Decidable b1] : iorA (iorA 0 (if b0 then ishlA 1 0 else 0)) (if b1 then ishlA 1 1 else 0) = msk b0 b1 False := by
  unfold msk
  by_cases h0 : b0 <;> by_cases h1 : b1 <;> simp only [h0, h1, if_true, if_false] <;> decide +kernel
theorem ior_msk1 {b0 : Prop} [Decidable b0] : iorA 0 (if b0 then ishlA 1 0 else 0) = msk b0 False False := by
  unfold msk
  by_cases h0 : b0 <;> simp only [h0, if_true, if_false] <;> decide +kernel
theorem ior_msk0 : 0 = msk False False False := rfl
/-- what figure takes -/
def dgt (s : SG) : Int := if s 56 6 = -9 ∧ s 56 5 < s 56 4 then s 60 (s 56 5) - 48 else -1
def Tx9 (s : SG) : Prop := s 56 4 ≤ 64 ∧ 0 ≤ s 56 5 ∧ ∀ i, 0 ≤ i → i < s 56 4 → 0 ≤ s 60 i ∧ s 60 i ≤ 255
theorem c_fig9 {s : SG} (hR : RefC s) (h : Tx9 s) (m : Int) : sem 157 0 [aA 56, aI m, aU] [] s = if 0 ≤ dgt s ∧ dgt s ≤ 9 ∧ iandA (ishrA m (dgt s)) 1 ≠ 0 then some (aI (dgt s), up s 56 5 (w32 (s 56 5 + 1))) else some (aI 0, up s 56 6 (if s 56 6 = -9 then s 56 5 else s 56 6)) := by
  have tail : ∀ v, sem 157 36 [aA 56, aI m, aU] [aI v] s = if 0 ≤ v ∧ v ≤ 9 ∧ iandA (ishrA m v) 1 ≠ 0 then some (aI v, up s 56 5 (w32 (s 56 5 + 1))) else some (aI 0, up s 56 6 (if s 56 6 = -9 then s 56 5 else s 56 6)) := by
    intro v
    have t57 : sem 157 57 [aA 56, aU, aU] [] s = some (aI 0, up s 56 6 (if s 56 6 = -9 then s 56 5 else s 56 6)) := by
      rw [g157_57 hR]
      split <;> rfl
    rw [g157_36 hR, c_in, bnI_some, t57]
    by_cases q : 0 ≤ v ∧ v ≤ 9
    · rw [if_pos q, if_neg (by decide)]
      by_cases q2 : iandA (ishrA m v) 1 = 0
      · rw [if_pos q2, if_neg (fun z : 0 ≤ v ∧ v ≤ 9 ∧ iandA (ishrA m v) 1 ≠ 0 => z.2.2 q2)]
      · rw [if_neg q2, if_pos ⟨q.1, q.2, q2⟩]
    · rw [if_neg q, if_pos rfl, if_neg (fun z : 0 ≤ v ∧ v ≤ 9 ∧ iandA (ishrA m v) 1 ≠ 0 => q ⟨z.1, z.2.1⟩)]
  rw [g157_0 hR]
  have e1 : dgt s = if s 56 6 = -9 ∧ s 56 5 < s 56 4 then s 60 (s 56 5) - 48 else -1 := rfl
  by_cases q1 : s 56 6 = -9
  · by_cases q2 : s 56 5 < s 56 4
    · have r := h.2.2 _ h.2.1 q2
      rw [if_pos ⟨q1, q2⟩] at e1
      have h4 := h.1
      have h5 := h.2.1
      rw [if_pos q1, if_pos q2, g_t (by omega), w32_id (by omega) (by omega), tail, ← e1]
    · rw [if_neg (fun z => q2 z.2)] at e1
      rw [if_pos q1, if_neg q2, tail, ← e1]
  · rw [if_neg (fun z => q1 z.1)] at e1
    rw [if_neg q1, tail, ← e1]
/-- behind a fault a figure is 0 and the fault stays -/
theorem c_fig9f {s : SG} (hR : RefC s) (h : Tx9 s) (hf : s 56 6 ≠ -9) (m : Int) : sem 157 0 [aA 56, aI m, aU] [] s = some (aI 0, up s 56 6 (s 56 6)) := by
  have e : dgt s = -1 := by
    unfold dgt
    rw [if_neg (fun z => hf z.1)]
  rw [c_fig9 hR h, e, if_neg (by omega), if_neg hf]
/-- which of n from f on are not told -/
def opn (s : SG) (f n : Int) : Int := msk (0 < n ∧ s 59 f = 0) (1 < n ∧ s 59 (f + 1) = 0) (2 < n ∧ s 59 (f + 2) = 0)
theorem c_open {s : SG} (hR : RefC s) {f n : Int} (hf : 0 ≤ f ∧ f + n ≤ 28) (hn : 0 ≤ n ∧ n ≤ 3) : sem 158 0 [aA 56, aI f, aI n, aU, aU] [] s = some (aI (opn s f n), s) := by
  have e0 : w32 (f + 0) = f := by rw [Int.add_zero]; exact w32_id (by omega) (by omega)
  have k1 : w32 (0 + 1) = 1 := rfl
  have k2 : w32 (1 + 1) = 2 := rfl
  have k3 : w32 (2 + 1) = 3 := rfl
  have h3 : n = 0 ∨ n = 1 ∨ n = 2 ∨ n = 3 := by omega
  unfold opn
  rw [g158_0 hR]
  rcases h3 with rfl | rfl | rfl | rfl
  · rw [g158_5 hR, if_neg (by decide)]
    rfl
  · rw [g158_5 hR, if_pos (by decide), e0, g_t (by omega), k1, g158_5 hR, if_neg (by decide), ior_msk1]
    simp only [Int.reduceLT, true_and, false_and]
  · have e1 : w32 (f + 1) = f + 1 := w32_id (by omega) (by omega)
    rw [g158_5 hR, if_pos (by decide), e0, g_t (by omega), k1, g158_5 hR, if_pos (by decide), e1, g_t (by omega), k2, g158_5 hR, if_neg (by decide), ior_msk2]
    simp only [Int.reduceLT, true_and, false_and]
  · have e1 : w32 (f + 1) = f + 1 := w32_id (by omega) (by omega)
    have e2 : w32 (f + 2) = f + 2 := w32_id (by omega) (by omega)
    rw [g158_5 hR, if_pos (by decide), e0, g_t (by omega), k1, g158_5 hR, if_pos (by decide), e1, g_t (by omega), k2, g158_5 hR, if_pos (by decide), e2, g_t (by omega), k3, g158_5 hR, if_neg (by decide), ior_msk]
    simp only [Int.reduceLT, true_and]

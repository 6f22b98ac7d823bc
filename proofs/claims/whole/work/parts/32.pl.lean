/-! reading a text: the class's store and the reference's side by side -/
theorem ru31 {s : SG} (h : RefC s) (v : Int) : RefC (up s 3 1 v) := RefC.upd h (rcb_f (c := 2) (j := 1) rfl (by decide) (by decide))
theorem ru32 {s : SG} (h : RefC s) (v : Int) : RefC (up s 3 2 v) := RefC.upd h (rcb_f (c := 2) (j := 2) rfl (by decide) (by decide))
theorem ru4 {s : SG} (h : RefC s) (i v : Int) : RefC (up s 4 i v) := RefC.upd h (rcb_a (by decide))
theorem ru57 {s : SG} (h : RefC s) (i v : Int) : RefC (up s 57 i v) := RefC.upd h (rcb_a (by decide))
theorem ru59 {s : SG} (h : RefC s) (i v : Int) : RefC (up s 59 i v) := RefC.upd h (rcb_a (by decide))
theorem ru565 {s : SG} (h : RefC s) (v : Int) : RefC (up s 56 5 v) := RefC.upd h (rcb_f (c := 9) (j := 5) rfl (by decide) (by decide))
theorem ru566 {s : SG} (h : RefC s) (v : Int) : RefC (up s 56 6 v) := RefC.upd h (rcb_f (c := 9) (j := 6) rfl (by decide) (by decide))
theorem ru567 {s : SG} (h : RefC s) (v : Int) : RefC (up s 56 7 v) := RefC.upd h (rcb_f (c := 9) (j := 7) rfl (by decide) (by decide))
theorem rud1 {d : Int} (hd : d = 32 ∨ d = 37) {s : SG} (h : RefC s) (i v : Int) : RefC (up s (d + 1) i v) := RefC.upd h (rcb_a (by rcases hd with rfl | rfl <;> decide))
theorem rud2 {d : Int} (hd : d = 32 ∨ d = 37) {s : SG} (h : RefC s) (i v : Int) : RefC (up s (d + 2) i v) := RefC.upd h (rcb_a (by rcases hd with rfl | rfl <;> decide))
theorem rud3 {d : Int} (hd : d = 32 ∨ d = 37) {s : SG} (h : RefC s) (i v : Int) : RefC (up s (d + 3) i v) := RefC.upd h (rcb_a (by rcases hd with rfl | rfl <;> decide))
theorem rud4 {d : Int} (hd : d = 32 ∨ d = 37) {s : SG} (h : RefC s) (i v : Int) : RefC (up s (d + 4) i v) := RefC.upd h (rcb_a (by rcases hd with rfl | rfl <;> decide))
theorem rudf4 {d : Int} (hd : d = 32 ∨ d = 37) {s : SG} (h : RefC s) (v : Int) : RefC (up s d 4 v) := RefC.upd h (rcb_f (c := 6) (j := 4) (by rcases hd with rfl | rfl <;> decide) (by decide) (by decide))
theorem rudf5 {d : Int} (hd : d = 32 ∨ d = 37) {s : SG} (h : RefC s) (v : Int) : RefC (up s d 5 v) := RefC.upd h (rcb_f (c := 6) (j := 5) (by rcases hd with rfl | rfl <;> decide) (by decide) (by decide))
theorem rudf6 {d : Int} (hd : d = 32 ∨ d = 37) {s : SG} (h : RefC s) (v : Int) : RefC (up s d 6 v) := RefC.upd h (rcb_f (c := 6) (j := 6) (by rcases hd with rfl | rfl <;> decide) (by decide) (by decide))
theorem rudf7 {d : Int} (hd : d = 32 ∨ d = 37) {s : SG} (h : RefC s) (v : Int) : RefC (up s d 7 v) := RefC.upd h (rcb_f (c := 6) (j := 7) (by rcases hd with rfl | rfl <;> decide) (by decide) (by decide))
theorem up_self (s : SG) (k i : Int) : up s k i (s k i) = s := by
  funext q j
  rw [up_app]
  split
  · next z => rw [z.1, z.2]
  · rfl
theorem Tx9.of {s s' : SG} (h : Tx9 s) (e4 : s' 56 4 = s 56 4) (e5 : 0 ≤ s' 56 5) (e6 : ∀ i, s' 60 i = s 60 i) : Tx9 s' := by
  unfold Tx9 at h ⊢
  rw [e4]
  refine ⟨h.1, e5, fun i i0 i1 => ?_⟩
  rw [e6]
  exact h.2.2 i i0 i1
theorem TxI.of {s s' : SG} (h : TxI s) (e4 : s' 1 1 = s 1 1) (e6 : ∀ i, s' 2 i = s 2 i) : TxI s' := by
  unfold TxI at h ⊢
  rw [e4]
  refine ⟨h.1, fun i i0 i1 => ?_⟩
  rw [e6]
  exact h.2 i i0 i1
/-- place and text are the same on both sides, and there is no fault yet -/
def Pl (sC sR : SG) : Prop := (RefC sC ∧ RefC sR) ∧ (TxI sC ∧ Tx9 sR ∧ sC 1 1 = sR 56 4 ∧ ∀ i, 0 ≤ i → i < sR 56 4 → sC 2 i = sR 60 i) ∧ sC 3 1 = sR 56 5 ∧ sR 56 5 ≤ sR 56 4 ∧ sR 56 6 = -9
theorem Pl.c {sC sR sC' : SG} (h : Pl sC sR) (hR : RefC sC') (e : ∀ q i, q = 1 ∨ q = 2 ∨ (q = 3 ∧ i = 1) → sC' q i = sC q i) : Pl sC' sR := by
  obtain ⟨⟨h1, h2⟩, ⟨h3, h4, h5, h6⟩, h7, h8, h9⟩ := h
  refine ⟨⟨hR, h2⟩, ⟨h3.of (e 1 1 (by omega)) (fun i => e 2 i (by omega)), h4, ?_, fun i i0 i1 => ?_⟩, ?_, h8, h9⟩
  · rw [e 1 1 (by omega)]; exact h5
  · rw [e 2 i (by omega)]; exact h6 i i0 i1
  · rw [e 3 1 (by omega)]; exact h7
theorem Pl.r {sC sR sR' : SG} (h : Pl sC sR) (hR : RefC sR') (e : ∀ q i, q = 60 ∨ (q = 56 ∧ (i = 4 ∨ i = 5 ∨ i = 6)) → sR' q i = sR q i) : Pl sC sR' := by
  obtain ⟨⟨h1, h2⟩, ⟨h3, h4, h5, h6⟩, h7, h8, h9⟩ := h
  have e5 := e 56 5 (by omega)
  have e4 := e 56 4 (by omega)
  refine ⟨⟨h1, hR⟩, ⟨h3, h4.of e4 (by rw [e5]; exact h4.2.1) (fun i => e 60 i (by omega)), by rw [e4]; exact h5, fun i i0 i1 => ?_⟩, by rw [e5]; exact h7, by rw [e4, e5]; exact h8, by rw [e 56 6 (by omega)]; exact h9⟩
  rw [e4] at i1
  rw [e 60 i (by omega)]
  exact h6 i i0 i1
/-- one place on -/
theorem Pl.on {sC sR : SG} (h : Pl sC sR) (hl : sR 56 5 < sR 56 4) : w32 (sC 3 1 + 1) = sR 56 5 + 1 ∧ w32 (sR 56 5 + 1) = sR 56 5 + 1 ∧ Pl (up sC 3 1 (sR 56 5 + 1)) (up sR 56 5 (sR 56 5 + 1)) := by
  obtain ⟨⟨h1, h2⟩, ⟨h3, h4, h5, h6⟩, h7, h8, h9⟩ := h
  have h40 := h4.1
  have h41 := h4.2.1
  have w : w32 (sR 56 5 + 1) = sR 56 5 + 1 := w32_id (by omega) (by omega)
  refine ⟨by rw [h7]; exact w, w, ⟨ru31 h1 _, ru565 h2 _⟩, ⟨h3.of (up_ne (by decide) _) (fun i => up_ne (by decide) _), h4.of (up_ni (by decide) _) (by rw [up_at]; omega) (fun i => up_ne (by decide) _), ?_, fun i i0 i1 => ?_⟩, ?_, ?_, ?_⟩
  · rw [up_ne (by decide), up_ni (by decide)]; exact h5
  · rw [up_ni (by decide)] at i1
    rw [up_ne (by decide), up_ne (by decide)]
    exact h6 i i0 i1
  · rw [up_at, up_at]
  · rw [up_at, up_ni (by decide)]; omega
  · rw [up_ni (by decide)]; exact h9
theorem Pl.byte {sC sR : SG} (h : Pl sC sR) : byt sC (sC 3 1) = if sR 56 5 < sR 56 4 then sR 60 (sR 56 5) else -1 := by
  obtain ⟨⟨h1, h2⟩, ⟨h3, h4, h5, h6⟩, h7, h8, h9⟩ := h
  have h41 := h4.2.1
  unfold byt
  rw [h5, h7]
  by_cases q : sR 56 5 < sR 56 4
  · rw [if_pos ⟨h41, q⟩, if_pos q, h6 _ h41 q]
  · rw [if_neg (fun z => q z.2), if_neg q]
theorem Pl.fgr {sC sR : SG} (h : Pl sC sR) {a b : Int} (ha : 0 ≤ a) : fig sC a b = if a ≤ dgt sR ∧ dgt sR ≤ b then dgt sR else -9 := by
  have e := h.byte
  have h9 := h.2.2.2.2
  have e1 : dgt sR = if sR 56 5 < sR 56 4 then sR 60 (sR 56 5) - 48 else -1 := by
    unfold dgt
    simp only [h9, true_and]
  unfold fig
  rw [e, e1]
  by_cases q : sR 56 5 < sR 56 4
  · simp only [if_pos q]
    repeat' split
    all_goals first | rfl | omega
  · simp only [if_neg q]
    rw [if_pos (by omega), if_neg (by omega)]
theorem dgt_lt {s : SG} (h : 0 ≤ dgt s) : s 56 5 < s 56 4 := by
  unfold dgt at h
  split at h
  · next q => exact q.2
  · omega
/-- the reference's figure, taken -/
theorem Pl.yes {sC sR : SG} (h : Pl sC sR) {m : Int} (h1 : 0 ≤ dgt sR) (h2 : dgt sR ≤ 9) (h3 : Bt m (dgt sR)) : sem 157 0 [aA 56, aI m, aU] [] sR = some (aI (dgt sR), up sR 56 5 (sR 56 5 + 1)) := by
  rw [c_fig9 h.1.2 h.2.1.2.1, if_pos ⟨h1, h2, h3⟩, (h.on (dgt_lt h1)).2.1]
/-- and not taken -/
theorem Pl.no {sC sR : SG} (h : Pl sC sR) {m : Int} (h1 : ¬ (0 ≤ dgt sR ∧ dgt sR ≤ 9 ∧ Bt m (dgt sR))) : sem 157 0 [aA 56, aI m, aU] [] sR = some (aI 0, up sR 56 6 (sR 56 5)) := by
  unfold Bt at h1
  rw [c_fig9 h.1.2 h.2.1.2.1, if_neg h1, if_pos h.2.2.2.2]
/-- a fault has been found -/
def Fl (s : SG) : Prop := RefC s ∧ Tx9 s ∧ s 56 6 ≠ -9
theorem Fl.f {s : SG} (h : Fl s) (m : Int) : sem 157 0 [aA 56, aI m, aU] [] s = some (aI 0, s) := by
  rw [c_fig9f h.1 h.2.1 h.2.2, up_self]
theorem Fl.u57 {s : SG} (h : Fl s) (i v : Int) : Fl (up s 57 i v) := ⟨ru57 h.1 _ _, h.2.1.of (up_ne (by decide) _) (by rw [up_ne (by decide)]; exact h.2.1.2.1) (fun i => up_ne (by decide) _), by rw [up_ne (by decide)]; exact h.2.2⟩
theorem Fl.u59 {s : SG} (h : Fl s) (i v : Int) : Fl (up s 59 i v) := ⟨ru59 h.1 _ _, h.2.1.of (up_ne (by decide) _) (by rw [up_ne (by decide)]; exact h.2.1.2.1) (fun i => up_ne (by decide) _), by rw [up_ne (by decide)]; exact h.2.2⟩
theorem Pl.fl {sC sR : SG} (h : Pl sC sR) : Fl (up sR 56 6 (sR 56 5)) := by
  refine ⟨ru566 h.1.2 _, h.2.1.2.1.of (up_ni (by decide) _) (by rw [up_ni (by decide)]; exact h.2.1.2.1.2.1) (fun i => up_ne (by decide) _), ?_⟩
  rw [up_at]
  have := h.2.1.2.1.2.1
  omega

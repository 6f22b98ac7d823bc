/-! the law: call by call -/
set_option maxHeartbeats 4000000 in
theorem law_0 {s : SG} {L l : Int} (h : Inv s) (hL : s (-7) (-1) = L) (rL : L ≤ 3584) (l0 : 0 ≤ l) (l1 : l + 7 ≤ L) (hx : ∀ i, 0 ≤ i → -2147483648 ≤ s (-7) i ∧ s (-7) i < 2147483648) (hk : iandA (s (-7) l) 63 = 0) : ∃ s2, sem 224 18 [aA (-7), aA 0, aA 56, aI l] [] s = sem 224 18 [aA (-7), aA 0, aA 56, aI (l + 7)] [] s2 ∧ Inv s2 ∧ ∀ i, s2 (-7) i = s (-7) i := by
  obtain ⟨r, s1, s2, e1, e2, e3⟩ := q_write h ((s (-7) (l + 1))) ((lorA (lshlA (s (-7) (l + 2)) 32) (landA (s (-7) (l + 3)) 4294967295)))
  have W : ∀ j : Int, 0 ≤ j → j ≤ 7 → w32 (l + j) = l + j := fun j j0 j1 => w32_id (by omega) (by omega)
  have I : ∀ j : Int, 0 ≤ j → j ≤ 6 → 0 ≤ l + j ∧ l + j < L := fun j j0 j1 => by omega
  have q1 : ¬ L - 7 < l := by omega
  have q2 : 0 ≤ l ∧ l < L := by omega
  have w0 : w32 (L - 7) = L - 7 := w32_id (by omega) (by omega)
  have c0 : 0 ≤ s (-1) 0 := by rw [h.2.2.2.2.2.2.2.1]; decide
  have g1 := sem_gd e1 c0
  have g2 := sem_gd e2 (Int.le_trans c0 g1.1)
  have f1 : s1 (-7) = s (-7) := funext g1.2.2
  refine ⟨s2, ?_, e3, fun i => (g2.2.2 i).trans (g1.2.2 i)⟩
  rw [e224_18, g_t (by decide), hL, w0, if_neg q1, g_t (by decide), g_t q2, hk, if_pos rfl]
  rw [W 1 (by decide) (by decide), W 2 (by decide) (by decide), W 3 (by decide) (by decide), W 7 (by decide) (by decide)]
  rw [g_t (by decide), g_t (I 1 (by decide) (by decide)), g_t (by decide), g_t (I 2 (by decide) (by decide)), g_t (by decide), g_t (I 3 (by decide) (by decide)), g_t (by decide), e1, bnI_some]
  rw [f1, hL]
  rw [g_t (by decide), g_t (I 1 (by decide) (by decide)), g_t (by decide), g_t (I 2 (by decide) (by decide)), g_t (by decide), g_t (I 3 (by decide) (by decide)), g_t (by decide), e2, bnI_some, if_pos rfl]
set_option maxHeartbeats 4000000 in
theorem law_1 {s : SG} {L l : Int} (h : Inv s) (hL : s (-7) (-1) = L) (rL : L ≤ 3584) (l0 : 0 ≤ l) (l1 : l + 7 ≤ L) (hx : ∀ i, 0 ≤ i → -2147483648 ≤ s (-7) i ∧ s (-7) i < 2147483648) (hk : iandA (s (-7) l) 63 = 1) : ∃ s2, sem 224 18 [aA (-7), aA 0, aA 56, aI l] [] s = sem 224 18 [aA (-7), aA 0, aA 56, aI (l + 7)] [] s2 ∧ Inv s2 ∧ ∀ i, s2 (-7) i = s (-7) i := by
  obtain ⟨r, s1, s2, e1, e2, e3⟩ := q_wipe h 
  have W : ∀ j : Int, 0 ≤ j → j ≤ 7 → w32 (l + j) = l + j := fun j j0 j1 => w32_id (by omega) (by omega)
  have I : ∀ j : Int, 0 ≤ j → j ≤ 6 → 0 ≤ l + j ∧ l + j < L := fun j j0 j1 => by omega
  have q1 : ¬ L - 7 < l := by omega
  have q2 : 0 ≤ l ∧ l < L := by omega
  have w0 : w32 (L - 7) = L - 7 := w32_id (by omega) (by omega)
  have c0 : 0 ≤ s (-1) 0 := by rw [h.2.2.2.2.2.2.2.1]; decide
  have g1 := sem_gd e1 c0
  have g2 := sem_gd e2 (Int.le_trans c0 g1.1)
  have f1 : s1 (-7) = s (-7) := funext g1.2.2
  refine ⟨s2, ?_, e3, fun i => (g2.2.2 i).trans (g1.2.2 i)⟩
  rw [e224_18, g_t (by decide), hL, w0, if_neg q1, g_t (by decide), g_t q2, hk, if_neg (by decide), if_pos rfl]
  rw [W 7 (by decide) (by decide)]
  rw [g_t (by decide), e1, bnI_some]
  rw [g_t (by decide), e2, bnI_some, if_pos rfl]
set_option maxHeartbeats 4000000 in
theorem law_2 {s : SG} {L l : Int} (h : Inv s) (hL : s (-7) (-1) = L) (rL : L ≤ 3584) (l0 : 0 ≤ l) (l1 : l + 7 ≤ L) (hx : ∀ i, 0 ≤ i → -2147483648 ≤ s (-7) i ∧ s (-7) i < 2147483648) (hk : iandA (s (-7) l) 63 = 2) : ∃ s2, sem 224 18 [aA (-7), aA 0, aA 56, aI l] [] s = sem 224 18 [aA (-7), aA 0, aA 56, aI (l + 7)] [] s2 ∧ Inv s2 ∧ ∀ i, s2 (-7) i = s (-7) i := by
  obtain ⟨r, s1, s2, e1, e2, e3⟩ := q_fault h 
  have W : ∀ j : Int, 0 ≤ j → j ≤ 7 → w32 (l + j) = l + j := fun j j0 j1 => w32_id (by omega) (by omega)
  have I : ∀ j : Int, 0 ≤ j → j ≤ 6 → 0 ≤ l + j ∧ l + j < L := fun j j0 j1 => by omega
  have q1 : ¬ L - 7 < l := by omega
  have q2 : 0 ≤ l ∧ l < L := by omega
  have w0 : w32 (L - 7) = L - 7 := w32_id (by omega) (by omega)
  have c0 : 0 ≤ s (-1) 0 := by rw [h.2.2.2.2.2.2.2.1]; decide
  have g1 := sem_gd e1 c0
  have g2 := sem_gd e2 (Int.le_trans c0 g1.1)
  have f1 : s1 (-7) = s (-7) := funext g1.2.2
  refine ⟨s2, ?_, e3, fun i => (g2.2.2 i).trans (g1.2.2 i)⟩
  rw [e224_18, g_t (by decide), hL, w0, if_neg q1, g_t (by decide), g_t q2, hk, if_neg (by decide), if_neg (by decide), if_pos rfl]
  rw [W 7 (by decide) (by decide)]
  rw [g_t (by decide), e1, bnI_some]
  rw [g_t (by decide), e2, bnI_some, if_pos rfl]
set_option maxHeartbeats 4000000 in
theorem law_3 {s : SG} {L l : Int} (h : Inv s) (hL : s (-7) (-1) = L) (rL : L ≤ 3584) (l0 : 0 ≤ l) (l1 : l + 7 ≤ L) (hx : ∀ i, 0 ≤ i → -2147483648 ≤ s (-7) i ∧ s (-7) i < 2147483648) (hk : iandA (s (-7) l) 63 = 3) : ∃ s2, sem 224 18 [aA (-7), aA 0, aA 56, aI l] [] s = sem 224 18 [aA (-7), aA 0, aA 56, aI (l + 7)] [] s2 ∧ Inv s2 ∧ ∀ i, s2 (-7) i = s (-7) i := by
  obtain ⟨r, s1, s2, e1, e2, e3⟩ := q_town h 
  have W : ∀ j : Int, 0 ≤ j → j ≤ 7 → w32 (l + j) = l + j := fun j j0 j1 => w32_id (by omega) (by omega)
  have I : ∀ j : Int, 0 ≤ j → j ≤ 6 → 0 ≤ l + j ∧ l + j < L := fun j j0 j1 => by omega
  have q1 : ¬ L - 7 < l := by omega
  have q2 : 0 ≤ l ∧ l < L := by omega
  have w0 : w32 (L - 7) = L - 7 := w32_id (by omega) (by omega)
  have c0 : 0 ≤ s (-1) 0 := by rw [h.2.2.2.2.2.2.2.1]; decide
  have g1 := sem_gd e1 c0
  have g2 := sem_gd e2 (Int.le_trans c0 g1.1)
  have f1 : s1 (-7) = s (-7) := funext g1.2.2
  refine ⟨s2, ?_, e3, fun i => (g2.2.2 i).trans (g1.2.2 i)⟩
  rw [e224_18, g_t (by decide), hL, w0, if_neg q1, g_t (by decide), g_t q2, hk, if_neg (by decide), if_neg (by decide), if_neg (by decide), if_pos rfl]
  rw [W 7 (by decide) (by decide)]
  rw [g_t (by decide), e1, bnI_some]
  rw [g_t (by decide), e2, bnI_some, if_pos rfl]
set_option maxHeartbeats 4000000 in
theorem law_4 {s : SG} {L l : Int} (h : Inv s) (hL : s (-7) (-1) = L) (rL : L ≤ 3584) (l0 : 0 ≤ l) (l1 : l + 7 ≤ L) (hx : ∀ i, 0 ≤ i → -2147483648 ≤ s (-7) i ∧ s (-7) i < 2147483648) (hk : iandA (s (-7) l) 63 = 4) : ∃ s2, sem 224 18 [aA (-7), aA 0, aA 56, aI l] [] s = sem 224 18 [aA (-7), aA 0, aA 56, aI (l + 7)] [] s2 ∧ Inv s2 ∧ ∀ i, s2 (-7) i = s (-7) i := by
  obtain ⟨r, e1, e2⟩ := q_wants h ((s (-7) (l + 1))) ((s (-7) (l + 2))) ((s (-7) (l + 3)))
  have W : ∀ j : Int, 0 ≤ j → j ≤ 7 → w32 (l + j) = l + j := fun j j0 j1 => w32_id (by omega) (by omega)
  have I : ∀ j : Int, 0 ≤ j → j ≤ 6 → 0 ≤ l + j ∧ l + j < L := fun j j0 j1 => by omega
  have q1 : ¬ L - 7 < l := by omega
  have q2 : 0 ≤ l ∧ l < L := by omega
  have w0 : w32 (L - 7) = L - 7 := w32_id (by omega) (by omega)
  refine ⟨s, ?_, h, fun _ => rfl⟩
  rw [e224_18, g_t (by decide), hL, w0, if_neg q1, g_t (by decide), g_t q2, hk, if_neg (by decide), if_neg (by decide), if_neg (by decide), if_neg (by decide), if_pos rfl]
  rw [W 1 (by decide) (by decide), W 2 (by decide) (by decide), W 3 (by decide) (by decide), W 7 (by decide) (by decide)]
  rw [g_t (by decide), g_t (I 1 (by decide) (by decide)), g_t (by decide), g_t (I 2 (by decide) (by decide)), g_t (by decide), g_t (I 3 (by decide) (by decide)), g_t (by decide), e1, bnI_some]
  (try rw [hL])
  rw [g_t (by decide), g_t (I 1 (by decide) (by decide)), g_t (by decide), g_t (I 2 (by decide) (by decide)), g_t (by decide), g_t (I 3 (by decide) (by decide)), g_t (by decide), e2, bnI_some, if_pos rfl]
set_option maxHeartbeats 4000000 in
theorem law_5 {s : SG} {L l : Int} (h : Inv s) (hL : s (-7) (-1) = L) (rL : L ≤ 3584) (l0 : 0 ≤ l) (l1 : l + 7 ≤ L) (hx : ∀ i, 0 ≤ i → -2147483648 ≤ s (-7) i ∧ s (-7) i < 2147483648) (hk : iandA (s (-7) l) 63 = 5) : ∃ s2, sem 224 18 [aA (-7), aA 0, aA 56, aI l] [] s = sem 224 18 [aA (-7), aA 0, aA 56, aI (l + 7)] [] s2 ∧ Inv s2 ∧ ∀ i, s2 (-7) i = s (-7) i := by
  obtain ⟨r, e1, e2⟩ := q_about h ((s (-7) (l + 1)))
  have W : ∀ j : Int, 0 ≤ j → j ≤ 7 → w32 (l + j) = l + j := fun j j0 j1 => w32_id (by omega) (by omega)
  have I : ∀ j : Int, 0 ≤ j → j ≤ 6 → 0 ≤ l + j ∧ l + j < L := fun j j0 j1 => by omega
  have q1 : ¬ L - 7 < l := by omega
  have q2 : 0 ≤ l ∧ l < L := by omega
  have w0 : w32 (L - 7) = L - 7 := w32_id (by omega) (by omega)
  refine ⟨s, ?_, h, fun _ => rfl⟩
  rw [e224_18, g_t (by decide), hL, w0, if_neg q1, g_t (by decide), g_t q2, hk, if_neg (by decide), if_neg (by decide), if_neg (by decide), if_neg (by decide), if_neg (by decide), if_pos rfl]
  rw [W 1 (by decide) (by decide), W 7 (by decide) (by decide)]
  rw [g_t (by decide), g_t (I 1 (by decide) (by decide)), g_t (by decide), e1, bnI_some]
  (try rw [hL])
  rw [g_t (by decide), g_t (I 1 (by decide) (by decide)), g_t (by decide), e2, bnI_some, if_pos rfl]
set_option maxHeartbeats 4000000 in
theorem law_6 {s : SG} {L l : Int} (h : Inv s) (hL : s (-7) (-1) = L) (rL : L ≤ 3584) (l0 : 0 ≤ l) (l1 : l + 7 ≤ L) (hx : ∀ i, 0 ≤ i → -2147483648 ≤ s (-7) i ∧ s (-7) i < 2147483648) (hk : iandA (s (-7) l) 63 = 6) : ∃ s2, sem 224 18 [aA (-7), aA 0, aA 56, aI l] [] s = sem 224 18 [aA (-7), aA 0, aA 56, aI (l + 7)] [] s2 ∧ Inv s2 ∧ ∀ i, s2 (-7) i = s (-7) i := by
  obtain ⟨r, s1, s2, e1, e2, e3⟩ := q_sold h ((s (-7) (l + 1))) ((s (-7) (l + 2))) ((if (s (-7) (l + 3)) = 0 then 0 else 1))
  have W : ∀ j : Int, 0 ≤ j → j ≤ 7 → w32 (l + j) = l + j := fun j j0 j1 => w32_id (by omega) (by omega)
  have I : ∀ j : Int, 0 ≤ j → j ≤ 6 → 0 ≤ l + j ∧ l + j < L := fun j j0 j1 => by omega
  have q1 : ¬ L - 7 < l := by omega
  have q2 : 0 ≤ l ∧ l < L := by omega
  have w0 : w32 (L - 7) = L - 7 := w32_id (by omega) (by omega)
  have c0 : 0 ≤ s (-1) 0 := by rw [h.2.2.2.2.2.2.2.1]; decide
  have g1 := sem_gd e1 c0
  have g2 := sem_gd e2 (Int.le_trans c0 g1.1)
  have f1 : s1 (-7) = s (-7) := funext g1.2.2
  refine ⟨s2, ?_, e3, fun i => (g2.2.2 i).trans (g1.2.2 i)⟩
  rw [e224_18, g_t (by decide), hL, w0, if_neg q1, g_t (by decide), g_t q2, hk, if_neg (by decide), if_neg (by decide), if_neg (by decide), if_neg (by decide), if_neg (by decide), if_neg (by decide), if_pos rfl]
  rw [W 1 (by decide) (by decide), W 2 (by decide) (by decide), W 3 (by decide) (by decide), W 7 (by decide) (by decide)]
  rw [g_t (by decide), g_t (I 1 (by decide) (by decide)), g_t (by decide), g_t (I 2 (by decide) (by decide)), g_t (by decide), g_t (I 3 (by decide) (by decide)), g_t (by decide), e1, bnL_some]
  rw [f1, hL]
  rw [g_t (by decide), g_t (I 1 (by decide) (by decide)), g_t (by decide), g_t (I 2 (by decide) (by decide)), g_t (by decide), g_t (I 3 (by decide) (by decide)), g_t (by decide), e2, bnL_some, if_pos (cmpL_eq0.mpr rfl)]
set_option maxHeartbeats 4000000 in
theorem law_7 {s : SG} {L l : Int} (h : Inv s) (hL : s (-7) (-1) = L) (rL : L ≤ 3584) (l0 : 0 ≤ l) (l1 : l + 7 ≤ L) (hx : ∀ i, 0 ≤ i → -2147483648 ≤ s (-7) i ∧ s (-7) i < 2147483648) (hk : iandA (s (-7) l) 63 = 7) : ∃ s2, sem 224 18 [aA (-7), aA 0, aA 56, aI l] [] s = sem 224 18 [aA (-7), aA 0, aA 56, aI (l + 7)] [] s2 ∧ Inv s2 ∧ ∀ i, s2 (-7) i = s (-7) i := by
  obtain ⟨r, s1, s2, e1, e2, e3⟩ := q_out h ((s (-7) (l + 1))) ((s (-7) (l + 2))) ((if (s (-7) (l + 3)) = 0 then 0 else 1))
  have W : ∀ j : Int, 0 ≤ j → j ≤ 7 → w32 (l + j) = l + j := fun j j0 j1 => w32_id (by omega) (by omega)
  have I : ∀ j : Int, 0 ≤ j → j ≤ 6 → 0 ≤ l + j ∧ l + j < L := fun j j0 j1 => by omega
  have q1 : ¬ L - 7 < l := by omega
  have q2 : 0 ≤ l ∧ l < L := by omega
  have w0 : w32 (L - 7) = L - 7 := w32_id (by omega) (by omega)
  have c0 : 0 ≤ s (-1) 0 := by rw [h.2.2.2.2.2.2.2.1]; decide
  have g1 := sem_gd e1 c0
  have g2 := sem_gd e2 (Int.le_trans c0 g1.1)
  have f1 : s1 (-7) = s (-7) := funext g1.2.2
  refine ⟨s2, ?_, e3, fun i => (g2.2.2 i).trans (g1.2.2 i)⟩
  rw [e224_18, g_t (by decide), hL, w0, if_neg q1, g_t (by decide), g_t q2, hk, if_neg (by decide), if_neg (by decide), if_neg (by decide), if_neg (by decide), if_neg (by decide), if_neg (by decide), if_neg (by decide), if_pos rfl]
  rw [W 1 (by decide) (by decide), W 2 (by decide) (by decide), W 3 (by decide) (by decide), W 7 (by decide) (by decide)]
  rw [g_t (by decide), g_t (I 1 (by decide) (by decide)), g_t (by decide), g_t (I 2 (by decide) (by decide)), g_t (by decide), g_t (I 3 (by decide) (by decide)), g_t (by decide), e1, bnL_some]
  rw [f1, hL]
  rw [g_t (by decide), g_t (I 1 (by decide) (by decide)), g_t (by decide), g_t (I 2 (by decide) (by decide)), g_t (by decide), g_t (I 3 (by decide) (by decide)), g_t (by decide), e2, bnL_some, if_pos (cmpL_eq0.mpr rfl)]
set_option maxHeartbeats 4000000 in
theorem law_8 {s : SG} {L l : Int} (h : Inv s) (hL : s (-7) (-1) = L) (rL : L ≤ 3584) (l0 : 0 ≤ l) (l1 : l + 7 ≤ L) (hx : ∀ i, 0 ≤ i → -2147483648 ≤ s (-7) i ∧ s (-7) i < 2147483648) (hk : iandA (s (-7) l) 63 = 8) : ∃ s2, sem 224 18 [aA (-7), aA 0, aA 56, aI l] [] s = sem 224 18 [aA (-7), aA 0, aA 56, aI (l + 7)] [] s2 ∧ Inv s2 ∧ ∀ i, s2 (-7) i = s (-7) i := by
  obtain ⟨r, s1, s2, e1, e2, e3⟩ := q_given h ((s (-7) (l + 1))) ((s (-7) (l + 2)))
  have W : ∀ j : Int, 0 ≤ j → j ≤ 7 → w32 (l + j) = l + j := fun j j0 j1 => w32_id (by omega) (by omega)
  have I : ∀ j : Int, 0 ≤ j → j ≤ 6 → 0 ≤ l + j ∧ l + j < L := fun j j0 j1 => by omega
  have q1 : ¬ L - 7 < l := by omega
  have q2 : 0 ≤ l ∧ l < L := by omega
  have w0 : w32 (L - 7) = L - 7 := w32_id (by omega) (by omega)
  have c0 : 0 ≤ s (-1) 0 := by rw [h.2.2.2.2.2.2.2.1]; decide
  have g1 := sem_gd e1 c0
  have g2 := sem_gd e2 (Int.le_trans c0 g1.1)
  have f1 : s1 (-7) = s (-7) := funext g1.2.2
  refine ⟨s2, ?_, e3, fun i => (g2.2.2 i).trans (g1.2.2 i)⟩
  rw [e224_18, g_t (by decide), hL, w0, if_neg q1, g_t (by decide), g_t q2, hk, if_neg (by decide), if_neg (by decide), if_neg (by decide), if_neg (by decide), if_neg (by decide), if_neg (by decide), if_neg (by decide), if_neg (by decide), if_pos rfl]
  rw [W 1 (by decide) (by decide), W 2 (by decide) (by decide), W 7 (by decide) (by decide)]
  rw [g_t (by decide), g_t (I 1 (by decide) (by decide)), g_t (by decide), g_t (I 2 (by decide) (by decide)), g_t (by decide), e1, bnI_some]
  rw [f1, hL]
  rw [g_t (by decide), g_t (I 1 (by decide) (by decide)), g_t (by decide), g_t (I 2 (by decide) (by decide)), g_t (by decide), e2, bnI_some, if_pos rfl]
set_option maxHeartbeats 4000000 in
theorem law_9 {s : SG} {L l : Int} (h : Inv s) (hL : s (-7) (-1) = L) (rL : L ≤ 3584) (l0 : 0 ≤ l) (l1 : l + 7 ≤ L) (hx : ∀ i, 0 ≤ i → -2147483648 ≤ s (-7) i ∧ s (-7) i < 2147483648) (hk : iandA (s (-7) l) 63 = 9) : ∃ s2, sem 224 18 [aA (-7), aA 0, aA 56, aI l] [] s = sem 224 18 [aA (-7), aA 0, aA 56, aI (l + 7)] [] s2 ∧ Inv s2 ∧ ∀ i, s2 (-7) i = s (-7) i := by
  obtain ⟨r, s1, s2, e1, e2, e3⟩ := q_earned h ((s (-7) (l + 1))) ((if (s (-7) (l + 2)) = 0 then 0 else 1))
  have W : ∀ j : Int, 0 ≤ j → j ≤ 7 → w32 (l + j) = l + j := fun j j0 j1 => w32_id (by omega) (by omega)
  have I : ∀ j : Int, 0 ≤ j → j ≤ 6 → 0 ≤ l + j ∧ l + j < L := fun j j0 j1 => by omega
  have q1 : ¬ L - 7 < l := by omega
  have q2 : 0 ≤ l ∧ l < L := by omega
  have w0 : w32 (L - 7) = L - 7 := w32_id (by omega) (by omega)
  have c0 : 0 ≤ s (-1) 0 := by rw [h.2.2.2.2.2.2.2.1]; decide
  have g1 := sem_gd e1 c0
  have g2 := sem_gd e2 (Int.le_trans c0 g1.1)
  have f1 : s1 (-7) = s (-7) := funext g1.2.2
  refine ⟨s2, ?_, e3, fun i => (g2.2.2 i).trans (g1.2.2 i)⟩
  rw [e224_18, g_t (by decide), hL, w0, if_neg q1, g_t (by decide), g_t q2, hk, if_neg (by decide), if_neg (by decide), if_neg (by decide), if_neg (by decide), if_neg (by decide), if_neg (by decide), if_neg (by decide), if_neg (by decide), if_neg (by decide), if_pos rfl]
  rw [W 1 (by decide) (by decide), W 2 (by decide) (by decide), W 7 (by decide) (by decide)]
  rw [g_t (by decide), g_t (I 1 (by decide) (by decide)), g_t (by decide), g_t (I 2 (by decide) (by decide)), g_t (by decide), e1, bnL_some]
  rw [f1, hL]
  rw [g_t (by decide), g_t (I 1 (by decide) (by decide)), g_t (by decide), g_t (I 2 (by decide) (by decide)), g_t (by decide), e2, bnL_some, if_pos (cmpL_eq0.mpr rfl)]
set_option maxHeartbeats 4000000 in
theorem law_10 {s : SG} {L l : Int} (h : Inv s) (hL : s (-7) (-1) = L) (rL : L ≤ 3584) (l0 : 0 ≤ l) (l1 : l + 7 ≤ L) (hx : ∀ i, 0 ≤ i → -2147483648 ≤ s (-7) i ∧ s (-7) i < 2147483648) (hk : iandA (s (-7) l) 63 = 10) : ∃ s2, sem 224 18 [aA (-7), aA 0, aA 56, aI l] [] s = sem 224 18 [aA (-7), aA 0, aA 56, aI (l + 7)] [] s2 ∧ Inv s2 ∧ ∀ i, s2 (-7) i = s (-7) i := by
  obtain ⟨r, s1, s2, e1, e2, e3⟩ := q_print h 
  have W : ∀ j : Int, 0 ≤ j → j ≤ 7 → w32 (l + j) = l + j := fun j j0 j1 => w32_id (by omega) (by omega)
  have I : ∀ j : Int, 0 ≤ j → j ≤ 6 → 0 ≤ l + j ∧ l + j < L := fun j j0 j1 => by omega
  have q1 : ¬ L - 7 < l := by omega
  have q2 : 0 ≤ l ∧ l < L := by omega
  have w0 : w32 (L - 7) = L - 7 := w32_id (by omega) (by omega)
  have c0 : 0 ≤ s (-1) 0 := by rw [h.2.2.2.2.2.2.2.1]; decide
  have g1 := sem_gd e1 c0
  have g2 := sem_gd e2 (Int.le_trans c0 g1.1)
  have f1 : s1 (-7) = s (-7) := funext g1.2.2
  refine ⟨s2, ?_, e3, fun i => (g2.2.2 i).trans (g1.2.2 i)⟩
  rw [e224_18, g_t (by decide), hL, w0, if_neg q1, g_t (by decide), g_t q2, hk, if_neg (by decide), if_neg (by decide), if_neg (by decide), if_neg (by decide), if_neg (by decide), if_neg (by decide), if_neg (by decide), if_neg (by decide), if_neg (by decide), if_neg (by decide), if_pos rfl]
  rw [W 7 (by decide) (by decide)]
  rw [g_t (by decide), e1, bnI_some]
  rw [g_t (by decide), e2, bnI_some, if_pos rfl]
set_option maxHeartbeats 4000000 in
theorem law_11 {s : SG} {L l : Int} (h : Inv s) (hL : s (-7) (-1) = L) (rL : L ≤ 3584) (l0 : 0 ≤ l) (l1 : l + 7 ≤ L) (hx : ∀ i, 0 ≤ i → -2147483648 ≤ s (-7) i ∧ s (-7) i < 2147483648) (hk : iandA (s (-7) l) 63 = 11) : ∃ s2, sem 224 18 [aA (-7), aA 0, aA 56, aI l] [] s = sem 224 18 [aA (-7), aA 0, aA 56, aI (l + 7)] [] s2 ∧ Inv s2 ∧ ∀ i, s2 (-7) i = s (-7) i := by
  obtain ⟨r, s1, s2, e1, e2, e3⟩ := q_loss h ((s (-7) (l + 1))) ((s (-7) (l + 2))) ((s (-7) (l + 3))) ((if (s (-7) (l + 4)) = 0 then 0 else 1))
  have W : ∀ j : Int, 0 ≤ j → j ≤ 7 → w32 (l + j) = l + j := fun j j0 j1 => w32_id (by omega) (by omega)
  have I : ∀ j : Int, 0 ≤ j → j ≤ 6 → 0 ≤ l + j ∧ l + j < L := fun j j0 j1 => by omega
  have q1 : ¬ L - 7 < l := by omega
  have q2 : 0 ≤ l ∧ l < L := by omega
  have w0 : w32 (L - 7) = L - 7 := w32_id (by omega) (by omega)
  have c0 : 0 ≤ s (-1) 0 := by rw [h.2.2.2.2.2.2.2.1]; decide
  have g1 := sem_gd e1 c0
  have g2 := sem_gd e2 (Int.le_trans c0 g1.1)
  have f1 : s1 (-7) = s (-7) := funext g1.2.2
  refine ⟨s2, ?_, e3, fun i => (g2.2.2 i).trans (g1.2.2 i)⟩
  rw [e224_18, g_t (by decide), hL, w0, if_neg q1, g_t (by decide), g_t q2, hk, if_neg (by decide), if_neg (by decide), if_neg (by decide), if_neg (by decide), if_neg (by decide), if_neg (by decide), if_neg (by decide), if_neg (by decide), if_neg (by decide), if_neg (by decide), if_neg (by decide), if_pos rfl]
  rw [W 1 (by decide) (by decide), W 2 (by decide) (by decide), W 3 (by decide) (by decide), W 4 (by decide) (by decide), W 7 (by decide) (by decide)]
  rw [g_t (by decide), g_t (I 1 (by decide) (by decide)), g_t (by decide), g_t (I 2 (by decide) (by decide)), g_t (by decide), g_t (I 3 (by decide) (by decide)), g_t (by decide), g_t (I 4 (by decide) (by decide)), g_t (by decide), e1, bnL_some]
  rw [f1, hL]
  rw [g_t (by decide), g_t (I 1 (by decide) (by decide)), g_t (by decide), g_t (I 2 (by decide) (by decide)), g_t (by decide), g_t (I 3 (by decide) (by decide)), g_t (by decide), g_t (I 4 (by decide) (by decide)), g_t (by decide), e2, bnL_some, if_pos (cmpL_eq0.mpr rfl)]
set_option maxHeartbeats 4000000 in
theorem law_12 {s : SG} {L l : Int} (h : Inv s) (hL : s (-7) (-1) = L) (rL : L ≤ 3584) (l0 : 0 ≤ l) (l1 : l + 7 ≤ L) (hx : ∀ i, 0 ≤ i → -2147483648 ≤ s (-7) i ∧ s (-7) i < 2147483648) (hk : iandA (s (-7) l) 63 = 12) : ∃ s2, sem 224 18 [aA (-7), aA 0, aA 56, aI l] [] s = sem 224 18 [aA (-7), aA 0, aA 56, aI (l + 7)] [] s2 ∧ Inv s2 ∧ ∀ i, s2 (-7) i = s (-7) i := by
  obtain ⟨r, s1, s2, e1, e2, e3⟩ := q_see h ((s (-7) (l + 1))) ((s (-7) (l + 2)))
  have W : ∀ j : Int, 0 ≤ j → j ≤ 7 → w32 (l + j) = l + j := fun j j0 j1 => w32_id (by omega) (by omega)
  have I : ∀ j : Int, 0 ≤ j → j ≤ 6 → 0 ≤ l + j ∧ l + j < L := fun j j0 j1 => by omega
  have q1 : ¬ L - 7 < l := by omega
  have q2 : 0 ≤ l ∧ l < L := by omega
  have w0 : w32 (L - 7) = L - 7 := w32_id (by omega) (by omega)
  have c0 : 0 ≤ s (-1) 0 := by rw [h.2.2.2.2.2.2.2.1]; decide
  have g1 := sem_gd e1 c0
  have g2 := sem_gd e2 (Int.le_trans c0 g1.1)
  have f1 : s1 (-7) = s (-7) := funext g1.2.2
  refine ⟨s2, ?_, e3, fun i => (g2.2.2 i).trans (g1.2.2 i)⟩
  rw [e224_18, g_t (by decide), hL, w0, if_neg q1, g_t (by decide), g_t q2, hk, if_neg (by decide), if_neg (by decide), if_neg (by decide), if_neg (by decide), if_neg (by decide), if_neg (by decide), if_neg (by decide), if_neg (by decide), if_neg (by decide), if_neg (by decide), if_neg (by decide), if_neg (by decide), if_pos rfl]
  rw [W 1 (by decide) (by decide), W 2 (by decide) (by decide), W 7 (by decide) (by decide)]
  rw [g_t (by decide), g_t (I 1 (by decide) (by decide)), g_t (by decide), g_t (I 2 (by decide) (by decide)), g_t (by decide), e1, bnI_some]
  rw [f1, hL]
  rw [g_t (by decide), g_t (I 1 (by decide) (by decide)), g_t (by decide), g_t (I 2 (by decide) (by decide)), g_t (by decide), e2, bnI_some, if_pos rfl]
set_option maxHeartbeats 4000000 in
theorem law_13 {s : SG} {L l : Int} (h : Inv s) (hL : s (-7) (-1) = L) (rL : L ≤ 3584) (l0 : 0 ≤ l) (l1 : l + 7 ≤ L) (hx : ∀ i, 0 ≤ i → -2147483648 ≤ s (-7) i ∧ s (-7) i < 2147483648) (hk : iandA (s (-7) l) 63 = 13) : ∃ s2, sem 224 18 [aA (-7), aA 0, aA 56, aI l] [] s = sem 224 18 [aA (-7), aA 0, aA 56, aI (l + 7)] [] s2 ∧ Inv s2 ∧ ∀ i, s2 (-7) i = s (-7) i := by
  obtain ⟨r, s1, s2, e1, e2, e3⟩ := q_unsee h 
  have W : ∀ j : Int, 0 ≤ j → j ≤ 7 → w32 (l + j) = l + j := fun j j0 j1 => w32_id (by omega) (by omega)
  have I : ∀ j : Int, 0 ≤ j → j ≤ 6 → 0 ≤ l + j ∧ l + j < L := fun j j0 j1 => by omega
  have q1 : ¬ L - 7 < l := by omega
  have q2 : 0 ≤ l ∧ l < L := by omega
  have w0 : w32 (L - 7) = L - 7 := w32_id (by omega) (by omega)
  have c0 : 0 ≤ s (-1) 0 := by rw [h.2.2.2.2.2.2.2.1]; decide
  have g1 := sem_gd e1 c0
  have g2 := sem_gd e2 (Int.le_trans c0 g1.1)
  have f1 : s1 (-7) = s (-7) := funext g1.2.2
  refine ⟨s2, ?_, e3, fun i => (g2.2.2 i).trans (g1.2.2 i)⟩
  rw [e224_18, g_t (by decide), hL, w0, if_neg q1, g_t (by decide), g_t q2, hk, if_neg (by decide), if_neg (by decide), if_neg (by decide), if_neg (by decide), if_neg (by decide), if_neg (by decide), if_neg (by decide), if_neg (by decide), if_neg (by decide), if_neg (by decide), if_neg (by decide), if_neg (by decide), if_neg (by decide), if_pos rfl]
  rw [W 7 (by decide) (by decide)]
  rw [g_t (by decide), e1, bnI_some]
  rw [g_t (by decide), e2, bnI_some, if_pos rfl]
set_option maxHeartbeats 4000000 in
theorem law_14 {s : SG} {L l : Int} (h : Inv s) (hL : s (-7) (-1) = L) (rL : L ≤ 3584) (l0 : 0 ≤ l) (l1 : l + 7 ≤ L) (hx : ∀ i, 0 ≤ i → -2147483648 ≤ s (-7) i ∧ s (-7) i < 2147483648) (hk : iandA (s (-7) l) 63 = 14) : ∃ s2, sem 224 18 [aA (-7), aA 0, aA 56, aI l] [] s = sem 224 18 [aA (-7), aA 0, aA 56, aI (l + 7)] [] s2 ∧ Inv s2 ∧ ∀ i, s2 (-7) i = s (-7) i := by
  obtain ⟨r, s1, s2, e1, e2, e3⟩ := q_likely h ((s (-7) (l + 1))) ((if (s (-7) (l + 2)) = 0 then 0 else 1))
  have W : ∀ j : Int, 0 ≤ j → j ≤ 7 → w32 (l + j) = l + j := fun j j0 j1 => w32_id (by omega) (by omega)
  have I : ∀ j : Int, 0 ≤ j → j ≤ 6 → 0 ≤ l + j ∧ l + j < L := fun j j0 j1 => by omega
  have q1 : ¬ L - 7 < l := by omega
  have q2 : 0 ≤ l ∧ l < L := by omega
  have w0 : w32 (L - 7) = L - 7 := w32_id (by omega) (by omega)
  have c0 : 0 ≤ s (-1) 0 := by rw [h.2.2.2.2.2.2.2.1]; decide
  have g1 := sem_gd e1 c0
  have g2 := sem_gd e2 (Int.le_trans c0 g1.1)
  have f1 : s1 (-7) = s (-7) := funext g1.2.2
  refine ⟨s2, ?_, e3, fun i => (g2.2.2 i).trans (g1.2.2 i)⟩
  rw [e224_18, g_t (by decide), hL, w0, if_neg q1, g_t (by decide), g_t q2, hk, if_neg (by decide), if_neg (by decide), if_neg (by decide), if_neg (by decide), if_neg (by decide), if_neg (by decide), if_neg (by decide), if_neg (by decide), if_neg (by decide), if_neg (by decide), if_neg (by decide), if_neg (by decide), if_neg (by decide), if_neg (by decide), if_pos rfl]
  rw [W 1 (by decide) (by decide), W 2 (by decide) (by decide), W 7 (by decide) (by decide)]
  rw [g_t (by decide), g_t (I 1 (by decide) (by decide)), g_t (by decide), g_t (I 2 (by decide) (by decide)), g_t (by decide), e1, bnL_some]
  rw [f1, hL]
  rw [g_t (by decide), g_t (I 1 (by decide) (by decide)), g_t (by decide), g_t (I 2 (by decide) (by decide)), g_t (by decide), e2, bnL_some, if_pos (cmpL_eq0.mpr rfl)]
set_option maxHeartbeats 4000000 in
theorem law_15 {s : SG} {L l : Int} (h : Inv s) (hL : s (-7) (-1) = L) (rL : L ≤ 3584) (l0 : 0 ≤ l) (l1 : l + 7 ≤ L) (hx : ∀ i, 0 ≤ i → -2147483648 ≤ s (-7) i ∧ s (-7) i < 2147483648) (hk : iandA (s (-7) l) 63 = 15) : ∃ s2, sem 224 18 [aA (-7), aA 0, aA 56, aI l] [] s = sem 224 18 [aA (-7), aA 0, aA 56, aI (l + 7)] [] s2 ∧ Inv s2 ∧ ∀ i, s2 (-7) i = s (-7) i := by
  obtain ⟨r, s1, s2, e1, e2, e3⟩ := q_likeliest h 
  have W : ∀ j : Int, 0 ≤ j → j ≤ 7 → w32 (l + j) = l + j := fun j j0 j1 => w32_id (by omega) (by omega)
  have I : ∀ j : Int, 0 ≤ j → j ≤ 6 → 0 ≤ l + j ∧ l + j < L := fun j j0 j1 => by omega
  have q1 : ¬ L - 7 < l := by omega
  have q2 : 0 ≤ l ∧ l < L := by omega
  have w0 : w32 (L - 7) = L - 7 := w32_id (by omega) (by omega)
  have c0 : 0 ≤ s (-1) 0 := by rw [h.2.2.2.2.2.2.2.1]; decide
  have g1 := sem_gd e1 c0
  have g2 := sem_gd e2 (Int.le_trans c0 g1.1)
  have f1 : s1 (-7) = s (-7) := funext g1.2.2
  refine ⟨s2, ?_, e3, fun i => (g2.2.2 i).trans (g1.2.2 i)⟩
  rw [e224_18, g_t (by decide), hL, w0, if_neg q1, g_t (by decide), g_t q2, hk, if_neg (by decide), if_neg (by decide), if_neg (by decide), if_neg (by decide), if_neg (by decide), if_neg (by decide), if_neg (by decide), if_neg (by decide), if_neg (by decide), if_neg (by decide), if_neg (by decide), if_neg (by decide), if_neg (by decide), if_neg (by decide), if_neg (by decide), if_pos rfl]
  rw [W 7 (by decide) (by decide)]
  rw [g_t (by decide), e1, bnI_some]
  rw [g_t (by decide), e2, bnI_some, if_pos rfl]
set_option maxHeartbeats 4000000 in
theorem law_16 {s : SG} {L l : Int} (h : Inv s) (hL : s (-7) (-1) = L) (rL : L ≤ 3584) (l0 : 0 ≤ l) (l1 : l + 7 ≤ L) (hx : ∀ i, 0 ≤ i → -2147483648 ≤ s (-7) i ∧ s (-7) i < 2147483648) (hk : iandA (s (-7) l) 63 = 16) : ∃ s2, sem 224 18 [aA (-7), aA 0, aA 56, aI l] [] s = sem 224 18 [aA (-7), aA 0, aA 56, aI (l + 7)] [] s2 ∧ Inv s2 ∧ ∀ i, s2 (-7) i = s (-7) i := by
  obtain ⟨r, s1, s2, e1, e2, e3⟩ := q_ask h 
  have W : ∀ j : Int, 0 ≤ j → j ≤ 7 → w32 (l + j) = l + j := fun j j0 j1 => w32_id (by omega) (by omega)
  have I : ∀ j : Int, 0 ≤ j → j ≤ 6 → 0 ≤ l + j ∧ l + j < L := fun j j0 j1 => by omega
  have q1 : ¬ L - 7 < l := by omega
  have q2 : 0 ≤ l ∧ l < L := by omega
  have w0 : w32 (L - 7) = L - 7 := w32_id (by omega) (by omega)
  have c0 : 0 ≤ s (-1) 0 := by rw [h.2.2.2.2.2.2.2.1]; decide
  have g1 := sem_gd e1 c0
  have g2 := sem_gd e2 (Int.le_trans c0 g1.1)
  have f1 : s1 (-7) = s (-7) := funext g1.2.2
  refine ⟨s2, ?_, e3, fun i => (g2.2.2 i).trans (g1.2.2 i)⟩
  rw [e224_18, g_t (by decide), hL, w0, if_neg q1, g_t (by decide), g_t q2, hk, if_neg (by decide), if_neg (by decide), if_neg (by decide), if_neg (by decide), if_neg (by decide), if_neg (by decide), if_neg (by decide), if_neg (by decide), if_neg (by decide), if_neg (by decide), if_neg (by decide), if_neg (by decide), if_neg (by decide), if_neg (by decide), if_neg (by decide), if_neg (by decide), if_pos rfl]
  rw [W 7 (by decide) (by decide)]
  rw [g_t (by decide), e1, bnI_some]
  rw [g_t (by decide), e2, bnI_some, if_pos rfl]
set_option maxHeartbeats 4000000 in
theorem law_17 {s : SG} {L l : Int} (h : Inv s) (hL : s (-7) (-1) = L) (rL : L ≤ 3584) (l0 : 0 ≤ l) (l1 : l + 7 ≤ L) (hx : ∀ i, 0 ≤ i → -2147483648 ≤ s (-7) i ∧ s (-7) i < 2147483648) (hk : iandA (s (-7) l) 63 = 17) : ∃ s2, sem 224 18 [aA (-7), aA 0, aA 56, aI l] [] s = sem 224 18 [aA (-7), aA 0, aA 56, aI (l + 7)] [] s2 ∧ Inv s2 ∧ ∀ i, s2 (-7) i = s (-7) i := by
  obtain ⟨r, s1, s2, e1, e2, e3⟩ := q_best h (cs := (s (-7) (l + 1))) (ps := (s (-7) (l + 3))) ((s (-7) (l + 2))) ((s (-7) (l + 4))) ((s (-7) (l + 5))) ((if (s (-7) (l + 6)) = 0 then 0 else 1)) (hx _ (by omega)) (hx _ (by omega))
  have W : ∀ j : Int, 0 ≤ j → j ≤ 7 → w32 (l + j) = l + j := fun j j0 j1 => w32_id (by omega) (by omega)
  have I : ∀ j : Int, 0 ≤ j → j ≤ 6 → 0 ≤ l + j ∧ l + j < L := fun j j0 j1 => by omega
  have q1 : ¬ L - 7 < l := by omega
  have q2 : 0 ≤ l ∧ l < L := by omega
  have w0 : w32 (L - 7) = L - 7 := w32_id (by omega) (by omega)
  have c0 : 0 ≤ s (-1) 0 := by rw [h.2.2.2.2.2.2.2.1]; decide
  have g1 := sem_gd e1 c0
  have g2 := sem_gd e2 (Int.le_trans c0 g1.1)
  have f1 : s1 (-7) = s (-7) := funext g1.2.2
  refine ⟨s2, ?_, e3, fun i => (g2.2.2 i).trans (g1.2.2 i)⟩
  rw [e224_18, g_t (by decide), hL, w0, if_neg q1, g_t (by decide), g_t q2, hk, if_neg (by decide), if_neg (by decide), if_neg (by decide), if_neg (by decide), if_neg (by decide), if_neg (by decide), if_neg (by decide), if_neg (by decide), if_neg (by decide), if_neg (by decide), if_neg (by decide), if_neg (by decide), if_neg (by decide), if_neg (by decide), if_neg (by decide), if_neg (by decide), if_neg (by decide), if_pos rfl]
  rw [W 1 (by decide) (by decide), W 2 (by decide) (by decide), W 3 (by decide) (by decide), W 4 (by decide) (by decide), W 5 (by decide) (by decide), W 6 (by decide) (by decide), W 7 (by decide) (by decide)]
  rw [g_t (by decide), g_t (I 1 (by decide) (by decide)), g_t (by decide), g_t (I 2 (by decide) (by decide)), g_t (by decide), g_t (I 3 (by decide) (by decide)), g_t (by decide), g_t (I 4 (by decide) (by decide)), g_t (by decide), g_t (I 5 (by decide) (by decide)), g_t (by decide), g_t (I 6 (by decide) (by decide)), g_t (by decide), e1, bnL_some]
  rw [f1, hL]
  rw [g_t (by decide), g_t (I 1 (by decide) (by decide)), g_t (by decide), g_t (I 2 (by decide) (by decide)), g_t (by decide), g_t (I 3 (by decide) (by decide)), g_t (by decide), g_t (I 4 (by decide) (by decide)), g_t (by decide), g_t (I 5 (by decide) (by decide)), g_t (by decide), g_t (I 6 (by decide) (by decide)), g_t (by decide), e2, bnL_some, if_pos (cmpL_eq0.mpr rfl)]
set_option maxHeartbeats 4000000 in
theorem law_18 {s : SG} {L l : Int} (h : Inv s) (hL : s (-7) (-1) = L) (rL : L ≤ 3584) (l0 : 0 ≤ l) (l1 : l + 7 ≤ L) (hx : ∀ i, 0 ≤ i → -2147483648 ≤ s (-7) i ∧ s (-7) i < 2147483648) (hk : iandA (s (-7) l) 63 = 18) : ∃ s2, sem 224 18 [aA (-7), aA 0, aA 56, aI l] [] s = sem 224 18 [aA (-7), aA 0, aA 56, aI (l + 7)] [] s2 ∧ Inv s2 ∧ ∀ i, s2 (-7) i = s (-7) i := by
  obtain ⟨r, s1, s2, e1, e2, e3⟩ := q_now h (cs := (s (-7) (l + 1))) (ps := (s (-7) (l + 3))) ((s (-7) (l + 2))) ((s (-7) (l + 4))) ((s (-7) (l + 5))) (hx _ (by omega)) (hx _ (by omega))
  have W : ∀ j : Int, 0 ≤ j → j ≤ 7 → w32 (l + j) = l + j := fun j j0 j1 => w32_id (by omega) (by omega)
  have I : ∀ j : Int, 0 ≤ j → j ≤ 6 → 0 ≤ l + j ∧ l + j < L := fun j j0 j1 => by omega
  have q1 : ¬ L - 7 < l := by omega
  have q2 : 0 ≤ l ∧ l < L := by omega
  have w0 : w32 (L - 7) = L - 7 := w32_id (by omega) (by omega)
  have c0 : 0 ≤ s (-1) 0 := by rw [h.2.2.2.2.2.2.2.1]; decide
  have g1 := sem_gd e1 c0
  have g2 := sem_gd e2 (Int.le_trans c0 g1.1)
  have f1 : s1 (-7) = s (-7) := funext g1.2.2
  refine ⟨s2, ?_, e3, fun i => (g2.2.2 i).trans (g1.2.2 i)⟩
  rw [e224_18, g_t (by decide), hL, w0, if_neg q1, g_t (by decide), g_t q2, hk, if_neg (by decide), if_neg (by decide), if_neg (by decide), if_neg (by decide), if_neg (by decide), if_neg (by decide), if_neg (by decide), if_neg (by decide), if_neg (by decide), if_neg (by decide), if_neg (by decide), if_neg (by decide), if_neg (by decide), if_neg (by decide), if_neg (by decide), if_neg (by decide), if_neg (by decide), if_neg (by decide), if_pos rfl]
  rw [W 1 (by decide) (by decide), W 2 (by decide) (by decide), W 3 (by decide) (by decide), W 4 (by decide) (by decide), W 5 (by decide) (by decide), W 7 (by decide) (by decide)]
  rw [g_t (by decide), g_t (I 1 (by decide) (by decide)), g_t (by decide), g_t (I 2 (by decide) (by decide)), g_t (by decide), g_t (I 3 (by decide) (by decide)), g_t (by decide), g_t (I 4 (by decide) (by decide)), g_t (by decide), g_t (I 5 (by decide) (by decide)), g_t (by decide), e1, bnI_some]
  rw [f1, hL]
  rw [g_t (by decide), g_t (I 1 (by decide) (by decide)), g_t (by decide), g_t (I 2 (by decide) (by decide)), g_t (by decide), g_t (I 3 (by decide) (by decide)), g_t (by decide), g_t (I 4 (by decide) (by decide)), g_t (by decide), g_t (I 5 (by decide) (by decide)), g_t (by decide), e2, bnI_some, if_pos rfl]
set_option maxHeartbeats 4000000 in
theorem law_19 {s : SG} {L l : Int} (h : Inv s) (hL : s (-7) (-1) = L) (rL : L ≤ 3584) (l0 : 0 ≤ l) (l1 : l + 7 ≤ L) (hx : ∀ i, 0 ≤ i → -2147483648 ≤ s (-7) i ∧ s (-7) i < 2147483648) (hk : iandA (s (-7) l) 63 = 19) : ∃ s2, sem 224 18 [aA (-7), aA 0, aA 56, aI l] [] s = sem 224 18 [aA (-7), aA 0, aA 56, aI (l + 7)] [] s2 ∧ Inv s2 ∧ ∀ i, s2 (-7) i = s (-7) i := by
  obtain ⟨r, s1, s2, e1, e2, e3⟩ := q_day h ((s (-7) (l + 1)))
  have W : ∀ j : Int, 0 ≤ j → j ≤ 7 → w32 (l + j) = l + j := fun j j0 j1 => w32_id (by omega) (by omega)
  have I : ∀ j : Int, 0 ≤ j → j ≤ 6 → 0 ≤ l + j ∧ l + j < L := fun j j0 j1 => by omega
  have q1 : ¬ L - 7 < l := by omega
  have q2 : 0 ≤ l ∧ l < L := by omega
  have w0 : w32 (L - 7) = L - 7 := w32_id (by omega) (by omega)
  have c0 : 0 ≤ s (-1) 0 := by rw [h.2.2.2.2.2.2.2.1]; decide
  have g1 := sem_gd e1 c0
  have g2 := sem_gd e2 (Int.le_trans c0 g1.1)
  have f1 : s1 (-7) = s (-7) := funext g1.2.2
  refine ⟨s2, ?_, e3, fun i => (g2.2.2 i).trans (g1.2.2 i)⟩
  rw [e224_18, g_t (by decide), hL, w0, if_neg q1, g_t (by decide), g_t q2, hk, if_neg (by decide), if_neg (by decide), if_neg (by decide), if_neg (by decide), if_neg (by decide), if_neg (by decide), if_neg (by decide), if_neg (by decide), if_neg (by decide), if_neg (by decide), if_neg (by decide), if_neg (by decide), if_neg (by decide), if_neg (by decide), if_neg (by decide), if_neg (by decide), if_neg (by decide), if_neg (by decide), if_neg (by decide), if_pos rfl]
  rw [W 1 (by decide) (by decide), W 7 (by decide) (by decide)]
  rw [g_t (by decide), g_t (I 1 (by decide) (by decide)), g_t (by decide), e1, bnI_some]
  rw [f1, hL]
  rw [g_t (by decide), g_t (I 1 (by decide) (by decide)), g_t (by decide), e2, bnI_some, if_pos rfl]
set_option maxHeartbeats 4000000 in
theorem law_20 {s : SG} {L l : Int} (h : Inv s) (hL : s (-7) (-1) = L) (rL : L ≤ 3584) (l0 : 0 ≤ l) (l1 : l + 7 ≤ L) (hx : ∀ i, 0 ≤ i → -2147483648 ≤ s (-7) i ∧ s (-7) i < 2147483648) (hk : iandA (s (-7) l) 63 = 20) : ∃ s2, sem 224 18 [aA (-7), aA 0, aA 56, aI l] [] s = sem 224 18 [aA (-7), aA 0, aA 56, aI (l + 7)] [] s2 ∧ Inv s2 ∧ ∀ i, s2 (-7) i = s (-7) i := by
  obtain ⟨r, s1, s2, e1, e2, e3⟩ := q_gives h ((s (-7) (l + 1))) ((s (-7) (l + 2)))
  have W : ∀ j : Int, 0 ≤ j → j ≤ 7 → w32 (l + j) = l + j := fun j j0 j1 => w32_id (by omega) (by omega)
  have I : ∀ j : Int, 0 ≤ j → j ≤ 6 → 0 ≤ l + j ∧ l + j < L := fun j j0 j1 => by omega
  have q1 : ¬ L - 7 < l := by omega
  have q2 : 0 ≤ l ∧ l < L := by omega
  have w0 : w32 (L - 7) = L - 7 := w32_id (by omega) (by omega)
  have c0 : 0 ≤ s (-1) 0 := by rw [h.2.2.2.2.2.2.2.1]; decide
  have g1 := sem_gd e1 c0
  have g2 := sem_gd e2 (Int.le_trans c0 g1.1)
  have f1 : s1 (-7) = s (-7) := funext g1.2.2
  refine ⟨s2, ?_, e3, fun i => (g2.2.2 i).trans (g1.2.2 i)⟩
  rw [e224_18, g_t (by decide), hL, w0, if_neg q1, g_t (by decide), g_t q2, hk, if_neg (by decide), if_neg (by decide), if_neg (by decide), if_neg (by decide), if_neg (by decide), if_neg (by decide), if_neg (by decide), if_neg (by decide), if_neg (by decide), if_neg (by decide), if_neg (by decide), if_neg (by decide), if_neg (by decide), if_neg (by decide), if_neg (by decide), if_neg (by decide), if_neg (by decide), if_neg (by decide), if_neg (by decide), if_neg (by decide), if_pos rfl]
  rw [W 1 (by decide) (by decide), W 2 (by decide) (by decide), W 7 (by decide) (by decide)]
  rw [g_t (by decide), g_t (I 1 (by decide) (by decide)), g_t (by decide), g_t (I 2 (by decide) (by decide)), g_t (by decide), e1, bnI_some]
  rw [f1, hL]
  rw [g_t (by decide), g_t (I 1 (by decide) (by decide)), g_t (by decide), g_t (I 2 (by decide) (by decide)), g_t (by decide), e2, bnI_some, if_pos rfl]
set_option maxHeartbeats 4000000 in
theorem law_21 {s : SG} {L l : Int} (h : Inv s) (hL : s (-7) (-1) = L) (rL : L ≤ 3584) (l0 : 0 ≤ l) (l1 : l + 7 ≤ L) (hx : ∀ i, 0 ≤ i → -2147483648 ≤ s (-7) i ∧ s (-7) i < 2147483648) (hk : iandA (s (-7) l) 63 = 21) : ∃ s2, sem 224 18 [aA (-7), aA 0, aA 56, aI l] [] s = sem 224 18 [aA (-7), aA 0, aA 56, aI (l + 7)] [] s2 ∧ Inv s2 ∧ ∀ i, s2 (-7) i = s (-7) i := by
  obtain ⟨r, s1, s2, e1, e2, e3⟩ := q_more h ((s (-7) (l + 1))) ((s (-7) (l + 2)))
  have W : ∀ j : Int, 0 ≤ j → j ≤ 7 → w32 (l + j) = l + j := fun j j0 j1 => w32_id (by omega) (by omega)
  have I : ∀ j : Int, 0 ≤ j → j ≤ 6 → 0 ≤ l + j ∧ l + j < L := fun j j0 j1 => by omega
  have q1 : ¬ L - 7 < l := by omega
  have q2 : 0 ≤ l ∧ l < L := by omega
  have w0 : w32 (L - 7) = L - 7 := w32_id (by omega) (by omega)
  have c0 : 0 ≤ s (-1) 0 := by rw [h.2.2.2.2.2.2.2.1]; decide
  have g1 := sem_gd e1 c0
  have g2 := sem_gd e2 (Int.le_trans c0 g1.1)
  have f1 : s1 (-7) = s (-7) := funext g1.2.2
  refine ⟨s2, ?_, e3, fun i => (g2.2.2 i).trans (g1.2.2 i)⟩
  rw [e224_18, g_t (by decide), hL, w0, if_neg q1, g_t (by decide), g_t q2, hk, if_neg (by decide), if_neg (by decide), if_neg (by decide), if_neg (by decide), if_neg (by decide), if_neg (by decide), if_neg (by decide), if_neg (by decide), if_neg (by decide), if_neg (by decide), if_neg (by decide), if_neg (by decide), if_neg (by decide), if_neg (by decide), if_neg (by decide), if_neg (by decide), if_neg (by decide), if_neg (by decide), if_neg (by decide), if_neg (by decide), if_neg (by decide), if_pos rfl]
  rw [W 1 (by decide) (by decide), W 2 (by decide) (by decide), W 7 (by decide) (by decide)]
  rw [g_t (by decide), g_t (I 1 (by decide) (by decide)), g_t (by decide), g_t (I 2 (by decide) (by decide)), g_t (by decide), e1, bnI_some]
  rw [f1, hL]
  rw [g_t (by decide), g_t (I 1 (by decide) (by decide)), g_t (by decide), g_t (I 2 (by decide) (by decide)), g_t (by decide), e2, bnI_some, if_pos rfl]
set_option maxHeartbeats 4000000 in
theorem law_22 {s : SG} {L l : Int} (h : Inv s) (hL : s (-7) (-1) = L) (rL : L ≤ 3584) (l0 : 0 ≤ l) (l1 : l + 7 ≤ L) (hx : ∀ i, 0 ≤ i → -2147483648 ≤ s (-7) i ∧ s (-7) i < 2147483648) (hk : iandA (s (-7) l) 63 = 22) : ∃ s2, sem 224 18 [aA (-7), aA 0, aA 56, aI l] [] s = sem 224 18 [aA (-7), aA 0, aA 56, aI (l + 7)] [] s2 ∧ Inv s2 ∧ ∀ i, s2 (-7) i = s (-7) i := by
  obtain ⟨r, s1, s2, e1, e2, e3⟩ := q_van h ((s (-7) (l + 1))) ((s (-7) (l + 2))) ((s (-7) (l + 3)))
  have W : ∀ j : Int, 0 ≤ j → j ≤ 7 → w32 (l + j) = l + j := fun j j0 j1 => w32_id (by omega) (by omega)
  have I : ∀ j : Int, 0 ≤ j → j ≤ 6 → 0 ≤ l + j ∧ l + j < L := fun j j0 j1 => by omega
  have q1 : ¬ L - 7 < l := by omega
  have q2 : 0 ≤ l ∧ l < L := by omega
  have w0 : w32 (L - 7) = L - 7 := w32_id (by omega) (by omega)
  have c0 : 0 ≤ s (-1) 0 := by rw [h.2.2.2.2.2.2.2.1]; decide
  have g1 := sem_gd e1 c0
  have g2 := sem_gd e2 (Int.le_trans c0 g1.1)
  have f1 : s1 (-7) = s (-7) := funext g1.2.2
  refine ⟨s2, ?_, e3, fun i => (g2.2.2 i).trans (g1.2.2 i)⟩
  rw [e224_18, g_t (by decide), hL, w0, if_neg q1, g_t (by decide), g_t q2, hk, if_neg (by decide), if_neg (by decide), if_neg (by decide), if_neg (by decide), if_neg (by decide), if_neg (by decide), if_neg (by decide), if_neg (by decide), if_neg (by decide), if_neg (by decide), if_neg (by decide), if_neg (by decide), if_neg (by decide), if_neg (by decide), if_neg (by decide), if_neg (by decide), if_neg (by decide), if_neg (by decide), if_neg (by decide), if_neg (by decide), if_neg (by decide), if_neg (by decide), if_pos rfl]
  rw [W 1 (by decide) (by decide), W 2 (by decide) (by decide), W 3 (by decide) (by decide), W 7 (by decide) (by decide)]
  rw [g_t (by decide), g_t (I 1 (by decide) (by decide)), g_t (by decide), g_t (I 2 (by decide) (by decide)), g_t (by decide), g_t (I 3 (by decide) (by decide)), g_t (by decide), e1, bnI_some]
  rw [f1, hL]
  rw [g_t (by decide), g_t (I 1 (by decide) (by decide)), g_t (by decide), g_t (I 2 (by decide) (by decide)), g_t (by decide), g_t (I 3 (by decide) (by decide)), g_t (by decide), e2, bnI_some, if_pos rfl]
set_option maxHeartbeats 4000000 in
theorem law_23 {s : SG} {L l : Int} (h : Inv s) (hL : s (-7) (-1) = L) (rL : L ≤ 3584) (l0 : 0 ≤ l) (l1 : l + 7 ≤ L) (hx : ∀ i, 0 ≤ i → -2147483648 ≤ s (-7) i ∧ s (-7) i < 2147483648) (hk : iandA (s (-7) l) 63 = 23) : ∃ s2, sem 224 18 [aA (-7), aA 0, aA 56, aI l] [] s = sem 224 18 [aA (-7), aA 0, aA 56, aI (l + 7)] [] s2 ∧ Inv s2 ∧ ∀ i, s2 (-7) i = s (-7) i := by
  obtain ⟨r, s1, s2, e1, e2, e3⟩ := q_order h ((s (-7) (l + 1))) ((s (-7) (l + 2))) ((s (-7) (l + 3)))
  have W : ∀ j : Int, 0 ≤ j → j ≤ 7 → w32 (l + j) = l + j := fun j j0 j1 => w32_id (by omega) (by omega)
  have I : ∀ j : Int, 0 ≤ j → j ≤ 6 → 0 ≤ l + j ∧ l + j < L := fun j j0 j1 => by omega
  have q1 : ¬ L - 7 < l := by omega
  have q2 : 0 ≤ l ∧ l < L := by omega
  have w0 : w32 (L - 7) = L - 7 := w32_id (by omega) (by omega)
  have c0 : 0 ≤ s (-1) 0 := by rw [h.2.2.2.2.2.2.2.1]; decide
  have g1 := sem_gd e1 c0
  have g2 := sem_gd e2 (Int.le_trans c0 g1.1)
  have f1 : s1 (-7) = s (-7) := funext g1.2.2
  refine ⟨s2, ?_, e3, fun i => (g2.2.2 i).trans (g1.2.2 i)⟩
  rw [e224_18, g_t (by decide), hL, w0, if_neg q1, g_t (by decide), g_t q2, hk, if_neg (by decide), if_neg (by decide), if_neg (by decide), if_neg (by decide), if_neg (by decide), if_neg (by decide), if_neg (by decide), if_neg (by decide), if_neg (by decide), if_neg (by decide), if_neg (by decide), if_neg (by decide), if_neg (by decide), if_neg (by decide), if_neg (by decide), if_neg (by decide), if_neg (by decide), if_neg (by decide), if_neg (by decide), if_neg (by decide), if_neg (by decide), if_neg (by decide), if_neg (by decide), if_pos rfl]
  rw [W 1 (by decide) (by decide), W 2 (by decide) (by decide), W 3 (by decide) (by decide), W 7 (by decide) (by decide)]
  rw [g_t (by decide), g_t (I 1 (by decide) (by decide)), g_t (by decide), g_t (I 2 (by decide) (by decide)), g_t (by decide), g_t (I 3 (by decide) (by decide)), g_t (by decide), e1, bnI_some]
  rw [f1, hL]
  rw [g_t (by decide), g_t (I 1 (by decide) (by decide)), g_t (by decide), g_t (I 2 (by decide) (by decide)), g_t (by decide), g_t (I 3 (by decide) (by decide)), g_t (by decide), e2, bnI_some, if_pos rfl]
set_option maxHeartbeats 4000000 in
theorem law_24 {s : SG} {L l : Int} (h : Inv s) (hL : s (-7) (-1) = L) (rL : L ≤ 3584) (l0 : 0 ≤ l) (l1 : l + 7 ≤ L) (hx : ∀ i, 0 ≤ i → -2147483648 ≤ s (-7) i ∧ s (-7) i < 2147483648) (hk : iandA (s (-7) l) 63 = 24) : ∃ s2, sem 224 18 [aA (-7), aA 0, aA 56, aI l] [] s = sem 224 18 [aA (-7), aA 0, aA 56, aI (l + 7)] [] s2 ∧ Inv s2 ∧ ∀ i, s2 (-7) i = s (-7) i := by
  obtain ⟨r, s1, s2, e1, e2, e3⟩ := q_unorder h 
  have W : ∀ j : Int, 0 ≤ j → j ≤ 7 → w32 (l + j) = l + j := fun j j0 j1 => w32_id (by omega) (by omega)
  have I : ∀ j : Int, 0 ≤ j → j ≤ 6 → 0 ≤ l + j ∧ l + j < L := fun j j0 j1 => by omega
  have q1 : ¬ L - 7 < l := by omega
  have q2 : 0 ≤ l ∧ l < L := by omega
  have w0 : w32 (L - 7) = L - 7 := w32_id (by omega) (by omega)
  have c0 : 0 ≤ s (-1) 0 := by rw [h.2.2.2.2.2.2.2.1]; decide
  have g1 := sem_gd e1 c0
  have g2 := sem_gd e2 (Int.le_trans c0 g1.1)
  have f1 : s1 (-7) = s (-7) := funext g1.2.2
  refine ⟨s2, ?_, e3, fun i => (g2.2.2 i).trans (g1.2.2 i)⟩
  rw [e224_18, g_t (by decide), hL, w0, if_neg q1, g_t (by decide), g_t q2, hk, if_neg (by decide), if_neg (by decide), if_neg (by decide), if_neg (by decide), if_neg (by decide), if_neg (by decide), if_neg (by decide), if_neg (by decide), if_neg (by decide), if_neg (by decide), if_neg (by decide), if_neg (by decide), if_neg (by decide), if_neg (by decide), if_neg (by decide), if_neg (by decide), if_neg (by decide), if_neg (by decide), if_neg (by decide), if_neg (by decide), if_neg (by decide), if_neg (by decide), if_neg (by decide), if_neg (by decide), if_pos rfl]
  rw [W 7 (by decide) (by decide)]
  rw [g_t (by decide), e1, bnI_some]
  rw [g_t (by decide), e2, bnI_some, if_pos rfl]
set_option maxHeartbeats 4000000 in
theorem law_25 {s : SG} {L l : Int} (h : Inv s) (hL : s (-7) (-1) = L) (rL : L ≤ 3584) (l0 : 0 ≤ l) (l1 : l + 7 ≤ L) (hx : ∀ i, 0 ≤ i → -2147483648 ≤ s (-7) i ∧ s (-7) i < 2147483648) (hk : iandA (s (-7) l) 63 = 25) : ∃ s2, sem 224 18 [aA (-7), aA 0, aA 56, aI l] [] s = sem 224 18 [aA (-7), aA 0, aA 56, aI (l + 7)] [] s2 ∧ Inv s2 ∧ ∀ i, s2 (-7) i = s (-7) i := by
  obtain ⟨r, s1, s2, e1, e2, e3⟩ := q_morning h ((s (-7) (l + 1))) ((s (-7) (l + 2))) ((s (-7) (l + 3)))
  have W : ∀ j : Int, 0 ≤ j → j ≤ 7 → w32 (l + j) = l + j := fun j j0 j1 => w32_id (by omega) (by omega)
  have I : ∀ j : Int, 0 ≤ j → j ≤ 6 → 0 ≤ l + j ∧ l + j < L := fun j j0 j1 => by omega
  have q1 : ¬ L - 7 < l := by omega
  have q2 : 0 ≤ l ∧ l < L := by omega
  have w0 : w32 (L - 7) = L - 7 := w32_id (by omega) (by omega)
  have c0 : 0 ≤ s (-1) 0 := by rw [h.2.2.2.2.2.2.2.1]; decide
  have g1 := sem_gd e1 c0
  have g2 := sem_gd e2 (Int.le_trans c0 g1.1)
  have f1 : s1 (-7) = s (-7) := funext g1.2.2
  refine ⟨s2, ?_, e3, fun i => (g2.2.2 i).trans (g1.2.2 i)⟩
  rw [e224_18, g_t (by decide), hL, w0, if_neg q1, g_t (by decide), g_t q2, hk, if_neg (by decide), if_neg (by decide), if_neg (by decide), if_neg (by decide), if_neg (by decide), if_neg (by decide), if_neg (by decide), if_neg (by decide), if_neg (by decide), if_neg (by decide), if_neg (by decide), if_neg (by decide), if_neg (by decide), if_neg (by decide), if_neg (by decide), if_neg (by decide), if_neg (by decide), if_neg (by decide), if_neg (by decide), if_neg (by decide), if_neg (by decide), if_neg (by decide), if_neg (by decide), if_neg (by decide), if_neg (by decide), if_pos rfl]
  rw [W 1 (by decide) (by decide), W 2 (by decide) (by decide), W 3 (by decide) (by decide), W 7 (by decide) (by decide)]
  rw [g_t (by decide), g_t (I 1 (by decide) (by decide)), g_t (by decide), g_t (I 2 (by decide) (by decide)), g_t (by decide), g_t (I 3 (by decide) (by decide)), g_t (by decide), e1, bnI_some]
  rw [f1, hL]
  rw [g_t (by decide), g_t (I 1 (by decide) (by decide)), g_t (by decide), g_t (I 2 (by decide) (by decide)), g_t (by decide), g_t (I 3 (by decide) (by decide)), g_t (by decide), e2, bnI_some, if_pos rfl]
set_option maxHeartbeats 4000000 in
theorem law_26 {s : SG} {L l : Int} (h : Inv s) (hL : s (-7) (-1) = L) (rL : L ≤ 3584) (l0 : 0 ≤ l) (l1 : l + 7 ≤ L) (hx : ∀ i, 0 ≤ i → -2147483648 ≤ s (-7) i ∧ s (-7) i < 2147483648) (hk : iandA (s (-7) l) 63 = 26) : ∃ s2, sem 224 18 [aA (-7), aA 0, aA 56, aI l] [] s = sem 224 18 [aA (-7), aA 0, aA 56, aI (l + 7)] [] s2 ∧ Inv s2 ∧ ∀ i, s2 (-7) i = s (-7) i := by
  obtain ⟨r, s1, s2, e1, e2, e3⟩ := q_ended h ((s (-7) (l + 1)))
  have W : ∀ j : Int, 0 ≤ j → j ≤ 7 → w32 (l + j) = l + j := fun j j0 j1 => w32_id (by omega) (by omega)
  have I : ∀ j : Int, 0 ≤ j → j ≤ 6 → 0 ≤ l + j ∧ l + j < L := fun j j0 j1 => by omega
  have q1 : ¬ L - 7 < l := by omega
  have q2 : 0 ≤ l ∧ l < L := by omega
  have w0 : w32 (L - 7) = L - 7 := w32_id (by omega) (by omega)
  have c0 : 0 ≤ s (-1) 0 := by rw [h.2.2.2.2.2.2.2.1]; decide
  have g1 := sem_gd e1 c0
  have g2 := sem_gd e2 (Int.le_trans c0 g1.1)
  have f1 : s1 (-7) = s (-7) := funext g1.2.2
  refine ⟨s2, ?_, e3, fun i => (g2.2.2 i).trans (g1.2.2 i)⟩
  rw [e224_18, g_t (by decide), hL, w0, if_neg q1, g_t (by decide), g_t q2, hk, if_neg (by decide), if_neg (by decide), if_neg (by decide), if_neg (by decide), if_neg (by decide), if_neg (by decide), if_neg (by decide), if_neg (by decide), if_neg (by decide), if_neg (by decide), if_neg (by decide), if_neg (by decide), if_neg (by decide), if_neg (by decide), if_neg (by decide), if_neg (by decide), if_neg (by decide), if_neg (by decide), if_neg (by decide), if_neg (by decide), if_neg (by decide), if_neg (by decide), if_neg (by decide), if_neg (by decide), if_neg (by decide), if_neg (by decide), if_pos rfl]
  rw [W 1 (by decide) (by decide), W 7 (by decide) (by decide)]
  rw [g_t (by decide), g_t (I 1 (by decide) (by decide)), g_t (by decide), e1, bnI_some]
  rw [f1, hL]
  rw [g_t (by decide), g_t (I 1 (by decide) (by decide)), g_t (by decide), e2, bnI_some, if_pos rfl]
set_option maxHeartbeats 4000000 in
theorem law_27 {s : SG} {L l : Int} (h : Inv s) (hL : s (-7) (-1) = L) (rL : L ≤ 3584) (l0 : 0 ≤ l) (l1 : l + 7 ≤ L) (hx : ∀ i, 0 ≤ i → -2147483648 ≤ s (-7) i ∧ s (-7) i < 2147483648) (hk : iandA (s (-7) l) 63 = 27) : ∃ s2, sem 224 18 [aA (-7), aA 0, aA 56, aI l] [] s = sem 224 18 [aA (-7), aA 0, aA 56, aI (l + 7)] [] s2 ∧ Inv s2 ∧ ∀ i, s2 (-7) i = s (-7) i := by
  obtain ⟨r, s1, s2, e1, e2, e3⟩ := q_ranOut h ((s (-7) (l + 1)))
  have W : ∀ j : Int, 0 ≤ j → j ≤ 7 → w32 (l + j) = l + j := fun j j0 j1 => w32_id (by omega) (by omega)
  have I : ∀ j : Int, 0 ≤ j → j ≤ 6 → 0 ≤ l + j ∧ l + j < L := fun j j0 j1 => by omega
  have q1 : ¬ L - 7 < l := by omega
  have q2 : 0 ≤ l ∧ l < L := by omega
  have w0 : w32 (L - 7) = L - 7 := w32_id (by omega) (by omega)
  have c0 : 0 ≤ s (-1) 0 := by rw [h.2.2.2.2.2.2.2.1]; decide
  have g1 := sem_gd e1 c0
  have g2 := sem_gd e2 (Int.le_trans c0 g1.1)
  have f1 : s1 (-7) = s (-7) := funext g1.2.2
  refine ⟨s2, ?_, e3, fun i => (g2.2.2 i).trans (g1.2.2 i)⟩
  rw [e224_18, g_t (by decide), hL, w0, if_neg q1, g_t (by decide), g_t q2, hk, if_neg (by decide), if_neg (by decide), if_neg (by decide), if_neg (by decide), if_neg (by decide), if_neg (by decide), if_neg (by decide), if_neg (by decide), if_neg (by decide), if_neg (by decide), if_neg (by decide), if_neg (by decide), if_neg (by decide), if_neg (by decide), if_neg (by decide), if_neg (by decide), if_neg (by decide), if_neg (by decide), if_neg (by decide), if_neg (by decide), if_neg (by decide), if_neg (by decide), if_neg (by decide), if_neg (by decide), if_neg (by decide), if_neg (by decide), if_neg (by decide), if_pos rfl]
  rw [W 1 (by decide) (by decide), W 7 (by decide) (by decide)]
  rw [g_t (by decide), g_t (I 1 (by decide) (by decide)), g_t (by decide), e1, bnI_some]
  rw [f1, hL]
  rw [g_t (by decide), g_t (I 1 (by decide) (by decide)), g_t (by decide), e2, bnI_some, if_pos rfl]
set_option maxHeartbeats 4000000 in
theorem law_28 {s : SG} {L l : Int} (h : Inv s) (hL : s (-7) (-1) = L) (rL : L ≤ 3584) (l0 : 0 ≤ l) (l1 : l + 7 ≤ L) (hx : ∀ i, 0 ≤ i → -2147483648 ≤ s (-7) i ∧ s (-7) i < 2147483648) (hk : iandA (s (-7) l) 63 = 28) : ∃ s2, sem 224 18 [aA (-7), aA 0, aA 56, aI l] [] s = sem 224 18 [aA (-7), aA 0, aA 56, aI (l + 7)] [] s2 ∧ Inv s2 ∧ ∀ i, s2 (-7) i = s (-7) i := by
  obtain ⟨r, e1, e2⟩ := q_habit h ((s (-7) (l + 1)))
  have W : ∀ j : Int, 0 ≤ j → j ≤ 7 → w32 (l + j) = l + j := fun j j0 j1 => w32_id (by omega) (by omega)
  have I : ∀ j : Int, 0 ≤ j → j ≤ 6 → 0 ≤ l + j ∧ l + j < L := fun j j0 j1 => by omega
  have q1 : ¬ L - 7 < l := by omega
  have q2 : 0 ≤ l ∧ l < L := by omega
  have w0 : w32 (L - 7) = L - 7 := w32_id (by omega) (by omega)
  refine ⟨s, ?_, h, fun _ => rfl⟩
  rw [e224_18, g_t (by decide), hL, w0, if_neg q1, g_t (by decide), g_t q2, hk, if_neg (by decide), if_neg (by decide), if_neg (by decide), if_neg (by decide), if_neg (by decide), if_neg (by decide), if_neg (by decide), if_neg (by decide), if_neg (by decide), if_neg (by decide), if_neg (by decide), if_neg (by decide), if_neg (by decide), if_neg (by decide), if_neg (by decide), if_neg (by decide), if_neg (by decide), if_neg (by decide), if_neg (by decide), if_neg (by decide), if_neg (by decide), if_neg (by decide), if_neg (by decide), if_neg (by decide), if_neg (by decide), if_neg (by decide), if_neg (by decide), if_neg (by decide), if_pos rfl]
  rw [W 1 (by decide) (by decide), W 7 (by decide) (by decide)]
  rw [g_t (by decide), g_t (I 1 (by decide) (by decide)), g_t (by decide), e1, bnI_some]
  (try rw [hL])
  rw [g_t (by decide), g_t (I 1 (by decide) (by decide)), g_t (by decide), e2, bnI_some, if_pos rfl]
set_option maxHeartbeats 4000000 in
theorem law_29 {s : SG} {L l : Int} (h : Inv s) (hL : s (-7) (-1) = L) (rL : L ≤ 3584) (l0 : 0 ≤ l) (l1 : l + 7 ≤ L) (hx : ∀ i, 0 ≤ i → -2147483648 ≤ s (-7) i ∧ s (-7) i < 2147483648) (hk : iandA (s (-7) l) 63 = 29) : ∃ s2, sem 224 18 [aA (-7), aA 0, aA 56, aI l] [] s = sem 224 18 [aA (-7), aA 0, aA 56, aI (l + 7)] [] s2 ∧ Inv s2 ∧ ∀ i, s2 (-7) i = s (-7) i := by
  obtain ⟨r, s1, s2, e1, e2, e3⟩ := q_days h ((s (-7) (l + 1)))
  have W : ∀ j : Int, 0 ≤ j → j ≤ 7 → w32 (l + j) = l + j := fun j j0 j1 => w32_id (by omega) (by omega)
  have I : ∀ j : Int, 0 ≤ j → j ≤ 6 → 0 ≤ l + j ∧ l + j < L := fun j j0 j1 => by omega
  have q1 : ¬ L - 7 < l := by omega
  have q2 : 0 ≤ l ∧ l < L := by omega
  have w0 : w32 (L - 7) = L - 7 := w32_id (by omega) (by omega)
  have c0 : 0 ≤ s (-1) 0 := by rw [h.2.2.2.2.2.2.2.1]; decide
  have g1 := sem_gd e1 c0
  have g2 := sem_gd e2 (Int.le_trans c0 g1.1)
  have f1 : s1 (-7) = s (-7) := funext g1.2.2
  refine ⟨s2, ?_, e3, fun i => (g2.2.2 i).trans (g1.2.2 i)⟩
  rw [e224_18, g_t (by decide), hL, w0, if_neg q1, g_t (by decide), g_t q2, hk, if_neg (by decide), if_neg (by decide), if_neg (by decide), if_neg (by decide), if_neg (by decide), if_neg (by decide), if_neg (by decide), if_neg (by decide), if_neg (by decide), if_neg (by decide), if_neg (by decide), if_neg (by decide), if_neg (by decide), if_neg (by decide), if_neg (by decide), if_neg (by decide), if_neg (by decide), if_neg (by decide), if_neg (by decide), if_neg (by decide), if_neg (by decide), if_neg (by decide), if_neg (by decide), if_neg (by decide), if_neg (by decide), if_neg (by decide), if_neg (by decide), if_neg (by decide), if_neg (by decide), if_pos rfl]
  rw [W 1 (by decide) (by decide), W 7 (by decide) (by decide)]
  rw [g_t (by decide), g_t (I 1 (by decide) (by decide)), g_t (by decide), e1, bnI_some]
  rw [f1, hL]
  rw [g_t (by decide), g_t (I 1 (by decide) (by decide)), g_t (by decide), e2, bnI_some, if_pos rfl]
set_option maxHeartbeats 4000000 in
theorem law_30 {s : SG} {L l : Int} (h : Inv s) (hL : s (-7) (-1) = L) (rL : L ≤ 3584) (l0 : 0 ≤ l) (l1 : l + 7 ≤ L) (hx : ∀ i, 0 ≤ i → -2147483648 ≤ s (-7) i ∧ s (-7) i < 2147483648) (hk : iandA (s (-7) l) 63 = 30) : ∃ s2, sem 224 18 [aA (-7), aA 0, aA 56, aI l] [] s = sem 224 18 [aA (-7), aA 0, aA 56, aI (l + 7)] [] s2 ∧ Inv s2 ∧ ∀ i, s2 (-7) i = s (-7) i := by
  obtain ⟨r, s1, s2, e1, e2, e3⟩ := q_second h ((s (-7) (l + 1))) ((s (-7) (l + 2))) ((s (-7) (l + 3))) ((s (-7) (l + 4)))
  have W : ∀ j : Int, 0 ≤ j → j ≤ 7 → w32 (l + j) = l + j := fun j j0 j1 => w32_id (by omega) (by omega)
  have I : ∀ j : Int, 0 ≤ j → j ≤ 6 → 0 ≤ l + j ∧ l + j < L := fun j j0 j1 => by omega
  have q1 : ¬ L - 7 < l := by omega
  have q2 : 0 ≤ l ∧ l < L := by omega
  have w0 : w32 (L - 7) = L - 7 := w32_id (by omega) (by omega)
  have c0 : 0 ≤ s (-1) 0 := by rw [h.2.2.2.2.2.2.2.1]; decide
  have g1 := sem_gd e1 c0
  have g2 := sem_gd e2 (Int.le_trans c0 g1.1)
  have f1 : s1 (-7) = s (-7) := funext g1.2.2
  refine ⟨s2, ?_, e3, fun i => (g2.2.2 i).trans (g1.2.2 i)⟩
  rw [e224_18, g_t (by decide), hL, w0, if_neg q1, g_t (by decide), g_t q2, hk, if_neg (by decide), if_neg (by decide), if_neg (by decide), if_neg (by decide), if_neg (by decide), if_neg (by decide), if_neg (by decide), if_neg (by decide), if_neg (by decide), if_neg (by decide), if_neg (by decide), if_neg (by decide), if_neg (by decide), if_neg (by decide), if_neg (by decide), if_neg (by decide), if_neg (by decide), if_neg (by decide), if_neg (by decide), if_neg (by decide), if_neg (by decide), if_neg (by decide), if_neg (by decide), if_neg (by decide), if_neg (by decide), if_neg (by decide), if_neg (by decide), if_neg (by decide), if_neg (by decide), if_neg (by decide), if_pos rfl]
  rw [W 1 (by decide) (by decide), W 2 (by decide) (by decide), W 3 (by decide) (by decide), W 4 (by decide) (by decide), W 7 (by decide) (by decide)]
  rw [g_t (by decide), g_t (I 1 (by decide) (by decide)), g_t (by decide), g_t (I 2 (by decide) (by decide)), g_t (by decide), g_t (I 3 (by decide) (by decide)), g_t (by decide), g_t (I 4 (by decide) (by decide)), g_t (by decide), e1, bnI_some]
  rw [f1, hL]
  rw [g_t (by decide), g_t (I 1 (by decide) (by decide)), g_t (by decide), g_t (I 2 (by decide) (by decide)), g_t (by decide), g_t (I 3 (by decide) (by decide)), g_t (by decide), g_t (I 4 (by decide) (by decide)), g_t (by decide), e2, bnI_some, if_pos rfl]
set_option maxHeartbeats 4000000 in
theorem law_31 {s : SG} {L l : Int} (h : Inv s) (hL : s (-7) (-1) = L) (rL : L ≤ 3584) (l0 : 0 ≤ l) (l1 : l + 7 ≤ L) (hx : ∀ i, 0 ≤ i → -2147483648 ≤ s (-7) i ∧ s (-7) i < 2147483648) (hk : iandA (s (-7) l) 63 = 31) : ∃ s2, sem 224 18 [aA (-7), aA 0, aA 56, aI l] [] s = sem 224 18 [aA (-7), aA 0, aA 56, aI (l + 7)] [] s2 ∧ Inv s2 ∧ ∀ i, s2 (-7) i = s (-7) i := by
  obtain ⟨r, s1, s2, e1, e2, e3⟩ := q_paid h ((s (-7) (l + 1))) ((s (-7) (l + 2))) ((s (-7) (l + 3)))
  have W : ∀ j : Int, 0 ≤ j → j ≤ 7 → w32 (l + j) = l + j := fun j j0 j1 => w32_id (by omega) (by omega)
  have I : ∀ j : Int, 0 ≤ j → j ≤ 6 → 0 ≤ l + j ∧ l + j < L := fun j j0 j1 => by omega
  have q1 : ¬ L - 7 < l := by omega
  have q2 : 0 ≤ l ∧ l < L := by omega
  have w0 : w32 (L - 7) = L - 7 := w32_id (by omega) (by omega)
  have c0 : 0 ≤ s (-1) 0 := by rw [h.2.2.2.2.2.2.2.1]; decide
  have g1 := sem_gd e1 c0
  have g2 := sem_gd e2 (Int.le_trans c0 g1.1)
  have f1 : s1 (-7) = s (-7) := funext g1.2.2
  refine ⟨s2, ?_, e3, fun i => (g2.2.2 i).trans (g1.2.2 i)⟩
  rw [e224_18, g_t (by decide), hL, w0, if_neg q1, g_t (by decide), g_t q2, hk, if_neg (by decide), if_neg (by decide), if_neg (by decide), if_neg (by decide), if_neg (by decide), if_neg (by decide), if_neg (by decide), if_neg (by decide), if_neg (by decide), if_neg (by decide), if_neg (by decide), if_neg (by decide), if_neg (by decide), if_neg (by decide), if_neg (by decide), if_neg (by decide), if_neg (by decide), if_neg (by decide), if_neg (by decide), if_neg (by decide), if_neg (by decide), if_neg (by decide), if_neg (by decide), if_neg (by decide), if_neg (by decide), if_neg (by decide), if_neg (by decide), if_neg (by decide), if_neg (by decide), if_neg (by decide), if_neg (by decide), if_pos rfl]
  rw [W 1 (by decide) (by decide), W 2 (by decide) (by decide), W 3 (by decide) (by decide), W 7 (by decide) (by decide)]
  rw [g_t (by decide), g_t (I 1 (by decide) (by decide)), g_t (by decide), g_t (I 2 (by decide) (by decide)), g_t (by decide), g_t (I 3 (by decide) (by decide)), g_t (by decide), e1, bnI_some]
  rw [f1, hL]
  rw [g_t (by decide), g_t (I 1 (by decide) (by decide)), g_t (by decide), g_t (I 2 (by decide) (by decide)), g_t (by decide), g_t (I 3 (by decide) (by decide)), g_t (by decide), e2, bnI_some, if_pos rfl]
set_option maxHeartbeats 4000000 in
theorem law_32 {s : SG} {L l : Int} (h : Inv s) (hL : s (-7) (-1) = L) (rL : L ≤ 3584) (l0 : 0 ≤ l) (l1 : l + 7 ≤ L) (hx : ∀ i, 0 ≤ i → -2147483648 ≤ s (-7) i ∧ s (-7) i < 2147483648) (hk : iandA (s (-7) l) 63 = 32) : ∃ s2, sem 224 18 [aA (-7), aA 0, aA 56, aI l] [] s = sem 224 18 [aA (-7), aA 0, aA 56, aI (l + 7)] [] s2 ∧ Inv s2 ∧ ∀ i, s2 (-7) i = s (-7) i := by
  obtain ⟨r, s1, s2, e1, e2, e3⟩ := q_leastPay h ((s (-7) (l + 1))) ((s (-7) (l + 2))) ((s (-7) (l + 3)))
  have W : ∀ j : Int, 0 ≤ j → j ≤ 7 → w32 (l + j) = l + j := fun j j0 j1 => w32_id (by omega) (by omega)
  have I : ∀ j : Int, 0 ≤ j → j ≤ 6 → 0 ≤ l + j ∧ l + j < L := fun j j0 j1 => by omega
  have q1 : ¬ L - 7 < l := by omega
  have q2 : 0 ≤ l ∧ l < L := by omega
  have w0 : w32 (L - 7) = L - 7 := w32_id (by omega) (by omega)
  have c0 : 0 ≤ s (-1) 0 := by rw [h.2.2.2.2.2.2.2.1]; decide
  have g1 := sem_gd e1 c0
  have g2 := sem_gd e2 (Int.le_trans c0 g1.1)
  have f1 : s1 (-7) = s (-7) := funext g1.2.2
  refine ⟨s2, ?_, e3, fun i => (g2.2.2 i).trans (g1.2.2 i)⟩
  rw [e224_18, g_t (by decide), hL, w0, if_neg q1, g_t (by decide), g_t q2, hk, if_neg (by decide), if_neg (by decide), if_neg (by decide), if_neg (by decide), if_neg (by decide), if_neg (by decide), if_neg (by decide), if_neg (by decide), if_neg (by decide), if_neg (by decide), if_neg (by decide), if_neg (by decide), if_neg (by decide), if_neg (by decide), if_neg (by decide), if_neg (by decide), if_neg (by decide), if_neg (by decide), if_neg (by decide), if_neg (by decide), if_neg (by decide), if_neg (by decide), if_neg (by decide), if_neg (by decide), if_neg (by decide), if_neg (by decide), if_neg (by decide), if_neg (by decide), if_neg (by decide), if_neg (by decide), if_neg (by decide), if_neg (by decide), if_pos rfl]
  rw [W 1 (by decide) (by decide), W 2 (by decide) (by decide), W 3 (by decide) (by decide), W 7 (by decide) (by decide)]
  rw [g_t (by decide), g_t (I 1 (by decide) (by decide)), g_t (by decide), g_t (I 2 (by decide) (by decide)), g_t (by decide), g_t (I 3 (by decide) (by decide)), g_t (by decide), e1, bnI_some]
  rw [f1, hL]
  rw [g_t (by decide), g_t (I 1 (by decide) (by decide)), g_t (by decide), g_t (I 2 (by decide) (by decide)), g_t (by decide), g_t (I 3 (by decide) (by decide)), g_t (by decide), e2, bnI_some, if_pos rfl]
set_option maxHeartbeats 4000000 in
theorem law_33 {s : SG} {L l : Int} (h : Inv s) (hL : s (-7) (-1) = L) (rL : L ≤ 3584) (l0 : 0 ≤ l) (l1 : l + 7 ≤ L) (hx : ∀ i, 0 ≤ i → -2147483648 ≤ s (-7) i ∧ s (-7) i < 2147483648) (hk : iandA (s (-7) l) 63 = 33) : ∃ s2, sem 224 18 [aA (-7), aA 0, aA 56, aI l] [] s = sem 224 18 [aA (-7), aA 0, aA 56, aI (l + 7)] [] s2 ∧ Inv s2 ∧ ∀ i, s2 (-7) i = s (-7) i := by
  obtain ⟨r, s1, s2, e1, e2, e3⟩ := q_keep h ((s (-7) (l + 1)))
  have W : ∀ j : Int, 0 ≤ j → j ≤ 7 → w32 (l + j) = l + j := fun j j0 j1 => w32_id (by omega) (by omega)
  have I : ∀ j : Int, 0 ≤ j → j ≤ 6 → 0 ≤ l + j ∧ l + j < L := fun j j0 j1 => by omega
  have q1 : ¬ L - 7 < l := by omega
  have q2 : 0 ≤ l ∧ l < L := by omega
  have w0 : w32 (L - 7) = L - 7 := w32_id (by omega) (by omega)
  have c0 : 0 ≤ s (-1) 0 := by rw [h.2.2.2.2.2.2.2.1]; decide
  have g1 := sem_gd e1 c0
  have g2 := sem_gd e2 (Int.le_trans c0 g1.1)
  have f1 : s1 (-7) = s (-7) := funext g1.2.2
  refine ⟨s2, ?_, e3, fun i => (g2.2.2 i).trans (g1.2.2 i)⟩
  rw [e224_18, g_t (by decide), hL, w0, if_neg q1, g_t (by decide), g_t q2, hk, if_neg (by decide), if_neg (by decide), if_neg (by decide), if_neg (by decide), if_neg (by decide), if_neg (by decide), if_neg (by decide), if_neg (by decide), if_neg (by decide), if_neg (by decide), if_neg (by decide), if_neg (by decide), if_neg (by decide), if_neg (by decide), if_neg (by decide), if_neg (by decide), if_neg (by decide), if_neg (by decide), if_neg (by decide), if_neg (by decide), if_neg (by decide), if_neg (by decide), if_neg (by decide), if_neg (by decide), if_neg (by decide), if_neg (by decide), if_neg (by decide), if_neg (by decide), if_neg (by decide), if_neg (by decide), if_neg (by decide), if_neg (by decide), if_neg (by decide), if_pos rfl]
  rw [W 1 (by decide) (by decide), W 7 (by decide) (by decide)]
  rw [g_t (by decide), g_t (I 1 (by decide) (by decide)), g_t (by decide), e1, bnI_some]
  rw [f1, hL]
  rw [g_t (by decide), g_t (I 1 (by decide) (by decide)), g_t (by decide), e2, bnI_some, if_pos rfl]
set_option maxHeartbeats 4000000 in
theorem law_34 {s : SG} {L l : Int} (h : Inv s) (hL : s (-7) (-1) = L) (rL : L ≤ 3584) (l0 : 0 ≤ l) (l1 : l + 7 ≤ L) (hx : ∀ i, 0 ≤ i → -2147483648 ≤ s (-7) i ∧ s (-7) i < 2147483648) (hk : iandA (s (-7) l) 63 = 34) : ∃ s2, sem 224 18 [aA (-7), aA 0, aA 56, aI l] [] s = sem 224 18 [aA (-7), aA 0, aA 56, aI (l + 7)] [] s2 ∧ Inv s2 ∧ ∀ i, s2 (-7) i = s (-7) i := by
  obtain ⟨r, s1, s2, e1, e2, e3⟩ := q_again h ((s (-7) (l + 1)))
  have W : ∀ j : Int, 0 ≤ j → j ≤ 7 → w32 (l + j) = l + j := fun j j0 j1 => w32_id (by omega) (by omega)
  have I : ∀ j : Int, 0 ≤ j → j ≤ 6 → 0 ≤ l + j ∧ l + j < L := fun j j0 j1 => by omega
  have q1 : ¬ L - 7 < l := by omega
  have q2 : 0 ≤ l ∧ l < L := by omega
  have w0 : w32 (L - 7) = L - 7 := w32_id (by omega) (by omega)
  have c0 : 0 ≤ s (-1) 0 := by rw [h.2.2.2.2.2.2.2.1]; decide
  have g1 := sem_gd e1 c0
  have g2 := sem_gd e2 (Int.le_trans c0 g1.1)
  have f1 : s1 (-7) = s (-7) := funext g1.2.2
  refine ⟨s2, ?_, e3, fun i => (g2.2.2 i).trans (g1.2.2 i)⟩
  rw [e224_18, g_t (by decide), hL, w0, if_neg q1, g_t (by decide), g_t q2, hk, if_neg (by decide), if_neg (by decide), if_neg (by decide), if_neg (by decide), if_neg (by decide), if_neg (by decide), if_neg (by decide), if_neg (by decide), if_neg (by decide), if_neg (by decide), if_neg (by decide), if_neg (by decide), if_neg (by decide), if_neg (by decide), if_neg (by decide), if_neg (by decide), if_neg (by decide), if_neg (by decide), if_neg (by decide), if_neg (by decide), if_neg (by decide), if_neg (by decide), if_neg (by decide), if_neg (by decide), if_neg (by decide), if_neg (by decide), if_neg (by decide), if_neg (by decide), if_neg (by decide), if_neg (by decide), if_neg (by decide), if_neg (by decide), if_neg (by decide), if_neg (by decide), if_pos rfl]
  rw [W 1 (by decide) (by decide), W 7 (by decide) (by decide)]
  rw [g_t (by decide), g_t (I 1 (by decide) (by decide)), g_t (by decide), e1, bnI_some]
  rw [f1, hL]
  rw [g_t (by decide), g_t (I 1 (by decide) (by decide)), g_t (by decide), e2, bnI_some, if_pos rfl]
set_option maxHeartbeats 4000000 in
theorem law_35 {s : SG} {L l : Int} (h : Inv s) (hL : s (-7) (-1) = L) (rL : L ≤ 3584) (l0 : 0 ≤ l) (l1 : l + 7 ≤ L) (hx : ∀ i, 0 ≤ i → -2147483648 ≤ s (-7) i ∧ s (-7) i < 2147483648) (hk : iandA (s (-7) l) 63 = 35) : ∃ s2, sem 224 18 [aA (-7), aA 0, aA 56, aI l] [] s = sem 224 18 [aA (-7), aA 0, aA 56, aI (l + 7)] [] s2 ∧ Inv s2 ∧ ∀ i, s2 (-7) i = s (-7) i := by
  obtain ⟨r, e1, e2⟩ := q_count h ((s (-7) (l + 1)))
  have W : ∀ j : Int, 0 ≤ j → j ≤ 7 → w32 (l + j) = l + j := fun j j0 j1 => w32_id (by omega) (by omega)
  have I : ∀ j : Int, 0 ≤ j → j ≤ 6 → 0 ≤ l + j ∧ l + j < L := fun j j0 j1 => by omega
  have q1 : ¬ L - 7 < l := by omega
  have q2 : 0 ≤ l ∧ l < L := by omega
  have w0 : w32 (L - 7) = L - 7 := w32_id (by omega) (by omega)
  refine ⟨s, ?_, h, fun _ => rfl⟩
  rw [e224_18, g_t (by decide), hL, w0, if_neg q1, g_t (by decide), g_t q2, hk, if_neg (by decide), if_neg (by decide), if_neg (by decide), if_neg (by decide), if_neg (by decide), if_neg (by decide), if_neg (by decide), if_neg (by decide), if_neg (by decide), if_neg (by decide), if_neg (by decide), if_neg (by decide), if_neg (by decide), if_neg (by decide), if_neg (by decide), if_neg (by decide), if_neg (by decide), if_neg (by decide), if_neg (by decide), if_neg (by decide), if_neg (by decide), if_neg (by decide), if_neg (by decide), if_neg (by decide), if_neg (by decide), if_neg (by decide), if_neg (by decide), if_neg (by decide), if_neg (by decide), if_neg (by decide), if_neg (by decide), if_neg (by decide), if_neg (by decide), if_neg (by decide), if_neg (by decide), if_pos rfl]
  rw [W 1 (by decide) (by decide), W 7 (by decide) (by decide)]
  rw [g_t (by decide), g_t (I 1 (by decide) (by decide)), g_t (by decide), e1, bnI_some]
  (try rw [hL])
  rw [g_t (by decide), g_t (I 1 (by decide) (by decide)), g_t (by decide), e2, bnI_some, if_pos rfl]
theorem law_no {s : SG} {L l : Int} (hL : s (-7) (-1) = L) (rL : L ≤ 3584) (l0 : 0 ≤ l) (l1 : l + 7 ≤ L) (hk : ∀ k : Int, 0 ≤ k → k ≤ 35 → iandA (s (-7) l) 63 ≠ k) : sem 224 18 [aA (-7), aA 0, aA 56, aI l] [] s = sem 224 18 [aA (-7), aA 0, aA 56, aI (l + 7)] [] s := by
  have q1 : ¬ L - 7 < l := by omega
  have q2 : 0 ≤ l ∧ l < L := by omega
  have w0 : w32 (L - 7) = L - 7 := w32_id (by omega) (by omega)
  have w7 : w32 (l + 7) = l + 7 := by clear w0; exact w32_id (by omega) (by omega)
  rw [e224_18, g_t (by decide), hL, w0, if_neg q1, g_t (by decide), g_t q2, if_neg (hk 0 (by decide) (by decide)), if_neg (hk 1 (by decide) (by decide)), if_neg (hk 2 (by decide) (by decide)), if_neg (hk 3 (by decide) (by decide)), if_neg (hk 4 (by decide) (by decide)), if_neg (hk 5 (by decide) (by decide)), if_neg (hk 6 (by decide) (by decide)), if_neg (hk 7 (by decide) (by decide)), if_neg (hk 8 (by decide) (by decide)), if_neg (hk 9 (by decide) (by decide)), if_neg (hk 10 (by decide) (by decide)), if_neg (hk 11 (by decide) (by decide)), if_neg (hk 12 (by decide) (by decide)), if_neg (hk 13 (by decide) (by decide)), if_neg (hk 14 (by decide) (by decide)), if_neg (hk 15 (by decide) (by decide)), if_neg (hk 16 (by decide) (by decide)), if_neg (hk 17 (by decide) (by decide)), if_neg (hk 18 (by decide) (by decide)), if_neg (hk 19 (by decide) (by decide)), if_neg (hk 20 (by decide) (by decide)), if_neg (hk 21 (by decide) (by decide)), if_neg (hk 22 (by decide) (by decide)), if_neg (hk 23 (by decide) (by decide)), if_neg (hk 24 (by decide) (by decide)), if_neg (hk 25 (by decide) (by decide)), if_neg (hk 26 (by decide) (by decide)), if_neg (hk 27 (by decide) (by decide)), if_neg (hk 28 (by decide) (by decide)), if_neg (hk 29 (by decide) (by decide)), if_neg (hk 30 (by decide) (by decide)), if_neg (hk 31 (by decide) (by decide)), if_neg (hk 32 (by decide) (by decide)), if_neg (hk 33 (by decide) (by decide)), if_neg (hk 34 (by decide) (by decide)), if_neg (hk 35 (by decide) (by decide)), w7]
theorem law_step {s : SG} {L l : Int} (h : Inv s) (hL : s (-7) (-1) = L) (rL : L ≤ 3584) (l0 : 0 ≤ l) (l1 : l + 7 ≤ L) (hx : ∀ i, 0 ≤ i → -2147483648 ≤ s (-7) i ∧ s (-7) i < 2147483648) : ∃ s2, sem 224 18 [aA (-7), aA 0, aA 56, aI l] [] s = sem 224 18 [aA (-7), aA 0, aA 56, aI (l + 7)] [] s2 ∧ Inv s2 ∧ ∀ i, s2 (-7) i = s (-7) i := by
  by_cases k0 : iandA (s (-7) l) 63 = 0
  · exact law_0 h hL rL l0 l1 hx k0
  by_cases k1 : iandA (s (-7) l) 63 = 1
  · exact law_1 h hL rL l0 l1 hx k1
  by_cases k2 : iandA (s (-7) l) 63 = 2
  · exact law_2 h hL rL l0 l1 hx k2
  by_cases k3 : iandA (s (-7) l) 63 = 3
  · exact law_3 h hL rL l0 l1 hx k3
  by_cases k4 : iandA (s (-7) l) 63 = 4
  · exact law_4 h hL rL l0 l1 hx k4
  by_cases k5 : iandA (s (-7) l) 63 = 5
  · exact law_5 h hL rL l0 l1 hx k5
  by_cases k6 : iandA (s (-7) l) 63 = 6
  · exact law_6 h hL rL l0 l1 hx k6
  by_cases k7 : iandA (s (-7) l) 63 = 7
  · exact law_7 h hL rL l0 l1 hx k7
  by_cases k8 : iandA (s (-7) l) 63 = 8
  · exact law_8 h hL rL l0 l1 hx k8
  by_cases k9 : iandA (s (-7) l) 63 = 9
  · exact law_9 h hL rL l0 l1 hx k9
  by_cases k10 : iandA (s (-7) l) 63 = 10
  · exact law_10 h hL rL l0 l1 hx k10
  by_cases k11 : iandA (s (-7) l) 63 = 11
  · exact law_11 h hL rL l0 l1 hx k11
  by_cases k12 : iandA (s (-7) l) 63 = 12
  · exact law_12 h hL rL l0 l1 hx k12
  by_cases k13 : iandA (s (-7) l) 63 = 13
  · exact law_13 h hL rL l0 l1 hx k13
  by_cases k14 : iandA (s (-7) l) 63 = 14
  · exact law_14 h hL rL l0 l1 hx k14
  by_cases k15 : iandA (s (-7) l) 63 = 15
  · exact law_15 h hL rL l0 l1 hx k15
  by_cases k16 : iandA (s (-7) l) 63 = 16
  · exact law_16 h hL rL l0 l1 hx k16
  by_cases k17 : iandA (s (-7) l) 63 = 17
  · exact law_17 h hL rL l0 l1 hx k17
  by_cases k18 : iandA (s (-7) l) 63 = 18
  · exact law_18 h hL rL l0 l1 hx k18
  by_cases k19 : iandA (s (-7) l) 63 = 19
  · exact law_19 h hL rL l0 l1 hx k19
  by_cases k20 : iandA (s (-7) l) 63 = 20
  · exact law_20 h hL rL l0 l1 hx k20
  by_cases k21 : iandA (s (-7) l) 63 = 21
  · exact law_21 h hL rL l0 l1 hx k21
  by_cases k22 : iandA (s (-7) l) 63 = 22
  · exact law_22 h hL rL l0 l1 hx k22
  by_cases k23 : iandA (s (-7) l) 63 = 23
  · exact law_23 h hL rL l0 l1 hx k23
  by_cases k24 : iandA (s (-7) l) 63 = 24
  · exact law_24 h hL rL l0 l1 hx k24
  by_cases k25 : iandA (s (-7) l) 63 = 25
  · exact law_25 h hL rL l0 l1 hx k25
  by_cases k26 : iandA (s (-7) l) 63 = 26
  · exact law_26 h hL rL l0 l1 hx k26
  by_cases k27 : iandA (s (-7) l) 63 = 27
  · exact law_27 h hL rL l0 l1 hx k27
  by_cases k28 : iandA (s (-7) l) 63 = 28
  · exact law_28 h hL rL l0 l1 hx k28
  by_cases k29 : iandA (s (-7) l) 63 = 29
  · exact law_29 h hL rL l0 l1 hx k29
  by_cases k30 : iandA (s (-7) l) 63 = 30
  · exact law_30 h hL rL l0 l1 hx k30
  by_cases k31 : iandA (s (-7) l) 63 = 31
  · exact law_31 h hL rL l0 l1 hx k31
  by_cases k32 : iandA (s (-7) l) 63 = 32
  · exact law_32 h hL rL l0 l1 hx k32
  by_cases k33 : iandA (s (-7) l) 63 = 33
  · exact law_33 h hL rL l0 l1 hx k33
  by_cases k34 : iandA (s (-7) l) 63 = 34
  · exact law_34 h hL rL l0 l1 hx k34
  by_cases k35 : iandA (s (-7) l) 63 = 35
  · exact law_35 h hL rL l0 l1 hx k35
  refine ⟨s, law_no hL rL l0 l1 (fun k h0 h1 => ?_), h, fun _ => rfl⟩
  have : k = 0 ∨ k = 1 ∨ k = 2 ∨ k = 3 ∨ k = 4 ∨ k = 5 ∨ k = 6 ∨ k = 7 ∨ k = 8 ∨ k = 9 ∨ k = 10 ∨ k = 11 ∨ k = 12 ∨ k = 13 ∨ k = 14 ∨ k = 15 ∨ k = 16 ∨ k = 17 ∨ k = 18 ∨ k = 19 ∨ k = 20 ∨ k = 21 ∨ k = 22 ∨ k = 23 ∨ k = 24 ∨ k = 25 ∨ k = 26 ∨ k = 27 ∨ k = 28 ∨ k = 29 ∨ k = 30 ∨ k = 31 ∨ k = 32 ∨ k = 33 ∨ k = 34 ∨ k = 35 := by omega
  rcases this with rfl | rfl | rfl | rfl | rfl | rfl | rfl | rfl | rfl | rfl | rfl | rfl | rfl | rfl | rfl | rfl | rfl | rfl | rfl | rfl | rfl | rfl | rfl | rfl | rfl | rfl | rfl | rfl | rfl | rfl | rfl | rfl | rfl | rfl | rfl | rfl
  · exact k0
  · exact k1
  · exact k2
  · exact k3
  · exact k4
  · exact k5
  · exact k6
  · exact k7
  · exact k8
  · exact k9
  · exact k10
  · exact k11
  · exact k12
  · exact k13
  · exact k14
  · exact k15
  · exact k16
  · exact k17
  · exact k18
  · exact k19
  · exact k20
  · exact k21
  · exact k22
  · exact k23
  · exact k24
  · exact k25
  · exact k26
  · exact k27
  · exact k28
  · exact k29
  · exact k30
  · exact k31
  · exact k32
  · exact k33
  · exact k34
  · exact k35
theorem law_loop {L : Int} (rL : 0 ≤ L ∧ L ≤ 3584) : ∀ (m : Nat) (l : Int) (s : SG), L ≤ l + 7 * m + 6 → 0 ≤ l → l ≤ L → Inv s → s (-7) (-1) = L → (∀ i, 0 ≤ i → -2147483648 ≤ s (-7) i ∧ s (-7) i < 2147483648) → ∃ s', sem 224 18 [aA (-7), aA 0, aA 56, aI l] [] s = some (aI 1, s') ∧ Inv s' := by
  intro m
  induction m with
  | zero =>
    intro l s hl l0 l1 h hL hx
    have q1 : L - 7 < l := by omega
    have w0 : w32 (L - 7) = L - 7 := w32_id (by omega) (by omega)
    rw [e224_18, g_t (by decide), hL, w0, if_pos q1]
    exact ⟨s, rfl, h⟩
  | succ m ih =>
    intro l s hl l0 l1 h hL hx
    by_cases q : L - 7 < l
    · have w0 : w32 (L - 7) = L - 7 := w32_id (by omega) (by omega)
      rw [e224_18, g_t (by decide), hL, w0, if_pos q]
      exact ⟨s, rfl, h⟩
    · obtain ⟨s2, e1, e2, e3⟩ := law_step h hL rL.2 l0 (by omega) hx
      rw [e1]
      exact ih (l + 7) s2 (by omega) (by omega) (by omega) e2 (by rw [e3, hL]) (fun i i0 => by rw [e3]; exact hx i i0)
theorem law_am : LawAm := by
  intro L xs hL hx
  obtain ⟨t0, ht0⟩ : ∃ z, z = alc (sg0 L xs) (kl 0) (fun i => if fty 8 i.toNat = 2 then -1 else 0) := ⟨_, rfl⟩
  have z0 : sg0 L xs (-1) 0 = 0 := rfl
  have z1 : sg0 L xs (-1) 1 = 0 := rfl
  obtain ⟨a0, b0, -, d0⟩ := al_spec ht0 z0 (by decide)
  obtain ⟨s1, i1, i2, i3, i4, i5, i6, i7, i8, i9, i10⟩ := n_class (s := t0) a0
  obtain ⟨t1, ht1⟩ : ∃ z, z = alc s1 (kl 56) (fun i => if fty 9 i.toNat = 2 then -1 else 0) := ⟨_, rfl⟩
  obtain ⟨a1, b1, c1, d1⟩ := al_spec ht1 i2 (by decide)
  have hP : RefP t1 := by
    unfold RefP at i4 ⊢
    simp (disch := omega) only [d1]
    exact i4
  obtain ⟨s2, j1, j2, j3, j4, j5, j6, j7, j8, j9⟩ := n_ref (s := t1) a1 hP (by rw [c1]; rfl)
  have f : ∀ k i, 0 ≤ k → k < 56 → s2 k i = s1 k i := fun k i h0 h1 => by
    rw [j9 k i (by omega) (by omega), d1 k i (by omega) (by omega)]
  have f7 : ∀ i, s2 (-7) i = sg0 L xs (-7) i := fun i => by
    rw [j9 _ _ (by decide) (by decide), d1 _ _ (by decide) (by decide), i10 _ _ (by decide) (by decide), d0 _ _ (by decide) (by decide)]
  have hI : Inv s2 := n_inv j4 i5 i6 i7 i8 i9 f j2 (by rw [j3, b1, i3, b0, z1]; rfl) j5 j6 j7 j8
  obtain ⟨s', k1, k2⟩ := law_loop (L := (L : Int)) (by omega) L 0 s2 (by omega) (by decide) (by omega) hI (by rw [f7]; rfl) (fun i i0 => by
    rw [f7]
    show -2147483648 ≤ (if (-7 : Int) = -7 then (if i = -1 then (L : Int) else xs i.toNat) else 0) ∧ (if (-7 : Int) = -7 then (if i = -1 then (L : Int) else xs i.toNat) else 0) < 2147483648
    rw [if_pos rfl, if_neg (by omega)]
    exact hx _)
  refine ⟨s', ?_, ?_, ?_⟩
  · rw [e224_0, z0]
    rw [g_t (by decide), g_t (by decide), ← ht0, i1, bnV_some, i2, g_t (by decide), g_t (by decide), ← ht1, j1, bnV_some]
    exact k1
  · rw [k2.2.2.2.2.2.2.2.1]; decide
  · rw [k2.2.2.2.2.2.2.2.2]; decide

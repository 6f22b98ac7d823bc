theorem allS_rng {T : Int → Int} (hT : TRng T) : 3000000 ≤ allS T ∧ allS T ≤ 27000000 := by
  have a := hT.2.1 1 (by decide) (by decide)
  have b := hT.2.1 2 (by decide) (by decide)
  have c := hT.2.1 3 (by decide) (by decide)
  unfold allS
  omega
theorem Inv.tg {s : SG} (h : Inv s) : TRng (s 58) := h.2.1.2.2
theorem c_all {s : SG} (h : Inv s) : sem 167 0 [aA 56] [] s = some (aL (allS (s 58)), s) := by
  have a := h.tg.2.1 1 (by decide) (by decide)
  have b := h.tg.2.1 2 (by decide) (by decide)
  have c := h.tg.2.1 3 (by decide) (by decide)
  rw [g167_0 h.1, w32_id (a := s 58 1 + s 58 2) (by omega) (by omega), w32_id (by omega) (by omega), w64_id (by omega) (by omega)]
  rfl
theorem c_whole {s : SG} (h : Inv s) : sem 5 0 [aA 5] [] s = some (aL (allS (s 58)), s) := by
  rw [g5_0 h.1, h.2.2.2.1.1]
theorem c_holds {s : SG} (hR : RefC s) {c g : Int} (hc : 0 ≤ c ∧ c < 3) (hg : 0 ≤ g ∧ g ≤ 60) : sem 6 0 [aA 5, aI c, aI g] [] s = some (aI 1, s) := by
  rw [c_hold hR hc, if_pos hg]
theorem c_soldOf {s : SG} (h : Inv s) {c g : Int} (hc : 0 ≤ c ∧ c < s 58 0) (hg : 0 ≤ g ∧ g ≤ 60) : sem 7 0 [aA 5, aI c, aI g] [] s = some (aL (soldS (s 58) c g), s) := by
  have h3 := h.tg.1
  have w : w32 (w32 (c * 61) + g) = c * 61 + g := by rw [w32_id (a := c * 61) (by omega) (by omega), w32_id (by omega) (by omega)]
  rw [g7_0 h.1, c_holds h.1 (by omega) hg, bnI_some, if_neg (by decide), w, g_t (by omega), (h.2.2.2.1.2 c g hc.1 hc.2 hg.1 hg.2).2]
theorem c_outOf {s : SG} (h : Inv s) {c g : Int} (hc : 0 ≤ c ∧ c < s 58 0) (hg : 0 ≤ g ∧ g ≤ 60) : sem 8 0 [aA 5, aI c, aI g] [] s = some (aL (outS (s 58) c g), s) := by
  have h3 := h.tg.1
  have w : w32 (w32 (c * 61) + g) = c * 61 + g := by rw [w32_id (a := c * 61) (by omega) (by omega), w32_id (by omega) (by omega)]
  rw [g8_0 h.1, c_holds h.1 (by omega) hg, bnI_some, if_neg (by decide), w, g_t (by omega), (h.2.2.2.1.2 c g hc.1 hc.2 hg.1 hg.2).1]
theorem q_sold {s : SG} (h : Inv s) (c p f : Int) : ∃ r s1 s2, sem 109 0 [aA 0, aI c, aI p, aI f, aU] [] s = some (aL r, s1) ∧ sem 171 0 [aA 56, aI c, aI p, aI f] [] s1 = some (aL r, s2) ∧ Inv s2 := by
  have hR := h.1
  have h3 := h.tg.1
  by_cases q : 0 ≤ c ∧ c < s 58 0
  · by_cases q2 : 0 ≤ p ∧ p ≤ 60
    · have rs := soldS_r60 h.tg (c := c) (by omega) q2.1 q2.2
      have rw1 := allS_rng h.tg
      refine ⟨frac (soldS (s 58) c p) (allS (s 58)) f, s, s, ?_, ?_, h⟩
      · rw [g109_0 hR, c_refPapers h, if_pos q, if_pos q2, bnI_some, if_pos rfl, c_soldOf h q q2, bnL_some, c_whole h, bnL_some, c_fraction (by omega) (by omega), bnL_some]
      · rw [g171_0 hR, c_isCorner h, if_pos q, bnI_some, if_neg (by decide), c_in, if_pos q2, bnI_some, if_neg (by decide), c_meanP hR h.tg (by omega) q2, bnL_some, c_all h, bnL_some, mean_0, c_part (by omega) (by omega), bnL_some]
    · refine ⟨-2, s, s, ?_, ?_, h⟩
      · rw [g109_0 hR, c_refPapers h, if_pos q, if_neg q2, bnI_some, if_neg (by decide)]
      · rw [g171_0 hR, c_isCorner h, if_pos q, bnI_some, if_neg (by decide), c_in, if_neg q2, bnI_some, if_pos rfl]
  · refine ⟨-1, s, s, ?_, ?_, h⟩
    · rw [g109_0 hR, c_refPapers h, if_neg q, bnI_some, if_neg (by decide)]
    · rw [g171_0 hR, c_isCorner h, if_neg q, bnI_some, if_pos rfl]
theorem q_out {s : SG} (h : Inv s) (c p f : Int) : ∃ r s1 s2, sem 110 0 [aA 0, aI c, aI p, aI f, aU] [] s = some (aL r, s1) ∧ sem 172 0 [aA 56, aI c, aI p, aI f] [] s1 = some (aL r, s2) ∧ Inv s2 := by
  have hR := h.1
  have h3 := h.tg.1
  by_cases q : 0 ≤ c ∧ c < s 58 0
  · by_cases q2 : 0 ≤ p ∧ p ≤ 60
    · have rs := outS_rng h.tg (c := c) (g := p) (by omega)
      have rw1 := allS_rng h.tg
      refine ⟨frac (outS (s 58) c p) (allS (s 58)) f, s, s, ?_, ?_, h⟩
      · rw [g110_0 hR, c_refPapers h, if_pos q, if_pos q2, bnI_some, if_pos rfl, c_outOf h q q2, bnL_some, c_whole h, bnL_some, c_fraction (by omega) (by omega), bnL_some]
      · rw [g172_0 hR, c_isCorner h, if_pos q, bnI_some, if_neg (by decide), c_in, if_pos q2, bnI_some, if_neg (by decide), c_meanP hR h.tg (by omega) q2, bnL_some, c_all h, bnL_some, mean_1, c_part (by omega) (by omega), bnL_some]
    · refine ⟨-2, s, s, ?_, ?_, h⟩
      · rw [g110_0 hR, c_refPapers h, if_pos q, if_neg q2, bnI_some, if_neg (by decide)]
      · rw [g172_0 hR, c_isCorner h, if_pos q, bnI_some, if_neg (by decide), c_in, if_neg q2, bnI_some, if_pos rfl]
  · refine ⟨-1, s, s, ?_, ?_, h⟩
    · rw [g110_0 hR, c_refPapers h, if_neg q, bnI_some, if_neg (by decide)]
    · rw [g172_0 hR, c_isCorner h, if_neg q, bnI_some, if_pos rfl]

theorem Sc.k9 {s s' : SG} (h : ∀ q, q ≠ 9 → s' q = s q) : Sc s s' := fun k i hk => by
  unfold scr at hk
  rw [h k (by omega)]
theorem Sc.k61 {s s' : SG} (h : ∀ q, q ≠ 61 → s' q = s q) : Sc s s' := fun k i hk => by
  unfold scr at hk
  rw [h k (by omega)]
/-- nothing given yet, then m papers given, on the class's side -/
theorem c_giveC {s : SG} (h : Inv s) {n : Nat} (hn : s 58 0 = n) (p : Int) (hp : 0 ≤ p ∧ p ≤ 60) : ∃ s1 s', sem 13 0 [aA 5] [] s = some (aU, s1) ∧ sem 14 0 [aA 5, aA (s 0 9), aI p, aI (-9), aU] [] s1 = some (aU, s') ∧ (∀ q, q ≠ 9 → s' q = s q) ∧ ∀ x : Int, 0 ≤ x → x < n → s' 9 x = gv (s 58) (-1) n p.toNat (fun _ => 0) x := by
  have n3 := h.tg.1
  have k9 : kl 9 = 3 := rfl
  have ef := c_fill (k := 9) (v := 0) rfl (by decide) s
  have f1 : ∀ q, q ≠ 9 → fillS s 9 0 0 q = s q := fun q hq => funext fun i => by
    rw [fillS_app, if_neg (fun z => hq z.1)]
  have hI : Inv (fillS s 9 0 0) := h.sc (Sc.k9 f1)
  have z9 : ∀ x : Int, 0 ≤ x → x < n → fillS s 9 0 0 9 x = 0 := fun x x0 x1 => by
    rw [fillS_app, if_pos (by omega)]
  obtain ⟨s', b1, b2, b3⟩ := l_giveAll (but := -9) (p := p) (n := n) p.toNat 0 (fillS s 9 0 0) hI (by rw [f1 58 (by decide)]; exact hn) (by omega) (by decide) hp.2 (fun x x0 x1 => by rw [z9 x x0 x1]; omega)
  refine ⟨fillS s 9 0 0, s', ?_, ?_, fun q hq => by rw [b3 q hq, f1 q hq], fun x x0 x1 => ?_⟩
  · rw [g13_0 h.1, ef, bnV_some]
  · rw [g14_0 h.th hI.1]
    have e0 : fillS s 9 0 0 0 9 = s 0 9 := by rw [f1 0 (by decide)]
    rw [e0] at b1
    exact b1
  · rw [b2, f1 58 (by decide), gv_neg (s 58) (a := -9) (b := -1) (by decide) (by decide)]
    exact gv_cg (s 58) (-1) n p.toNat _ _ (fun y y0 y1 => z9 y y0 y1) x x0 x1
theorem c_give9 {s : SG} (hR : RefC s) (hT : TRng (s 58)) {n : Nat} (hn : s 58 0 = n) (p but : Int) (hp : 0 ≤ p ∧ p ≤ 60) : ∃ s', sem 173 0 [aA 56, aI p, aI but, aU, aU, aU, aU, aU, aU, aU] [] s = some (aU, s') ∧ (∀ q, q ≠ 61 → s' q = s q) ∧ ∀ x : Int, 0 ≤ x → x < n → s' 61 x = gv (s 58) but n p.toNat (fun _ => 0) x := by
  have n3 := hT.1
  obtain ⟨s1, a1, a2, a3, -, a5⟩ := l_clear61 (but := but) (p := p) 3 0 s (by decide) (by decide) hR
  have e58 : s1 58 = s 58 := a5 58 (by decide)
  obtain ⟨s', b1, b2, b3⟩ := l_give9 (but := but) (p := p) (n := n) p.toNat 0 s1 a2 (by rw [e58]; exact hT) (by rw [e58]; exact hn) (by omega) (by decide) hp.2 (fun x x0 x1 => by rw [a3 x x0 (by omega)]; omega)
  refine ⟨s', ?_, fun q hq => by rw [b3 q hq, a5 q hq], fun x x0 x1 => ?_⟩
  · rw [g173_0 hR]
    exact a1.trans b1
  · rw [b2, e58]
    exact gv_cg (s 58) but n p.toNat _ _ (fun y y0 y1 => a3 y y0 (by omega)) x x0 x1
theorem q_given {s : SG} (h : Inv s) (p c : Int) : ∃ r s1 s2, sem 111 0 [aA 0, aI p, aI c, aU] [] s = some (aI r, s1) ∧ sem 175 0 [aA 56, aI p, aI c] [] s1 = some (aI r, s2) ∧ Inv s2 := by
  have h3 := h.tg.1
  by_cases q : 0 ≤ c ∧ c < s 58 0
  · by_cases q2 : 0 ≤ p ∧ p ≤ 60
    · obtain ⟨n, hn⟩ : ∃ n : Nat, s 58 0 = n := ⟨(s 58 0).toNat, by omega⟩
      obtain ⟨s1, s2, a1, a2, a3, a4⟩ := c_giveC h hn p q2
      have hI : Inv s2 := h.sc (Sc.k9 a3)
      have e58 : s2 58 = s 58 := a3 58 (by decide)
      obtain ⟨s3, b1, b2, b3⟩ := c_give9 hI.1 (by rw [e58]; exact h.tg) (by rw [e58]; exact hn) p (-1) q2
      refine ⟨s2 9 c, s2, s3, ?_, ?_, hI.sc (Sc.k61 b2)⟩
      · rw [g111_0 h.th h.1 h.tw, c_refPapers h, if_pos q, if_pos q2, bnI_some, if_pos rfl, g9_0 h.th h.1, a1, bnV_some, a2, bnV_some, c_isRow, if_pos (by omega), bnI_some, if_neg (by decide), g_t (by omega), bnI_some]
      · rw [g175_0 hI.1, c_isCorner hI, e58, if_pos q, bnI_some, if_neg (by decide), c_in, if_pos q2, bnI_some, if_neg (by decide), b1, bnV_some, g_t (by omega), b3 c q.1 (by omega), a4 c q.1 (by omega), e58]
    · refine ⟨-2, s, s, ?_, ?_, h⟩
      · rw [g111_0 h.th h.1 h.tw, c_refPapers h, if_pos q, if_neg q2, bnI_some, if_neg (by decide)]
      · rw [g175_0 h.1, c_isCorner h, if_pos q, bnI_some, if_neg (by decide), c_in, if_neg q2, bnI_some, if_pos rfl]
  · refine ⟨-1, s, s, ?_, ?_, h⟩
    · rw [g111_0 h.th h.1 h.tw, c_refPapers h, if_neg q, bnI_some, if_neg (by decide)]
    · rw [g175_0 h.1, c_isCorner h, if_neg q, bnI_some, if_pos rfl]

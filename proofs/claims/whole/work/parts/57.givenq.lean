theorem Sc.k9 {s s' : SG} (h : ∀ q, q ≠ 9 → s' q = s q) : Sc s s' := fun k i hk => by
  unfold scr at hk
  rw [h k (by omega)]
theorem Sc.k61 {s s' : SG} (h : ∀ q, q ≠ 61 → s' q = s q) : Sc s s' := fun k i hk => by
  unfold scr at hk
  rw [h k (by omega)]
/-- nothing given yet, then m papers given, on the class's side -/
theorem c_giveC {s : SG} (h : Inv s) {n : Nat} (hn : s 58 0 = n) (p : Int) (hp : 0 ≤ p ∧ p ≤ 60) : ∃ s1 s', sem 13 0 [aA 5] [] s = some (aU, s1) ∧ sem 14 0 [aA 5, aA (s 0 9), aI p, aI (-9), aU] [] s1 = some (aU, s') ∧ (∀ q, q ≠ 9 → s' q = s q) ∧ ∀ x : Int, 0 ≤ x → x < n → s' 9 x = gv (s 58) (-1) n p.toNat (fun _ => 0) x := by
  have n3 := h.tg.1
  have k9 : kl 9 = 3 := rfl
  have ef := c_fill (k := 9) (v := 0) rfl (by decide) s
  have f1 : ∀ q, q ≠ 9 → fillS s 9 0 0 q = s q := fun q hq => funext fun i => by
    rw [fillS_app, if_neg (fun z => hq z.1)]
  have hI : Inv (fillS s 9 0 0) := h.sc (Sc.k9 f1)
  have z9 : ∀ x : Int, 0 ≤ x → x < n → fillS s 9 0 0 9 x = 0 := fun x x0 x1 => by
    rw [fillS_app, if_pos (by omega)]
  obtain ⟨s', b1, b2, b3⟩ := l_giveAll (but := -9) (p := p) (n := n) p.toNat 0 (fillS s 9 0 0) hI (by rw [f1 58 (by decide)]; exact hn) (by omega) (by decide) hp.2 (fun x x0 x1 => by rw [z9 x x0 x1]; omega)
  refine ⟨fillS s 9 0 0, s', ?_, ?_, fun q hq => by rw [b3 q hq, f1 q hq], fun x x0 x1 => ?_⟩
  · rw [g13_0 h.1, ef, bnV_some]
  · rw [g14_0 h.th hI.1]
    have e0 : fillS s 9 0 0 0 9 = s 0 9 := by rw [f1 0 (by decide)]
    rw [e0] at b1
    exact b1
  · rw [b2, f1 58 (by decide), gv_neg (s 58) (a := -9) (b := -1) (by decide) (by decide)]
    exact gv_cg (s 58) (-1) n p.toNat _ _ (fun y y0 y1 => z9 y y0 y1) x x0 x1

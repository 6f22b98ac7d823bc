theorem c_hasC {s : SG} (h : Inv s) (c : Int) : sem 83 0 [aA (s 0 9), aI c] [] s = some (aI (if 0 ≤ c ∧ c < s 58 0 then 1 else 0), s) := by
  obtain ⟨t1, t3, t4⟩ := h.2.1
  have hk : kd (s 0 9) = 6 := by rcases t1 with t | t <;> (rw [t.1]; rfl)
  have h4 : s (s 0 9) 4 = s 58 0 := t3 0 (by decide) (by decide)
  rw [c_hasCorner _ _ _ hk, h4]
  have := t4.1
  congr 3
  by_cases q : 0 ≤ c ∧ c < s 58 0
  · rw [if_pos q, if_pos ⟨q.1, q.2, by omega⟩]
  · rw [if_neg q, if_neg (fun z => q ⟨z.1, z.2.1⟩)]

/-! the class's constructor -/
def T0 (i : Int) : Int := if i = 0 then 1 else dflt i
theorem T0_rng : TRng T0 := by
  refine ⟨by decide, fun i h0 h1 => ?_, fun i h0 h1 => ?_, fun i h0 h1 => ?_, fun i h0 h1 => ?_, fun i h0 h1 => ?_⟩
  · unfold T0 dflt
    repeat' split
    all_goals omega
  · unfold T0 dflt
    repeat' split
    all_goals omega
  · have e : T0 i = -9 := by
      unfold T0 dflt
      rw [if_neg (by omega), if_neg (by omega), if_neg (by omega), if_neg (by omega), if_neg (by omega), if_neg (by omega), if_pos (by omega)]
    exact Or.inl e
  · unfold T0 dflt
    repeat' split
    all_goals omega
  · unfold T0 dflt
    repeat' split
    all_goals omega
set_option maxHeartbeats 16000000 in
theorem n_class {s : SG} (h0 : s (-1) 0 = 1) : ∃ s', sem 102 0 [aA 0, aU] [] s = some (aU, s') ∧ s' (-1) 0 = 56 ∧ s' (-1) 1 = s (-1) 1 + 5161 ∧ RefP s' ∧ (s' 0 9 = 32 ∧ s' 0 10 = 37) ∧ (∀ i, 0 ≤ i → i < 28 → tv s' 32 i = T0 i) ∧ (s' 1 1 = 0 ∧ s' 10 2 = 0 ∧ s' 16 6 = 0 ∧ s' 16 7 = 0 ∧ s' 16 8 = 0 ∧ s' 16 9 = 0 ∧ s' 16 10 = 0) ∧ (s' 5 4 = allS T0 ∧ ∀ b i, 0 ≤ b → b < T0 0 → 0 ≤ i → i ≤ 60 → s' 7 (61 * b + i) = outS T0 b i ∧ s' 6 (61 * b + i) = soldS T0 b i) ∧ ((∀ c, 0 ≤ c → c < 3 → s' 17 c = 0 ∧ s' 18 c = 5 ∧ s' 19 c = 0) ∧ (∀ i, 0 ≤ i → i < 6 → s' 20 i = 0 ∧ s' 21 i = 0 ∧ s' 22 i = 0) ∧ ∀ i, 0 ≤ i → i < 2 → s' 31 i = 0) ∧ ∀ k i, k ≠ -1 → ¬ (0 ≤ k ∧ k < 56) → s' k i = s k i := by
  obtain ⟨t1, ht1⟩ : ∃ z, z = alc s (kl 1) (fun i => if fty 5 i.toNat = 2 then -1 else 0) := ⟨_, rfl⟩
  obtain ⟨a1, b1, -, d1⟩ := al_spec ht1 h0 (by decide)
  obtain ⟨v1, x1, y1, z1, wf1, q1⟩ := n_text (s := t1) a1
  obtain ⟨u1, hu1⟩ : ∃ z, z = up v1 0 0 1 := ⟨_, rfl⟩
  obtain ⟨e1, f1⟩ := up_spec hu1
  have k1 : u1 (-1) 0 = 3 := by rw [f1 _ _ (by decide)]; exact y1
  obtain ⟨t3, ht3⟩ : ∃ z, z = alc u1 (kl 3) (fun i => if fty 2 i.toNat = 2 then -1 else 0) := ⟨_, rfl⟩
  obtain ⟨a3, b3, -, d3⟩ := al_spec ht3 k1 (by decide)
  obtain ⟨v3, x3, y3, z3, wf3, q3⟩ := n_reader (s := t3) a3
  obtain ⟨u3, hu3⟩ : ∃ z, z = up v3 0 1 3 := ⟨_, rfl⟩
  obtain ⟨e3, f3⟩ := up_spec hu3
  have k3 : u3 (-1) 0 = 5 := by rw [f3 _ _ (by decide)]; exact y3
  obtain ⟨t5, ht5⟩ : ∃ z, z = alc u3 (kl 5) (fun i => if fty 0 i.toNat = 2 then -1 else 0) := ⟨_, rfl⟩
  obtain ⟨a5, b5, -, d5⟩ := al_spec ht5 k3 (by decide)
  obtain ⟨v5, x5, y5, z5, wf5, q5⟩ := n_apart (s := t5) a5
  obtain ⟨u5, hu5⟩ : ∃ z, z = up v5 0 2 5 := ⟨_, rfl⟩
  obtain ⟨e5, f5⟩ := up_spec hu5
  have k5 : u5 (-1) 0 = 10 := by rw [f5 _ _ (by decide)]; exact y5
  obtain ⟨t10, ht10⟩ : ∃ z, z = alc u5 (kl 10) (fun i => if fty 4 i.toNat = 2 then -1 else 0) := ⟨_, rfl⟩
  obtain ⟨a10, b10, -, d10⟩ := al_spec ht10 k5 (by decide)
  obtain ⟨v10, x10, y10, z10, wf10, q10⟩ := n_sights (s := t10) a10
  obtain ⟨u10, hu10⟩ : ∃ z, z = up v10 0 3 10 := ⟨_, rfl⟩
  obtain ⟨e10, f10⟩ := up_spec hu10
  have k10 : u10 (-1) 0 = 13 := by rw [f10 _ _ (by decide)]; exact y10
  obtain ⟨t13, ht13⟩ : ∃ z, z = alc u10 (kl 13) (fun i => if fty 7 i.toNat = 2 then -1 else 0) := ⟨_, rfl⟩
  obtain ⟨a13, b13, -, d13⟩ := al_spec ht13 k10 (by decide)
  obtain ⟨v13, x13, y13, z13, wf13, q13⟩ := n_plan (s := t13) a13
  obtain ⟨u13, hu13⟩ : ∃ z, z = up v13 0 4 13 := ⟨_, rfl⟩
  obtain ⟨e13, f13⟩ := up_spec hu13
  have k13 : u13 (-1) 0 = 16 := by rw [f13 _ _ (by decide)]; exact y13
  obtain ⟨t16, ht16⟩ : ∃ z, z = alc u13 (kl 16) (fun i => if fty 1 i.toNat = 2 then -1 else 0) := ⟨_, rfl⟩
  have r0 : sem 102 0 [aA 0, aU] [] s = sem 102 63 [aA 0, aU] [aA 16, aA 0] t16 := by
    rw [e102_0, h0]
    repeat rw [g_t (by decide)]
    rw [← ht1, x1, bnV_some]
    repeat rw [g_t (by decide)]
    rw [← hu1, k1]
    repeat rw [g_t (by decide)]
    rw [← ht3, x3, bnV_some]
    repeat rw [g_t (by decide)]
    rw [← hu3, k3]
    repeat rw [g_t (by decide)]
    rw [← ht5, x5, bnV_some]
    repeat rw [g_t (by decide)]
    rw [← hu5, k5]
    repeat rw [g_t (by decide)]
    rw [← ht10, x10, bnV_some]
    repeat rw [g_t (by decide)]
    rw [← hu10, k10]
    repeat rw [g_t (by decide)]
    rw [← ht13, x13, bnV_some]
    repeat rw [g_t (by decide)]
    rw [← hu13, k13]
    repeat rw [g_t (by decide)]
    rw [← ht16]
  obtain ⟨a16, b16, -, d16⟩ := al_spec ht16 k13 (by decide)
  obtain ⟨v16, x16, y16, z16, wf16, q16⟩ := n_morn16 (s := t16) a16
  obtain ⟨u16, hu16⟩ : ∃ z, z = up v16 0 5 16 := ⟨_, rfl⟩
  obtain ⟨e16, f16⟩ := up_spec hu16
  have k16 : u16 (-1) 0 = 23 := by rw [f16 _ _ (by decide)]; exact y16
  obtain ⟨t23, ht23⟩ : ∃ z, z = alc u16 (kl 23) (fun i => if fty 3 i.toNat = 2 then -1 else 0) := ⟨_, rfl⟩
  obtain ⟨a23, b23, -, d23⟩ := al_spec ht23 k16 (by decide)
  obtain ⟨v23, x23, y23, z23, wf23, q23⟩ := n_run (s := t23) a23
  obtain ⟨u23, hu23⟩ : ∃ z, z = up v23 0 6 23 := ⟨_, rfl⟩
  obtain ⟨e23, f23⟩ := up_spec hu23
  have k23 : u23 (-1) 0 = 30 := by rw [f23 _ _ (by decide)]; exact y23
  obtain ⟨t30, ht30⟩ : ∃ z, z = alc u23 2 (fun _ => -1) := ⟨_, rfl⟩
  obtain ⟨a30, b30, c30, d30⟩ := al_spec ht30 k23 (by decide)
  obtain ⟨u30, hu30⟩ : ∃ z, z = up t30 0 7 30 := ⟨_, rfl⟩
  obtain ⟨e30, f30⟩ := up_spec hu30
  have k30 : u30 (-1) 0 = 31 := by rw [f30 _ _ (by decide)]; exact a30
  obtain ⟨t31, ht31⟩ : ∃ z, z = alc u30 2 (fun _ => 0) := ⟨_, rfl⟩
  obtain ⟨a31, b31, c31, d31⟩ := al_spec ht31 k30 (by decide)
  obtain ⟨u31, hu31⟩ : ∃ z, z = up t31 0 8 31 := ⟨_, rfl⟩
  obtain ⟨e31, f31⟩ := up_spec hu31
  have k31 : u31 (-1) 0 = 32 := by rw [f31 _ _ (by decide)]; exact a31
  have r1 : sem 102 63 [aA 0, aU] [aA 16, aA 0] t16 = sem 102 96 [aA 0, aU] [] u31 := by
    rw [e102_63]
    repeat rw [g_t (by decide)]
    rw [x16, bnV_some]
    repeat rw [g_t (by decide)]
    rw [← hu16, k16]
    repeat rw [g_t (by decide)]
    rw [← ht23, x23, bnV_some]
    repeat rw [g_t (by decide)]
    rw [← hu23, k23]
    rw [← ht30, ← hu30, k30]
    rw [← ht31, ← hu31]
    repeat rw [g_t (by decide)]
  obtain ⟨t32, ht32⟩ : ∃ z, z = alc u31 (kl 32) (fun i => if fty 6 i.toNat = 2 then -1 else 0) := ⟨_, rfl⟩
  obtain ⟨a32, b32, -, d32⟩ := al_spec ht32 k31 (by decide)
  obtain ⟨v32, x32, y32, z32, wf32, q32⟩ := n_town32 (s := t32) a32
  obtain ⟨u32, hu32⟩ : ∃ z, z = up v32 0 9 32 := ⟨_, rfl⟩
  obtain ⟨e32, f32⟩ := up_spec hu32
  have k32 : u32 (-1) 0 = 37 := by rw [f32 _ _ (by decide)]; exact y32
  obtain ⟨t37, ht37⟩ : ∃ z, z = alc u32 (kl 37) (fun i => if fty 6 i.toNat = 2 then -1 else 0) := ⟨_, rfl⟩
  obtain ⟨a37, b37, -, d37⟩ := al_spec ht37 k32 (by decide)
  obtain ⟨v37, x37, y37, z37, wf37, q37⟩ := n_town37 (s := t37) a37
  obtain ⟨u37, hu37⟩ : ∃ z, z = up v37 0 10 37 := ⟨_, rfl⟩
  obtain ⟨e37, f37⟩ := up_spec hu37
  have k37 : u37 (-1) 0 = 42 := by rw [f37 _ _ (by decide)]; exact y37
  have r2 : sem 102 96 [aA 0, aU] [] u31 = sem 102 120 [aA 0, aI 0] [] u37 := by
    rw [e102_96, k31]
    repeat rw [g_t (by decide)]
    rw [← ht32, x32, bnV_some]
    repeat rw [g_t (by decide)]
    rw [← hu32, k32]
    repeat rw [g_t (by decide)]
    rw [← ht37, x37, bnV_some]
    repeat rw [g_t (by decide)]
    rw [← hu37]
  obtain ⟨t42, ht42⟩ : ∃ z, z = alc u37 (kl 42) (fun i => if fty 1 i.toNat = 2 then -1 else 0) := ⟨_, rfl⟩
  obtain ⟨a42, b42, -, d42⟩ := al_spec ht42 k37 (by decide)
  obtain ⟨v42, x42, y42, z42, wf42, q42⟩ := n_morn42 (s := t42) a42
  obtain ⟨u42, hu42⟩ : ∃ z, z = up v42 30 0 42 := ⟨_, rfl⟩
  obtain ⟨e42, f42⟩ := up_spec hu42
  have k42 : u42 (-1) 0 = 49 := by rw [f42 _ _ (by decide)]; exact y42
  have o42 : u37 0 7 = 30 := by simp (disch := omega) only [f37, e37, q37, wf37, z37, d37, b37, f32, e32, q32, wf32, z32, d32, b32, f31, e31, d31, c31, b31, f30, e30, d30, c30, b30, f23, e23, q23, wf23, z23, d23, b23, f16, e16, q16, wf16, z16, d16, b16, f13, e13, q13, wf13, z13, d13, b13, f10, e10, q10, wf10, z10, d10, b10, f5, e5, q5, wf5, z5, d5, b5, f3, e3, q3, wf3, z3, d3, b3, f1, e1, q1, wf1, z1, d1, b1]
  have r42 : sem 102 120 [aA 0, aI 0] [] u37 = sem 102 120 [aA 0, aI 1] [] u42 := by
    rw [e102_120, if_pos (by decide), o42, k37]
    repeat rw [g_t (by decide)]
    rw [← ht42, x42, bnV_some]
    repeat rw [g_t (by decide)]
    rw [← hu42, show w32 (0 + 1) = 1 from rfl]
  obtain ⟨t49, ht49⟩ : ∃ z, z = alc u42 (kl 49) (fun i => if fty 1 i.toNat = 2 then -1 else 0) := ⟨_, rfl⟩
  obtain ⟨a49, b49, -, d49⟩ := al_spec ht49 k42 (by decide)
  obtain ⟨v49, x49, y49, z49, wf49, q49⟩ := n_morn49 (s := t49) a49
  obtain ⟨u49, hu49⟩ : ∃ z, z = up v49 30 1 49 := ⟨_, rfl⟩
  obtain ⟨e49, f49⟩ := up_spec hu49
  have k49 : u49 (-1) 0 = 56 := by rw [f49 _ _ (by decide)]; exact y49
  have o49 : u42 0 7 = 30 := by simp (disch := omega) only [f42, e42, q42, wf42, z42, d42, b42, f37, e37, q37, wf37, z37, d37, b37, f32, e32, q32, wf32, z32, d32, b32, f31, e31, d31, c31, b31, f30, e30, d30, c30, b30, f23, e23, q23, wf23, z23, d23, b23, f16, e16, q16, wf16, z16, d16, b16, f13, e13, q13, wf13, z13, d13, b13, f10, e10, q10, wf10, z10, d10, b10, f5, e5, q5, wf5, z5, d5, b5, f3, e3, q3, wf3, z3, d3, b3, f1, e1, q1, wf1, z1, d1, b1]
  have r49 : sem 102 120 [aA 0, aI 1] [] u42 = sem 102 120 [aA 0, aI 2] [] u49 := by
    rw [e102_120, if_pos (by decide), o49, k42]
    repeat rw [g_t (by decide)]
    rw [← ht49, x49, bnV_some]
    repeat rw [g_t (by decide)]
    rw [← hu49, show w32 (1 + 1) = 2 from rfl]
  have hP : RefP u49 := by
    unfold RefP
    simp (disch := omega) only [f49, e49, q49, wf49, z49, d49, b49, f42, e42, q42, wf42, z42, d42, b42, f37, e37, q37, wf37, z37, d37, b37, f32, e32, q32, wf32, z32, d32, b32, f31, e31, d31, c31, b31, f30, e30, d30, c30, b30, f23, e23, q23, wf23, z23, d23, b23, f16, e16, q16, wf16, z16, d16, b16, f13, e13, q13, wf13, z13, d13, b13, f10, e10, q10, wf10, z10, d10, b10, f5, e5, q5, wf5, z5, d5, b5, f3, e3, q3, wf3, z3, d3, b3, f1, e1, q1, wf1, z1, d1, b1, and_self]
  have g32 : u49 32 4 = 1 ∧ u49 32 5 = 10 ∧ u49 32 6 = 20 ∧ u49 32 7 = 5 := by
    simp (disch := omega) only [f49, e49, q49, wf49, z49, d49, b49, f42, e42, q42, wf42, z42, d42, b42, f37, e37, q37, wf37, z37, d37, b37, f32, e32, q32, wf32, z32, d32, b32, f31, e31, d31, c31, b31, f30, e30, d30, c30, b30, f23, e23, q23, wf23, z23, d23, b23, f16, e16, q16, wf16, z16, d16, b16, f13, e13, q13, wf13, z13, d13, b13, f10, e10, q10, wf10, z10, d10, b10, f5, e5, q5, wf5, z5, d5, b5, f3, e3, q3, wf3, z3, d3, b3, f1, e1, q1, wf1, z1, d1, b1, and_self]
  have g33 : ∀ i, 0 ≤ i → i < 3 → u49 33 i = 1 := fun i i0 i1 => by
    simp (disch := omega) only [f49, e49, q49, wf49, z49, d49, b49, f42, e42, q42, wf42, z42, d42, b42, f37, e37, q37, wf37, z37, d37, b37, f32, e32, q32, wf32, z32, d32, b32, f31, e31, d31, c31, b31, f30, e30, d30, c30, b30, f23, e23, q23, wf23, z23, d23, b23, f16, e16, q16, wf16, z16, d16, b16, f13, e13, q13, wf13, z13, d13, b13, f10, e10, q10, wf10, z10, d10, b10, f5, e5, q5, wf5, z5, d5, b5, f3, e3, q3, wf3, z3, d3, b3, f1, e1, q1, wf1, z1, d1, b1]
  have g34 : ∀ i, 0 ≤ i → i < 9 → u49 34 i = 1 := fun i i0 i1 => by
    simp (disch := omega) only [f49, e49, q49, wf49, z49, d49, b49, f42, e42, q42, wf42, z42, d42, b42, f37, e37, q37, wf37, z37, d37, b37, f32, e32, q32, wf32, z32, d32, b32, f31, e31, d31, c31, b31, f30, e30, d30, c30, b30, f23, e23, q23, wf23, z23, d23, b23, f16, e16, q16, wf16, z16, d16, b16, f13, e13, q13, wf13, z13, d13, b13, f10, e10, q10, wf10, z10, d10, b10, f5, e5, q5, wf5, z5, d5, b5, f3, e3, q3, wf3, z3, d3, b3, f1, e1, q1, wf1, z1, d1, b1]
  have g35 : ∀ i, 0 ≤ i → i < 9 → u49 35 i = 5 := fun i i0 i1 => by
    simp (disch := omega) only [f49, e49, q49, wf49, z49, d49, b49, f42, e42, q42, wf42, z42, d42, b42, f37, e37, q37, wf37, z37, d37, b37, f32, e32, q32, wf32, z32, d32, b32, f31, e31, d31, c31, b31, f30, e30, d30, c30, b30, f23, e23, q23, wf23, z23, d23, b23, f16, e16, q16, wf16, z16, d16, b16, f13, e13, q13, wf13, z13, d13, b13, f10, e10, q10, wf10, z10, d10, b10, f5, e5, q5, wf5, z5, d5, b5, f3, e3, q3, wf3, z3, d3, b3, f1, e1, q1, wf1, z1, d1, b1]
  have g36 : ∀ i, 0 ≤ i → i < 3 → u49 36 i = -9 := fun i i0 i1 => by
    simp (disch := omega) only [f49, e49, q49, wf49, z49, d49, b49, f42, e42, q42, wf42, z42, d42, b42, f37, e37, q37, wf37, z37, d37, b37, f32, e32, q32, wf32, z32, d32, b32, f31, e31, d31, c31, b31, f30, e30, d30, c30, b30, f23, e23, q23, wf23, z23, d23, b23, f16, e16, q16, wf16, z16, d16, b16, f13, e13, q13, wf13, z13, d13, b13, f10, e10, q10, wf10, z10, d10, b10, f5, e5, q5, wf5, z5, d5, b5, f3, e3, q3, wf3, z3, d3, b3, f1, e1, q1, wf1, z1, d1, b1]
  have g17 : ∀ i, 0 ≤ i → i < 3 → u49 17 i = 0 := fun i i0 i1 => by
    simp (disch := omega) only [f49, e49, q49, wf49, z49, d49, b49, f42, e42, q42, wf42, z42, d42, b42, f37, e37, q37, wf37, z37, d37, b37, f32, e32, q32, wf32, z32, d32, b32, f31, e31, d31, c31, b31, f30, e30, d30, c30, b30, f23, e23, q23, wf23, z23, d23, b23, f16, e16, q16, wf16, z16, d16, b16, f13, e13, q13, wf13, z13, d13, b13, f10, e10, q10, wf10, z10, d10, b10, f5, e5, q5, wf5, z5, d5, b5, f3, e3, q3, wf3, z3, d3, b3, f1, e1, q1, wf1, z1, d1, b1]
  have g18 : ∀ i, 0 ≤ i → i < 3 → u49 18 i = 5 := fun i i0 i1 => by
    simp (disch := omega) only [f49, e49, q49, wf49, z49, d49, b49, f42, e42, q42, wf42, z42, d42, b42, f37, e37, q37, wf37, z37, d37, b37, f32, e32, q32, wf32, z32, d32, b32, f31, e31, d31, c31, b31, f30, e30, d30, c30, b30, f23, e23, q23, wf23, z23, d23, b23, f16, e16, q16, wf16, z16, d16, b16, f13, e13, q13, wf13, z13, d13, b13, f10, e10, q10, wf10, z10, d10, b10, f5, e5, q5, wf5, z5, d5, b5, f3, e3, q3, wf3, z3, d3, b3, f1, e1, q1, wf1, z1, d1, b1]
  have g19 : ∀ i, 0 ≤ i → i < 3 → u49 19 i = 0 := fun i i0 i1 => by
    simp (disch := omega) only [f49, e49, q49, wf49, z49, d49, b49, f42, e42, q42, wf42, z42, d42, b42, f37, e37, q37, wf37, z37, d37, b37, f32, e32, q32, wf32, z32, d32, b32, f31, e31, d31, c31, b31, f30, e30, d30, c30, b30, f23, e23, q23, wf23, z23, d23, b23, f16, e16, q16, wf16, z16, d16, b16, f13, e13, q13, wf13, z13, d13, b13, f10, e10, q10, wf10, z10, d10, b10, f5, e5, q5, wf5, z5, d5, b5, f3, e3, q3, wf3, z3, d3, b3, f1, e1, q1, wf1, z1, d1, b1]
  have g20 : ∀ i, 0 ≤ i → i < 6 → u49 20 i = 0 := fun i i0 i1 => by
    simp (disch := omega) only [f49, e49, q49, wf49, z49, d49, b49, f42, e42, q42, wf42, z42, d42, b42, f37, e37, q37, wf37, z37, d37, b37, f32, e32, q32, wf32, z32, d32, b32, f31, e31, d31, c31, b31, f30, e30, d30, c30, b30, f23, e23, q23, wf23, z23, d23, b23, f16, e16, q16, wf16, z16, d16, b16, f13, e13, q13, wf13, z13, d13, b13, f10, e10, q10, wf10, z10, d10, b10, f5, e5, q5, wf5, z5, d5, b5, f3, e3, q3, wf3, z3, d3, b3, f1, e1, q1, wf1, z1, d1, b1]
  have g21 : ∀ i, 0 ≤ i → i < 6 → u49 21 i = 0 := fun i i0 i1 => by
    simp (disch := omega) only [f49, e49, q49, wf49, z49, d49, b49, f42, e42, q42, wf42, z42, d42, b42, f37, e37, q37, wf37, z37, d37, b37, f32, e32, q32, wf32, z32, d32, b32, f31, e31, d31, c31, b31, f30, e30, d30, c30, b30, f23, e23, q23, wf23, z23, d23, b23, f16, e16, q16, wf16, z16, d16, b16, f13, e13, q13, wf13, z13, d13, b13, f10, e10, q10, wf10, z10, d10, b10, f5, e5, q5, wf5, z5, d5, b5, f3, e3, q3, wf3, z3, d3, b3, f1, e1, q1, wf1, z1, d1, b1]
  have g22 : ∀ i, 0 ≤ i → i < 6 → u49 22 i = 0 := fun i i0 i1 => by
    simp (disch := omega) only [f49, e49, q49, wf49, z49, d49, b49, f42, e42, q42, wf42, z42, d42, b42, f37, e37, q37, wf37, z37, d37, b37, f32, e32, q32, wf32, z32, d32, b32, f31, e31, d31, c31, b31, f30, e30, d30, c30, b30, f23, e23, q23, wf23, z23, d23, b23, f16, e16, q16, wf16, z16, d16, b16, f13, e13, q13, wf13, z13, d13, b13, f10, e10, q10, wf10, z10, d10, b10, f5, e5, q5, wf5, z5, d5, b5, f3, e3, q3, wf3, z3, d3, b3, f1, e1, q1, wf1, z1, d1, b1]
  have g31 : ∀ i, 0 ≤ i → i < 2 → u49 31 i = 0 := fun i i0 i1 => by
    simp (disch := omega) only [f49, e49, q49, wf49, z49, d49, b49, f42, e42, q42, wf42, z42, d42, b42, f37, e37, q37, wf37, z37, d37, b37, f32, e32, q32, wf32, z32, d32, b32, f31, e31, d31, c31, b31, f30, e30, d30, c30, b30, f23, e23, q23, wf23, z23, d23, b23, f16, e16, q16, wf16, z16, d16, b16, f13, e13, q13, wf13, z13, d13, b13, f10, e10, q10, wf10, z10, d10, b10, f5, e5, q5, wf5, z5, d5, b5, f3, e3, q3, wf3, z3, d3, b3, f1, e1, q1, wf1, z1, d1, b1]
  have gm : u49 1 1 = 0 ∧ u49 10 2 = 0 ∧ u49 16 6 = 0 ∧ u49 16 7 = 0 ∧ u49 16 8 = 0 ∧ u49 16 9 = 0 ∧ u49 16 10 = 0 := by
    simp (disch := omega) only [f49, e49, q49, wf49, z49, d49, b49, f42, e42, q42, wf42, z42, d42, b42, f37, e37, q37, wf37, z37, d37, b37, f32, e32, q32, wf32, z32, d32, b32, f31, e31, d31, c31, b31, f30, e30, d30, c30, b30, f23, e23, q23, wf23, z23, d23, b23, f16, e16, q16, wf16, z16, d16, b16, f13, e13, q13, wf13, z13, d13, b13, f10, e10, q10, wf10, z10, d10, b10, f5, e5, q5, wf5, z5, d5, b5, f3, e3, q3, wf3, z3, d3, b3, f1, e1, q1, wf1, z1, d1, b1, and_self]
  have g0 : u49 0 9 = 32 ∧ u49 0 10 = 37 := by
    simp (disch := omega) only [f49, e49, q49, wf49, z49, d49, b49, f42, e42, q42, wf42, z42, d42, b42, f37, e37, q37, wf37, z37, d37, b37, f32, e32, q32, wf32, z32, d32, b32, f31, e31, d31, c31, b31, f30, e30, d30, c30, b30, f23, e23, q23, wf23, z23, d23, b23, f16, e16, q16, wf16, z16, d16, b16, f13, e13, q13, wf13, z13, d13, b13, f10, e10, q10, wf10, z10, d10, b10, f5, e5, q5, wf5, z5, d5, b5, f3, e3, q3, wf3, z3, d3, b3, f1, e1, q1, wf1, z1, d1, b1, and_self]
  have gs : u49 (-1) 1 = s (-1) 1 + 5161 := by
    simp (disch := omega) only [f49, e49, q49, wf49, z49, d49, b49, f42, e42, q42, wf42, z42, d42, b42, f37, e37, q37, wf37, z37, d37, b37, f32, e32, q32, wf32, z32, d32, b32, f31, e31, d31, c31, b31, f30, e30, d30, c30, b30, f23, e23, q23, wf23, z23, d23, b23, f16, e16, q16, wf16, z16, d16, b16, f13, e13, q13, wf13, z13, d13, b13, f10, e10, q10, wf10, z10, d10, b10, f5, e5, q5, wf5, z5, d5, b5, f3, e3, q3, wf3, z3, d3, b3, f1, e1, q1, wf1, z1, d1, b1, kls]
    try omega
  have gf : ∀ k i, k ≠ -1 → ¬ (0 ≤ k ∧ k < 56) → u49 k i = s k i := fun k i h1 h2 => by
    simp (disch := omega) only [f49, e49, q49, wf49, z49, d49, b49, f42, e42, q42, wf42, z42, d42, b42, f37, e37, q37, wf37, z37, d37, b37, f32, e32, q32, wf32, z32, d32, b32, f31, e31, d31, c31, b31, f30, e30, d30, c30, b30, f23, e23, q23, wf23, z23, d23, b23, f16, e16, q16, wf16, z16, d16, b16, f13, e13, q13, wf13, z13, d13, b13, f10, e10, q10, wf10, z10, d10, b10, f5, e5, q5, wf5, z5, d5, b5, f3, e3, q3, wf3, z3, d3, b3, f1, e1, q1, wf1, z1, d1, b1]
  have hv : ∀ i, 0 ≤ i → i < 28 → tv u49 32 i = T0 i := fun i i0 i1 => by
    unfold tv T0 dflt
    by_cases c0 : i = 0
    · rw [if_pos c0, if_pos c0, g32.1]
    · rw [if_neg c0, if_neg c0, if_neg c0]
      by_cases c1 : i ≤ 3
      · rw [if_pos c1, if_pos c1]
        exact g33 (i - 1) (by omega) (by omega)
      · rw [if_neg c1, if_neg c1]
        by_cases c4 : i = 4
        · rw [if_pos c4, if_pos c4, g32.2.1]
        · rw [if_neg c4, if_neg c4]
          by_cases c5 : i = 5
          · rw [if_pos c5, if_pos c5, g32.2.2.1]
          · rw [if_neg c5, if_neg c5]
            by_cases c6 : i = 6
            · rw [if_pos c6, if_pos c6, g32.2.2.2]
            · rw [if_neg c6, if_neg c6]
              by_cases c9 : i ≤ 9
              · rw [if_pos c9, if_pos c9]
                exact g36 (i - 7) (by omega) (by omega)
              · rw [if_neg c9, if_neg c9]
                by_cases c18 : i ≤ 18
                · rw [if_pos c18, if_pos c18]
                  exact g34 (i - 10) (by omega) (by omega)
                · rw [if_neg c18, if_neg c18]
                  exact g35 (i - 19) (by omega) (by omega)
  obtain ⟨s', c1, c2, c3, c4, c5⟩ := c_reckonP (t := 32) (Or.inl rfl) T0_rng hP hv
  have o2 : u49 0 2 = 5 := hP.2.2.1
  have rE : sem 102 120 [aA 0, aI 2] [] u49 = some (aU, s') := by
    rw [e102_120, if_neg (by decide), o2, g0.1]
    repeat rw [g_t (by decide)]
    rw [c1, bnV_some]
  have fr : ∀ q i, ¬ (q = 6 ∨ q = 7 ∨ q = 8 ∨ (q = 5 ∧ i = 4)) → s' q i = u49 q i := fun q i h => c5 q i h
  refine ⟨s', ?_, ?_, ?_, c2, ?_, ?_, ?_, ⟨c3, c4⟩, ?_, fun k i h1 h2 => ?_⟩
  · rw [r0, r1, r2, r42, r49, rE]
  · rw [fr _ _ (by omega)]
    exact k49
  · rw [fr _ _ (by omega)]
    exact gs
  · rw [fr _ _ (by omega), fr _ _ (by omega)]
    exact g0
  · intro i i0 i1
    unfold tv
    rw [fr 32 4 (by omega), fr 32 5 (by omega), fr 32 6 (by omega), fr 32 7 (by omega), fr (32 + 1) _ (by omega), fr (32 + 2) _ (by omega), fr (32 + 3) _ (by omega), fr (32 + 4) _ (by omega)]
    exact hv i i0 i1
  · rw [fr _ _ (by omega), fr _ _ (by omega), fr _ _ (by omega), fr _ _ (by omega), fr _ _ (by omega), fr _ _ (by omega), fr _ _ (by omega)]
    exact gm
  · refine ⟨fun c c0 c1 => ?_, fun i i0 i1 => ?_, fun i i0 i1 => ?_⟩
    · rw [fr _ _ (by omega), fr _ _ (by omega), fr _ _ (by omega)]
      exact ⟨g17 c c0 c1, g18 c c0 c1, g19 c c0 c1⟩
    · rw [fr _ _ (by omega), fr _ _ (by omega), fr _ _ (by omega)]
      exact ⟨g20 i i0 i1, g21 i i0 i1, g22 i i0 i1⟩
    · rw [fr _ _ (by omega)]
      exact g31 i i0 i1
  · rw [fr _ _ (by omega)]
    exact gf k i h1 h2

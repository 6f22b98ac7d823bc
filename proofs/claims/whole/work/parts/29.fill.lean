/-! Arrays.fill, and what the readers are made of -/
def fillS (s : SG) (k v l : Int) : SG := fun q i => if q = k ∧ l ≤ i ∧ i < kl k then v else s q i
theorem fillS_app (s : SG) (k v l q i : Int) : fillS s k v l q i = if q = k ∧ l ≤ i ∧ i < kl k then v else s q i := rfl
theorem l_fill {k v : Int} (hk : kd k = 101) (hl : kl k < 100000) : ∀ (n : Nat) (l : Int) (s : SG), l + n = kl k → 0 ≤ l → sem 222 5 [aA k, aI v, aI l, aI (kl k)] [] s = some (aU, fillS s k v l) := by
  intro n
  induction n with
  | zero =>
    intro l s hl h0
    have : l = kl k := by omega
    subst this
    rw [e222_5, if_neg (by omega)]
    congr 2
    funext q i
    rw [fillS_app, if_neg (by omega)]
  | succ n ih =>
    intro l s hl h0
    have w : w32 (l + 1) = l + 1 := w32_id (by omega) (by omega)
    rw [e222_5, if_pos (by omega), g_t hk, g_t (by omega), w, ih (l + 1) _ (by omega) (by omega)]
    congr 2
    funext q i
    rw [fillS_app, fillS_app, up_app]
    by_cases e : q = k ∧ i = l
    · rw [if_neg (by omega), if_pos e, if_pos (by omega)]
    · rw [if_neg e]
      by_cases e2 : q = k ∧ l + 1 ≤ i ∧ i < kl k
      · rw [if_pos e2, if_pos (by omega)]
      · rw [if_neg e2, if_neg (by omega)]
theorem c_fill {k v : Int} (hk : kd k = 101) (hl : 0 ≤ kl k ∧ kl k < 100000) (s : SG) : sem 222 0 [aA k, aI v, aU, aU] [] s = some (aU, fillS s k v 0) := by
  rw [e222_0, g_t (by omega), l_fill hk hl.2 (kl k).toNat 0 s (by omega) (by decide)]
theorem l_fillL {k v : Int} (hk : kd k = 103) (hl : kl k < 100000) : ∀ (n : Nat) (l : Int) (s : SG), l + n = kl k → 0 ≤ l → sem 223 6 [aA k, aL v, aU, aI l, aI (kl k)] [] s = some (aU, fillS s k v l) := by
  intro n
  induction n with
  | zero =>
    intro l s hl h0
    have : l = kl k := by omega
    subst this
    rw [e223_6, if_neg (by omega)]
    congr 2
    funext q i
    rw [fillS_app, if_neg (by omega)]
  | succ n ih =>
    intro l s hl h0
    have w : w32 (l + 1) = l + 1 := w32_id (by omega) (by omega)
    rw [e223_6, if_pos (by omega), g_t hk, g_t (by omega), w, ih (l + 1) _ (by omega) (by omega)]
    congr 2
    funext q i
    rw [fillS_app, fillS_app, up_app]
    by_cases e : q = k ∧ i = l
    · rw [if_neg (by omega), if_pos e, if_pos (by omega)]
    · rw [if_neg e]
      by_cases e2 : q = k ∧ l + 1 ≤ i ∧ i < kl k
      · rw [if_pos e2, if_pos (by omega)]
      · rw [if_neg e2, if_neg (by omega)]
theorem c_fillL {k v : Int} (hk : kd k = 103) (hl : 0 ≤ kl k ∧ kl k < 100000) (s : SG) : sem 223 0 [aA k, aL v, aU, aU, aU] [] s = some (aU, fillS s k v 0) := by
  rw [e223_0, g_t (by omega), l_fillL hk hl.2 (kl k).toNat 0 s (by omega) (by decide)]
/-- what a town is before it is read -/
def dflt (i : Int) : Int := if i = 0 then 0 else if i ≤ 3 then 1 else if i = 4 then 10 else if i = 5 then 20 else if i = 6 then 5 else if i ≤ 9 then -9 else if i ≤ 18 then 1 else 5
set_option maxHeartbeats 4000000 in
theorem c_reset {t : Int} (ht : t = 32 ∨ t = 37) {s : SG} (hR : RefC s) : ∃ s', sem 81 0 [aA t] [] s = some (aU, s') ∧ RefC s' ∧ s' t 4 = 1 ∧ (∀ i, 1 ≤ i → i < 28 → tv s' t i = dflt i) ∧ ∀ q i, ¬ (q = t ∧ 4 ≤ i) → ¬ (t < q ∧ q ≤ t + 4) → s' q i = s q i := by
  obtain ⟨k0, k1, k2, k3, k4, k5, k6, k7, k8⟩ := kd_t ht
  have f1 := fun v s => c_fill (v := v) k1 (by omega) s
  have f2 := fun v s => c_fill (v := v) k3 (by omega) s
  have f3 := fun v s => c_fill (v := v) k5 (by omega) s
  have f4 := fun v s => c_fill (v := v) k7 (by omega) s
  have e := g81_0 ht hR
  rw [f1, bnV_some, f2, bnV_some, f3, bnV_some, f4, bnV_some] at e
  refine ⟨_, e, RefC.sem e rfl hR, ?_, fun i i0 i1 => ?_, fun q i h1 h2 => ?_⟩
  · clear e
    simp only [fillS_app, up_app]
    repeat rw [if_neg (by omega)]
    simp
  · clear e
    unfold tv dflt
    simp only [fillS_app, up_app, k2, k4, k6, k8, true_and, and_true, eq_self, Int.reduceEq, and_false, false_and, if_true, if_false]
    repeat' split
    all_goals first | rfl | omega
  · clear e
    simp only [fillS_app, up_app]
    repeat rw [if_neg (by omega)]

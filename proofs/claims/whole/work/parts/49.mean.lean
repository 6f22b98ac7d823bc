/-! what is sold and how often it runs out, as the reference counts it -/
def Sx (x e : Int) : Nat → Int
  | 0 => 1
  | j + 1 => Sx x e j * (if (j : Int) < e then x else 10 - x)
def cof (e : Int) : Int := if e = 0 then 1 else if e = 6 then 1 else if e = 1 then 6 else if e = 5 then 6 else if e = 3 then 20 else 15
theorem Sx_rng_l : ∀ n : Fin 10, ∀ e : Fin 7, ∀ j : Fin 7, 0 ≤ Sx (n.val : Int) (e.val : Int) j.val ∧ Sx (n.val : Int) (e.val : Int) j.val ≤ 1000000 := by decide +kernel
theorem Sx_chn_l : ∀ n : Fin 10, ∀ e : Fin 7, Sx (n.val : Int) (e.val : Int) 6 * cof (e.val : Int) = chn (n.val : Int) (e.val : Int) := by decide +kernel
theorem Sx_rng {x : Int} (hx : 0 ≤ x ∧ x ≤ 9) {e : Int} (he : 0 ≤ e ∧ e ≤ 6) {j : Nat} (hj : j ≤ 6) : 0 ≤ Sx x e j ∧ Sx x e j ≤ 1000000 := by
  obtain ⟨n, rfl⟩ := x10 hx
  have := Sx_rng_l n ⟨e.toNat, by omega⟩ ⟨j, by omega⟩
  have z : ((e.toNat : Nat) : Int) = e := by omega
  simp only [z] at this
  exact this
theorem Sx_chn {x : Int} (hx : 0 ≤ x ∧ x ≤ 9) {e : Int} (he : 0 ≤ e ∧ e ≤ 6) : Sx x e 6 * cof e = chn x e := by
  obtain ⟨n, rfl⟩ := x10 hx
  have := Sx_chn_l n ⟨e.toNat, by omega⟩
  have z : ((e.toNat : Nat) : Int) = e := by omega
  simp only [z] at this
  exact this
theorem l_six {x : Int} (hx : 0 ≤ x ∧ x ≤ 9) {e : Int} (he : 0 ≤ e ∧ e ≤ 6) {s : SG} (hR : RefC s) : ∀ (n j : Nat), j + n = 6 → sem 168 21 [aU, aU, aU, aI e, aI x, aL (Sx x e j), aU, aI (j : Int), aU] [] s = some (aL (chn x e), s) := by
  intro n
  induction n with
  | zero =>
    intro j hj
    have : j = 6 := by omega
    subst this
    rw [g168_21 hR, if_neg (by decide)]
    show some (aL (w64 (Sx x e 6 * cof e)), s) = _
    rw [Sx_chn hx he]
    have := chn_rng hx he
    rw [w64_id (by omega) (by omega)]
  | succ n ih =>
    intro j hj
    have w : w32 ((j : Int) + 1) = ((j + 1 : Nat) : Int) := by rw [w32_id (by omega) (by omega)]; omega
    have wx : w32 (10 - x) = 10 - x := w32_id (by omega) (by omega)
    have r := Sx_rng hx he (j := j + 1) (by omega)
    have e1 : Sx x e (j + 1) = Sx x e j * (if (j : Int) < e then x else 10 - x) := rfl
    rw [g168_21 hR, if_pos (by omega), w, wx, ← e1, w64_id (by omega) (by omega)]
    exact ih (j + 1) (by omega)
theorem c_six {s : SG} (hR : RefC s) (hT : TRng (s 58)) {c k e : Int} (hc : 0 ≤ c ∧ c < 3) (hk : 0 ≤ k ∧ k < 3) (he : 0 ≤ e ∧ e ≤ 6) : sem 168 0 [aA 56, aI c, aI k, aI e, aU, aU, aU, aU, aU] [] s = some (aL (chn (s 58 (19 + 3 * c + k)) e), s) := by
  have w : w32 (w32 (19 + w32 (3 * c)) + k) = 19 + 3 * c + k := by
    rw [w32_id (a := 3 * c) (by omega) (by omega), w32_id (a := 19 + 3 * c) (by omega) (by omega), w32_id (by omega) (by omega)]
  rw [g168_0 hR, w, g_t (by omega)]
  exact l_six (hT.2.2.2.2.2 _ (by omega) (by omega)) he hR 6 0 rfl
def val (w b e g : Int) : Int := if w = 0 then (if 6 * b + e < g then 6 * b + e else g) else (if g < 6 * b + e then 1 else 0)
def PS (T w b x g : Int) : Nat → Int
  | 0 => 0
  | n + 1 => T * chn x (6 - n) * val w b (6 - n) g + PS T w b x g n
theorem val_rng {w b e g : Int} (hb : 0 ≤ b) (he : 0 ≤ e) (hg : 0 ≤ g ∧ g ≤ 60) : 0 ≤ val w b e g ∧ val w b e g ≤ 60 := by
  unfold val
  repeat' split
  all_goals omega
theorem PS_7 (T w b x g : Int) : PS T w b x g 7 = T * (sum7 fun e => chn x e * val w b e g) := by
  show T * chn x (6 - 6) * val w b (6 - 6) g + (T * chn x (6 - 5) * val w b (6 - 5) g + (T * chn x (6 - 4) * val w b (6 - 4) g + (T * chn x (6 - 3) * val w b (6 - 3) g + (T * chn x (6 - 2) * val w b (6 - 2) g + (T * chn x (6 - 1) * val w b (6 - 1) g + (T * chn x (6 - 0) * val w b (6 - 0) g + 0)))))) = _
  unfold sum7
  simp only [Int.mul_add, Int.mul_assoc, Int.reduceSub]
  omega

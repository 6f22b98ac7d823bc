theorem pk_neg (T : Int → Int) (f : Int → Int) {a b : Int} (ha : a < 0) (hb : b < 0) : ∀ n : Nat, pk T a f n = pk T b f n := by
  intro n
  induction n with
  | zero => rfl
  | succ n ih =>
    show (if (n : Int) = a then pk T a f n else if pk T a f n = -9 then (n : Int) else if outS T (pk T a f n) (f (pk T a f n)) < outS T n (f n) then (n : Int) else pk T a f n) = (if (n : Int) = b then pk T b f n else if pk T b f n = -9 then (n : Int) else if outS T (pk T b f n) (f (pk T b f n)) < outS T n (f n) then (n : Int) else pk T b f n)
    rw [if_neg (show ¬ (n : Int) = a by omega), if_neg (show ¬ (n : Int) = b by omega), ih]
theorem gv_neg (T : Int → Int) {a b : Int} (ha : a < 0) (hb : b < 0) (n : Nat) : ∀ (m : Nat) (f : Int → Int), gv T a n m f = gv T b n m f := by
  intro m
  induction m with
  | zero => intro f; rfl
  | succ m ih =>
    intro f
    show gv T a n m (gst T a n f) = gv T b n m (gst T b n f)
    have : gst T a n f = gst T b n f := by unfold gst; rw [pk_neg T f ha hb]
    rw [this, ih]
theorem l_clear61 {but p : Int} : ∀ (n : Nat) (l : Int) (s : SG), l + n = 3 → 0 ≤ l → RefC s → ∃ s', sem 173 2 [aA 56, aI p, aI but, aI l, aU, aU, aU, aU, aU, aU] [] s = sem 173 22 [aA 56, aI p, aI but, aI 0, aU, aU, aU, aU, aU, aU] [] s' ∧ RefC s' ∧ (∀ c, l ≤ c → c < 3 → s' 61 c = 0) ∧ (∀ c, c < l → s' 61 c = s 61 c) ∧ ∀ q, q ≠ 61 → s' q = s q := by
  intro n
  induction n with
  | zero =>
    intro l s hl h0 hR
    rw [g173_2 hR, if_neg (by omega)]
    exact ⟨s, rfl, hR, fun c h1 h2 => by omega, fun _ _ => rfl, fun _ _ => rfl⟩
  | succ n ih =>
    intro l s hl h0 hR
    have w2 : w32 (l + 1) = l + 1 := w32_id (by omega) (by omega)
    rw [g173_2 hR, if_pos (by omega), g_t (by omega), w2]
    obtain ⟨s', e1, e2, e3, e4, e5⟩ := ih (l + 1) (up s 61 l 0) (by omega) (by omega) (ru61 hR _ _)
    refine ⟨s', e1, e2, fun c h1 h2 => ?_, fun c h1 => ?_, fun q h1 => by rw [e5 q h1, up_k h1]⟩
    · by_cases e : c = l
      · rw [e, e4 l (by omega), up_at]
      · exact e3 c (by omega) h2
    · rw [e4 c (by omega), up_ni (by omega)]
theorem pk_cg (T : Int → Int) (but : Int) {f f' : Int → Int} {n : Nat} (h : ∀ x : Int, 0 ≤ x → x < n → f x = f' x) : ∀ c : Nat, c ≤ n → pk T but f c = pk T but f' c := by
  intro c
  induction c with
  | zero => intro _; rfl
  | succ c ih =>
    intro hc
    have i := ih (by omega)
    have r := pk_rng T but f' c
    show (if (c : Int) = but then pk T but f c else if pk T but f c = -9 then (c : Int) else if outS T (pk T but f c) (f (pk T but f c)) < outS T c (f c) then (c : Int) else pk T but f c) = (if (c : Int) = but then pk T but f' c else if pk T but f' c = -9 then (c : Int) else if outS T (pk T but f' c) (f' (pk T but f' c)) < outS T c (f' c) then (c : Int) else pk T but f' c)
    rw [i, h c (by omega) (by omega)]
    by_cases z : pk T but f' c = -9
    · rw [if_pos z, if_pos z]
    · rw [h (pk T but f' c) (by omega) (by omega)]
theorem gv_cg (T : Int → Int) (but : Int) (n : Nat) : ∀ (m : Nat) (f f' : Int → Int), (∀ x : Int, 0 ≤ x → x < n → f x = f' x) → ∀ x : Int, 0 ≤ x → x < n → gv T but n m f x = gv T but n m f' x := by
  intro m
  induction m with
  | zero => intro f f' h x x0 x1; exact h x x0 x1
  | succ m ih =>
    intro f f' h x x0 x1
    show gv T but n m (gst T but n f) x = gv T but n m (gst T but n f') x
    refine ih _ _ (fun y y0 y1 => ?_) x x0 x1
    unfold gst
    rw [pk_cg T but h n (Nat.le_refl n)]
    split
    · exact h y y0 y1
    · dsimp only
      rw [h y y0 y1]

theorem pk_neg (T : Int → Int) (f : Int → Int) {a b : Int} (ha : a < 0) (hb : b < 0) : ∀ n : Nat, pk T a f n = pk T b f n := by
  intro n
  induction n with
  | zero => rfl
  | succ n ih =>
    show (if (n : Int) = a then pk T a f n else if pk T a f n = -9 then (n : Int) else if outS T (pk T a f n) (f (pk T a f n)) < outS T n (f n) then (n : Int) else pk T a f n) = (if (n : Int) = b then pk T b f n else if pk T b f n = -9 then (n : Int) else if outS T (pk T b f n) (f (pk T b f n)) < outS T n (f n) then (n : Int) else pk T b f n)
    rw [if_neg (show ¬ (n : Int) = a by omega), if_neg (show ¬ (n : Int) = b by omega), ih]
theorem gv_neg (T : Int → Int) {a b : Int} (ha : a < 0) (hb : b < 0) (n : Nat) : ∀ (m : Nat) (f : Int → Int), gv T a n m f = gv T b n m f := by
  intro m
  induction m with
  | zero => intro f; rfl
  | succ m ih =>
    intro f
    show gv T a n m (gst T a n f) = gv T b n m (gst T b n f)
    have : gst T a n f = gst T b n f := by unfold gst; rw [pk_neg T f ha hb]
    rw [this, ih]

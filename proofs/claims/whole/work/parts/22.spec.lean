/-! what holds between calls: the class's cells and the reference's say the same -/
/-- a town's cells of the class, in the order in which the reference keeps them -/
def tv (s : SG) (t : Int) : Int → Int := fun i => if i = 0 then s t 4 else if i ≤ 3 then s (t + 1) (i - 1) else if i = 4 then s t 5 else if i = 5 then s t 6 else if i = 6 then s t 7 else if i ≤ 9 then s (t + 4) (i - 7) else if i ≤ 18 then s (t + 2) (i - 10) else s (t + 3) (i - 19)
def TRng (T : Int → Int) : Prop := (1 ≤ T 0 ∧ T 0 ≤ 3) ∧ (∀ i, 1 ≤ i → i ≤ 3 → 1 ≤ T i ∧ T i ≤ 9) ∧ (∀ i, 4 ≤ i → i ≤ 6 → 0 ≤ T i ∧ T i ≤ 99) ∧ (∀ i, 7 ≤ i → i ≤ 9 → T i = -9 ∨ (0 ≤ T i ∧ T i < T 0 ∧ T i ≠ i - 7)) ∧ (∀ i, 10 ≤ i → i ≤ 18 → 0 ≤ T i ∧ T i ≤ 3) ∧ (∀ i, 19 ≤ i → i ≤ 27 → 0 ≤ T i ∧ T i ≤ 9)
def TownI (s : SG) : Prop := ((s 0 9 = 32 ∧ s 0 10 = 37) ∨ (s 0 9 = 37 ∧ s 0 10 = 32)) ∧ (∀ i, 0 ≤ i → i < 28 → tv s (s 0 9) i = s 58 i) ∧ TRng (s 58)
def TextI (s : SG) : Prop := s 1 1 = s 56 4 ∧ (0 ≤ s 56 4 ∧ s 56 4 ≤ 64) ∧ ∀ i, 0 ≤ i → i < s 56 4 → s 2 i = s 60 i ∧ 0 ≤ s 60 i ∧ s 60 i ≤ 255
/-- six half hours in which one more comes by x tenths: so many ways, in millionths -/
def chn (x e : Int) : Int := if e = 0 then (10 - x) ^ 6 else if e = 1 then 6 * (x * (10 - x) ^ 5) else if e = 2 then 15 * (x ^ 2 * (10 - x) ^ 4) else if e = 3 then 20 * (x ^ 3 * (10 - x) ^ 3) else if e = 4 then 15 * (x ^ 4 * (10 - x) ^ 2) else if e = 5 then 6 * (x ^ 5 * (10 - x)) else if e = 6 then x ^ 6 else 0
def sum7 (f : Int → Int) : Int := f 0 + f 1 + f 2 + f 3 + f 4 + f 5 + f 6
def outK (b x g : Int) : Int := sum7 fun e => chn x e * (if g < 6 * b + e then 1 else 0)
def soldK (b x g : Int) : Int := sum7 fun e => chn x e * (if 6 * b + e < g then 6 * b + e else g)
def outS (T : Int → Int) (c g : Int) : Int := T 1 * outK (T (10 + 3 * c)) (T (19 + 3 * c)) g + T 2 * outK (T (11 + 3 * c)) (T (20 + 3 * c)) g + T 3 * outK (T (12 + 3 * c)) (T (21 + 3 * c)) g
def soldS (T : Int → Int) (c g : Int) : Int := T 1 * soldK (T (10 + 3 * c)) (T (19 + 3 * c)) g + T 2 * soldK (T (11 + 3 * c)) (T (20 + 3 * c)) g + T 3 * soldK (T (12 + 3 * c)) (T (21 + 3 * c)) g
def allS (T : Int → Int) : Int := 1000000 * (T 1 + T 2 + T 3)
def ApartI (s : SG) : Prop := s 5 4 = allS (s 58) ∧ ∀ c g, 0 ≤ c → c < s 58 0 → 0 ≤ g → g ≤ 60 → s 7 (c * 61 + g) = outS (s 58) c g ∧ s 6 (c * 61 + g) = soldS (s 58) c g
def SeeI (s : SG) : Prop := s 10 2 = s 56 9 ∧ (0 ≤ s 56 9 ∧ s 56 9 ≤ 8) ∧ ∀ i, 0 ≤ i → i < s 56 9 → s 11 i = s 62 i ∧ s 12 i = s 63 i ∧ (0 ≤ s 62 i ∧ s 62 i < s 58 0) ∧ (0 ≤ s 63 i ∧ s 63 i ≤ 9)
def RuleI (rule r : Int) : Prop := (rule = 0 ∧ r = 0) ∨ (rule = 1 ∧ 1 ≤ r ∧ r ≤ 20) ∨ (rule = 2 ∧ 0 ≤ r ∧ r ≤ 5)
def MornI (s : SG) : Prop := (s 16 6 = s 56 15 ∧ 0 ≤ s 56 15 ∧ s 56 15 ≤ 2) ∧ (∀ c, 0 ≤ c → c < 3 → s 17 c = s 66 c ∧ s 18 c = s 68 c ∧ s 19 c = s 67 c ∧ (0 ≤ s 66 c ∧ s 66 c ≤ 60) ∧ (0 ≤ s 68 c ∧ s 68 c ≤ 9) ∧ (0 ≤ s 67 c ∧ s 67 c ≤ 63) ∧ (s 58 0 ≤ c → s 66 c = 0)) ∧ (s 16 7 = s 56 19 ∧ 0 ≤ s 56 19 ∧ s 56 19 ≤ 60) ∧ (s 16 8 = s 56 20 ∧ s 16 9 = s 56 21 ∧ RuleI (s 56 20) (s 56 21)) ∧ (s 16 10 = s 56 22 ∧ 0 ≤ s 56 22 ∧ s 56 22 ≤ 6) ∧ ∀ i, 0 ≤ i → i < 6 → (s 20 i = s 69 i ∧ s 21 i = s 70 i ∧ s 22 i = s 71 i) ∧ (i < s 56 22 → (0 ≤ s 69 i ∧ s 69 i ≤ 5) ∧ (0 ≤ s 70 i ∧ s 70 i < s 58 0) ∧ (1 ≤ s 71 i ∧ s 71 i ≤ 20))
/-- a slot j, its object at place k -/
def SlotI (s : SG) (j k : Int) : Prop := s 31 j = s 79 j ∧ (s 79 j = 0 ∨ s 79 j = 1) ∧ (s 79 j = 1 → (s k 6 = s 83 (5 * j) ∧ 0 ≤ s 83 (5 * j) ∧ s 83 (5 * j) ≤ 2) ∧ (∀ c, 0 ≤ c → c < 3 → s (k + 1) c = s 80 (3 * j + c) ∧ s (k + 2) c = s 82 (3 * j + c) ∧ s (k + 3) c = s 81 (3 * j + c) ∧ (0 ≤ s 80 (3 * j + c) ∧ s 80 (3 * j + c) ≤ 60) ∧ (0 ≤ s 82 (3 * j + c) ∧ s 82 (3 * j + c) ≤ 9) ∧ (0 ≤ s 81 (3 * j + c) ∧ s 81 (3 * j + c) ≤ 63) ∧ (s 58 0 ≤ c → s 80 (3 * j + c) = 0)) ∧ (s k 7 = s 83 (5 * j + 1) ∧ 0 ≤ s 83 (5 * j + 1) ∧ s 83 (5 * j + 1) ≤ 60) ∧ (s k 8 = s 83 (5 * j + 2) ∧ s k 9 = s 83 (5 * j + 3) ∧ RuleI (s 83 (5 * j + 2)) (s 83 (5 * j + 3))) ∧ (s k 10 = s 83 (5 * j + 4) ∧ 0 ≤ s 83 (5 * j + 4) ∧ s 83 (5 * j + 4) ≤ 6) ∧ ∀ i, 0 ≤ i → i < 6 → (s (k + 4) i = s 84 (18 * j + 3 * i) ∧ s (k + 5) i = s 84 (18 * j + 3 * i + 1) ∧ s (k + 6) i = s 84 (18 * j + 3 * i + 2)) ∧ (i < s 83 (5 * j + 4) → (0 ≤ s 84 (18 * j + 3 * i) ∧ s 84 (18 * j + 3 * i) ≤ 5) ∧ (0 ≤ s 84 (18 * j + 3 * i + 1) ∧ s 84 (18 * j + 3 * i + 1) < s 58 0) ∧ (1 ≤ s 84 (18 * j + 3 * i + 2) ∧ s 84 (18 * j + 3 * i + 2) ≤ 20)))
def CntI (s : SG) : Prop := s (-1) 0 = 85 ∧ s (-1) 1 = 9952
def Inv (s : SG) : Prop := RefC s ∧ TownI s ∧ TextI s ∧ ApartI s ∧ SeeI s ∧ MornI s ∧ (SlotI s 0 42 ∧ SlotI s 1 49) ∧ CntI s
/-- the cells that no later call reads before it writes them -/
def scr (d k i : Int) : Prop := (k = 3 ∧ 1 ≤ i) ∨ k = 4 ∨ k = 8 ∨ k = 9 ∨ (k = 13 ∧ 2 ≤ i) ∨ k = 14 ∨ k = 15 ∨ (k = 23 ∧ 6 ≤ i) ∨ (24 ≤ k ∧ k ≤ 29) ∨ (k = d ∧ 4 ≤ i) ∨ (d < k ∧ k ≤ d + 4) ∨ (k = 56 ∧ (i = 5 ∨ i = 6 ∨ i = 7 ∨ i = 14 ∨ (33 ≤ i ∧ i ≤ 38))) ∨ k = 57 ∨ k = 59 ∨ k = 61 ∨ k = 64 ∨ k = 65 ∨ (72 ≤ k ∧ k ≤ 78)
/-- alike but for such cells -/
def Sc (s s' : SG) : Prop := ∀ k i, ¬ scr (s 0 10) k i → s' k i = s k i
theorem Sc.rf {s : SG} : Sc s s := fun _ _ _ => rfl

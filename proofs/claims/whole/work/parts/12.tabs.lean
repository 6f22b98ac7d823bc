/-! the tables agree; every method's rows; the reading is the machine's -/
def isLaw (M : Nat) : Bool := M == 224
def OkM (M : Nat) : Prop := ∀ x ∈ cdl.getD M [], OkE (mnq M).2.1 (mnq M).1.cls (mnq M).1.name (mt M).2.2.1 (mt M).1 (isLaw M) x
def okl0 : List Nat := [0, 1, 2, 3, 4, 5, 6, 7, 8, 9, 10, 11, 12, 13, 14, 15, 16, 17, 18, 19, 20, 21, 22, 23, 24]
theorem okT_0 : ∀ M ∈ okl0, OkM M := List.forall_mem_cons.mpr ⟨ok0, List.forall_mem_cons.mpr ⟨ok1, List.forall_mem_cons.mpr ⟨ok2, List.forall_mem_cons.mpr ⟨ok3, List.forall_mem_cons.mpr ⟨ok4, List.forall_mem_cons.mpr ⟨ok5, List.forall_mem_cons.mpr ⟨ok6, List.forall_mem_cons.mpr ⟨ok7, List.forall_mem_cons.mpr ⟨ok8, List.forall_mem_cons.mpr ⟨ok9, List.forall_mem_cons.mpr ⟨ok10, List.forall_mem_cons.mpr ⟨ok11, List.forall_mem_cons.mpr ⟨ok12, List.forall_mem_cons.mpr ⟨ok13, List.forall_mem_cons.mpr ⟨ok14, List.forall_mem_cons.mpr ⟨ok15, List.forall_mem_cons.mpr ⟨ok16, List.forall_mem_cons.mpr ⟨ok17, List.forall_mem_cons.mpr ⟨ok18, List.forall_mem_cons.mpr ⟨ok19, List.forall_mem_cons.mpr ⟨ok20, List.forall_mem_cons.mpr ⟨ok21, List.forall_mem_cons.mpr ⟨ok22, List.forall_mem_cons.mpr ⟨ok23, List.forall_mem_cons.mpr ⟨ok24, fun _ h => absurd h List.not_mem_nil⟩⟩⟩⟩⟩⟩⟩⟩⟩⟩⟩⟩⟩⟩⟩⟩⟩⟩⟩⟩⟩⟩⟩⟩⟩
def okl1 : List Nat := [25, 26, 27, 28, 29, 30, 31, 32, 33, 34, 35, 36, 37, 38, 39, 40, 41, 42, 43, 44, 45, 46, 47, 48, 49]
theorem okT_1 : ∀ M ∈ okl1, OkM M := List.forall_mem_cons.mpr ⟨ok25, List.forall_mem_cons.mpr ⟨ok26, List.forall_mem_cons.mpr ⟨ok27, List.forall_mem_cons.mpr ⟨ok28, List.forall_mem_cons.mpr ⟨ok29, List.forall_mem_cons.mpr ⟨ok30, List.forall_mem_cons.mpr ⟨ok31, List.forall_mem_cons.mpr ⟨ok32, List.forall_mem_cons.mpr ⟨ok33, List.forall_mem_cons.mpr ⟨ok34, List.forall_mem_cons.mpr ⟨ok35, List.forall_mem_cons.mpr ⟨ok36, List.forall_mem_cons.mpr ⟨ok37, List.forall_mem_cons.mpr ⟨ok38, List.forall_mem_cons.mpr ⟨ok39, List.forall_mem_cons.mpr ⟨ok40, List.forall_mem_cons.mpr ⟨ok41, List.forall_mem_cons.mpr ⟨ok42, List.forall_mem_cons.mpr ⟨ok43, List.forall_mem_cons.mpr ⟨ok44, List.forall_mem_cons.mpr ⟨ok45, List.forall_mem_cons.mpr ⟨ok46, List.forall_mem_cons.mpr ⟨ok47, List.forall_mem_cons.mpr ⟨ok48, List.forall_mem_cons.mpr ⟨ok49, fun _ h => absurd h List.not_mem_nil⟩⟩⟩⟩⟩⟩⟩⟩⟩⟩⟩⟩⟩⟩⟩⟩⟩⟩⟩⟩⟩⟩⟩⟩⟩
def okl2 : List Nat := [50, 51, 52, 53, 54, 55, 56, 57, 58, 59, 60, 61, 62, 63, 64, 65, 66, 67, 68, 69, 70, 71, 72, 73, 74]
theorem okT_2 : ∀ M ∈ okl2, OkM M := List.forall_mem_cons.mpr ⟨ok50, List.forall_mem_cons.mpr ⟨ok51, List.forall_mem_cons.mpr ⟨ok52, List.forall_mem_cons.mpr ⟨ok53, List.forall_mem_cons.mpr ⟨ok54, List.forall_mem_cons.mpr ⟨ok55, List.forall_mem_cons.mpr ⟨ok56, List.forall_mem_cons.mpr ⟨ok57, List.forall_mem_cons.mpr ⟨ok58, List.forall_mem_cons.mpr ⟨ok59, List.forall_mem_cons.mpr ⟨ok60, List.forall_mem_cons.mpr ⟨ok61, List.forall_mem_cons.mpr ⟨ok62, List.forall_mem_cons.mpr ⟨ok63, List.forall_mem_cons.mpr ⟨ok64, List.forall_mem_cons.mpr ⟨ok65, List.forall_mem_cons.mpr ⟨ok66, List.forall_mem_cons.mpr ⟨ok67, List.forall_mem_cons.mpr ⟨ok68, List.forall_mem_cons.mpr ⟨ok69, List.forall_mem_cons.mpr ⟨ok70, List.forall_mem_cons.mpr ⟨ok71, List.forall_mem_cons.mpr ⟨ok72, List.forall_mem_cons.mpr ⟨ok73, List.forall_mem_cons.mpr ⟨ok74, fun _ h => absurd h List.not_mem_nil⟩⟩⟩⟩⟩⟩⟩⟩⟩⟩⟩⟩⟩⟩⟩⟩⟩⟩⟩⟩⟩⟩⟩⟩⟩
def okl3 : List Nat := [75, 76, 77, 78, 79, 80, 81, 82, 83, 84, 85, 86, 87, 88, 89, 90, 91, 92, 93, 94, 95, 96, 97, 98, 99]
theorem okT_3 : ∀ M ∈ okl3, OkM M := List.forall_mem_cons.mpr ⟨ok75, List.forall_mem_cons.mpr ⟨ok76, List.forall_mem_cons.mpr ⟨ok77, List.forall_mem_cons.mpr ⟨ok78, List.forall_mem_cons.mpr ⟨ok79, List.forall_mem_cons.mpr ⟨ok80, List.forall_mem_cons.mpr ⟨ok81, List.forall_mem_cons.mpr ⟨ok82, List.forall_mem_cons.mpr ⟨ok83, List.forall_mem_cons.mpr ⟨ok84, List.forall_mem_cons.mpr ⟨ok85, List.forall_mem_cons.mpr ⟨ok86, List.forall_mem_cons.mpr ⟨ok87, List.forall_mem_cons.mpr ⟨ok88, List.forall_mem_cons.mpr ⟨ok89, List.forall_mem_cons.mpr ⟨ok90, List.forall_mem_cons.mpr ⟨ok91, List.forall_mem_cons.mpr ⟨ok92, List.forall_mem_cons.mpr ⟨ok93, List.forall_mem_cons.mpr ⟨ok94, List.forall_mem_cons.mpr ⟨ok95, List.forall_mem_cons.mpr ⟨ok96, List.forall_mem_cons.mpr ⟨ok97, List.forall_mem_cons.mpr ⟨ok98, List.forall_mem_cons.mpr ⟨ok99, fun _ h => absurd h List.not_mem_nil⟩⟩⟩⟩⟩⟩⟩⟩⟩⟩⟩⟩⟩⟩⟩⟩⟩⟩⟩⟩⟩⟩⟩⟩⟩
def okl4 : List Nat := [100, 101, 102, 103, 104, 105, 106, 107, 108, 109, 110, 111, 112, 113, 114, 115, 116, 117, 118, 119, 120, 121, 122, 123, 124]
theorem okT_4 : ∀ M ∈ okl4, OkM M := List.forall_mem_cons.mpr ⟨ok100, List.forall_mem_cons.mpr ⟨ok101, List.forall_mem_cons.mpr ⟨ok102, List.forall_mem_cons.mpr ⟨ok103, List.forall_mem_cons.mpr ⟨ok104, List.forall_mem_cons.mpr ⟨ok105, List.forall_mem_cons.mpr ⟨ok106, List.forall_mem_cons.mpr ⟨ok107, List.forall_mem_cons.mpr ⟨ok108, List.forall_mem_cons.mpr ⟨ok109, List.forall_mem_cons.mpr ⟨ok110, List.forall_mem_cons.mpr ⟨ok111, List.forall_mem_cons.mpr ⟨ok112, List.forall_mem_cons.mpr ⟨ok113, List.forall_mem_cons.mpr ⟨ok114, List.forall_mem_cons.mpr ⟨ok115, List.forall_mem_cons.mpr ⟨ok116, List.forall_mem_cons.mpr ⟨ok117, List.forall_mem_cons.mpr ⟨ok118, List.forall_mem_cons.mpr ⟨ok119, List.forall_mem_cons.mpr ⟨ok120, List.forall_mem_cons.mpr ⟨ok121, List.forall_mem_cons.mpr ⟨ok122, List.forall_mem_cons.mpr ⟨ok123, List.forall_mem_cons.mpr ⟨ok124, fun _ h => absurd h List.not_mem_nil⟩⟩⟩⟩⟩⟩⟩⟩⟩⟩⟩⟩⟩⟩⟩⟩⟩⟩⟩⟩⟩⟩⟩⟩⟩
def okl5 : List Nat := [125, 126, 127, 128, 129, 130, 131, 132, 133, 134, 135, 136, 137, 138, 139, 140, 141, 142, 143, 144, 145, 146, 147, 148, 149]
theorem okT_5 : ∀ M ∈ okl5, OkM M := List.forall_mem_cons.mpr ⟨ok125, List.forall_mem_cons.mpr ⟨ok126, List.forall_mem_cons.mpr ⟨ok127, List.forall_mem_cons.mpr ⟨ok128, List.forall_mem_cons.mpr ⟨ok129, List.forall_mem_cons.mpr ⟨ok130, List.forall_mem_cons.mpr ⟨ok131, List.forall_mem_cons.mpr ⟨ok132, List.forall_mem_cons.mpr ⟨ok133, List.forall_mem_cons.mpr ⟨ok134, List.forall_mem_cons.mpr ⟨ok135, List.forall_mem_cons.mpr ⟨ok136, List.forall_mem_cons.mpr ⟨ok137, List.forall_mem_cons.mpr ⟨ok138, List.forall_mem_cons.mpr ⟨ok139, List.forall_mem_cons.mpr ⟨ok140, List.forall_mem_cons.mpr ⟨ok141, List.forall_mem_cons.mpr ⟨ok142, List.forall_mem_cons.mpr ⟨ok143, List.forall_mem_cons.mpr ⟨ok144, List.forall_mem_cons.mpr ⟨ok145, List.forall_mem_cons.mpr ⟨ok146, List.forall_mem_cons.mpr ⟨ok147, List.forall_mem_cons.mpr ⟨ok148, List.forall_mem_cons.mpr ⟨ok149, fun _ h => absurd h List.not_mem_nil⟩⟩⟩⟩⟩⟩⟩⟩⟩⟩⟩⟩⟩⟩⟩⟩⟩⟩⟩⟩⟩⟩⟩⟩⟩
def okl6 : List Nat := [150, 151, 152, 153, 154, 155, 156, 157, 158, 159, 160, 161, 162, 163, 164, 165, 166, 167, 168, 169, 170, 171, 172, 173, 174]
theorem okT_6 : ∀ M ∈ okl6, OkM M := List.forall_mem_cons.mpr ⟨ok150, List.forall_mem_cons.mpr ⟨ok151, List.forall_mem_cons.mpr ⟨ok152, List.forall_mem_cons.mpr ⟨ok153, List.forall_mem_cons.mpr ⟨ok154, List.forall_mem_cons.mpr ⟨ok155, List.forall_mem_cons.mpr ⟨ok156, List.forall_mem_cons.mpr ⟨ok157, List.forall_mem_cons.mpr ⟨ok158, List.forall_mem_cons.mpr ⟨ok159, List.forall_mem_cons.mpr ⟨ok160, List.forall_mem_cons.mpr ⟨ok161, List.forall_mem_cons.mpr ⟨ok162, List.forall_mem_cons.mpr ⟨ok163, List.forall_mem_cons.mpr ⟨ok164, List.forall_mem_cons.mpr ⟨ok165, List.forall_mem_cons.mpr ⟨ok166, List.forall_mem_cons.mpr ⟨ok167, List.forall_mem_cons.mpr ⟨ok168, List.forall_mem_cons.mpr ⟨ok169, List.forall_mem_cons.mpr ⟨ok170, List.forall_mem_cons.mpr ⟨ok171, List.forall_mem_cons.mpr ⟨ok172, List.forall_mem_cons.mpr ⟨ok173, List.forall_mem_cons.mpr ⟨ok174, fun _ h => absurd h List.not_mem_nil⟩⟩⟩⟩⟩⟩⟩⟩⟩⟩⟩⟩⟩⟩⟩⟩⟩⟩⟩⟩⟩⟩⟩⟩⟩
def okl7 : List Nat := [175, 176, 177, 178, 179, 180, 181, 182, 183, 184, 185, 186, 187, 188, 189, 190, 191, 192, 193, 194, 195, 196, 197, 198, 199]
theorem okT_7 : ∀ M ∈ okl7, OkM M := List.forall_mem_cons.mpr ⟨ok175, List.forall_mem_cons.mpr ⟨ok176, List.forall_mem_cons.mpr ⟨ok177, List.forall_mem_cons.mpr ⟨ok178, List.forall_mem_cons.mpr ⟨ok179, List.forall_mem_cons.mpr ⟨ok180, List.forall_mem_cons.mpr ⟨ok181, List.forall_mem_cons.mpr ⟨ok182, List.forall_mem_cons.mpr ⟨ok183, List.forall_mem_cons.mpr ⟨ok184, List.forall_mem_cons.mpr ⟨ok185, List.forall_mem_cons.mpr ⟨ok186, List.forall_mem_cons.mpr ⟨ok187, List.forall_mem_cons.mpr ⟨ok188, List.forall_mem_cons.mpr ⟨ok189, List.forall_mem_cons.mpr ⟨ok190, List.forall_mem_cons.mpr ⟨ok191, List.forall_mem_cons.mpr ⟨ok192, List.forall_mem_cons.mpr ⟨ok193, List.forall_mem_cons.mpr ⟨ok194, List.forall_mem_cons.mpr ⟨ok195, List.forall_mem_cons.mpr ⟨ok196, List.forall_mem_cons.mpr ⟨ok197, List.forall_mem_cons.mpr ⟨ok198, List.forall_mem_cons.mpr ⟨ok199, fun _ h => absurd h List.not_mem_nil⟩⟩⟩⟩⟩⟩⟩⟩⟩⟩⟩⟩⟩⟩⟩⟩⟩⟩⟩⟩⟩⟩⟩⟩⟩
def okl8 : List Nat := [200, 201, 202, 203, 204, 205, 206, 207, 208, 209, 210, 211, 212, 213, 214, 215, 216, 217, 218, 219, 220, 221, 222, 223, 224]
theorem okT_8 : ∀ M ∈ okl8, OkM M := List.forall_mem_cons.mpr ⟨ok200, List.forall_mem_cons.mpr ⟨ok201, List.forall_mem_cons.mpr ⟨ok202, List.forall_mem_cons.mpr ⟨ok203, List.forall_mem_cons.mpr ⟨ok204, List.forall_mem_cons.mpr ⟨ok205, List.forall_mem_cons.mpr ⟨ok206, List.forall_mem_cons.mpr ⟨ok207, List.forall_mem_cons.mpr ⟨ok208, List.forall_mem_cons.mpr ⟨ok209, List.forall_mem_cons.mpr ⟨ok210, List.forall_mem_cons.mpr ⟨ok211, List.forall_mem_cons.mpr ⟨ok212, List.forall_mem_cons.mpr ⟨ok213, List.forall_mem_cons.mpr ⟨ok214, List.forall_mem_cons.mpr ⟨ok215, List.forall_mem_cons.mpr ⟨ok216, List.forall_mem_cons.mpr ⟨ok217, List.forall_mem_cons.mpr ⟨ok218, List.forall_mem_cons.mpr ⟨ok219, List.forall_mem_cons.mpr ⟨ok220, List.forall_mem_cons.mpr ⟨ok221, List.forall_mem_cons.mpr ⟨ok222, List.forall_mem_cons.mpr ⟨ok223, List.forall_mem_cons.mpr ⟨ok224, fun _ h => absurd h List.not_mem_nil⟩⟩⟩⟩⟩⟩⟩⟩⟩⟩⟩⟩⟩⟩⟩⟩⟩⟩⟩⟩⟩⟩⟩⟩⟩
theorem okT_l : ∀ M ∈ okl0 ++ (okl1 ++ (okl2 ++ (okl3 ++ (okl4 ++ (okl5 ++ (okl6 ++ (okl7 ++ (okl8)))))))), OkM M := List.forall_mem_append.mpr ⟨okT_0, List.forall_mem_append.mpr ⟨okT_1, List.forall_mem_append.mpr ⟨okT_2, List.forall_mem_append.mpr ⟨okT_3, List.forall_mem_append.mpr ⟨okT_4, List.forall_mem_append.mpr ⟨okT_5, List.forall_mem_append.mpr ⟨okT_6, List.forall_mem_append.mpr ⟨okT_7, okT_8⟩⟩⟩⟩⟩⟩⟩⟩
theorem lt_mem : ∀ M, M < 225 → M ∈ okl0 ++ (okl1 ++ (okl2 ++ (okl3 ++ (okl4 ++ (okl5 ++ (okl6 ++ (okl7 ++ (okl8)))))))) := by decide +kernel
theorem okT (M : Nat) : OkM M := by
  by_cases h : M < 225
  · exact okT_l M (lt_mem M h)
  · intro x hx
    have hl : cdl.length = 225 := rfl
    rw [List.getD_eq_getElem?_getD, List.getElem?_eq_none (by omega)] at hx
    exact absurd hx List.not_mem_nil
theorem fch_mem {M pc : Nat} {f : ClassFile.Instr × Nat × List Nat} (h : fch M pc = some f) : (pc, f) ∈ cdl.getD M [] := by
  unfold fch at h
  generalize cdl.getD M [] = l at h
  induction l with
  | nil => cases h
  | cons q l ih =>
    obtain ⟨a, b⟩ := q
    rw [List.lookup_cons] at h
    split at h
    · next he =>
      have he : pc = a := by simpa using he
      subst he
      cases h
      exact List.mem_cons_self
    · exact List.mem_cons_of_mem _ (ih h)
theorem fch_lt {M pc : Nat} {f : ClassFile.Instr × Nat × List Nat} (h : fch M pc = some f) : M < 225 := by
  have h1 := fch_mem h
  by_cases hM : M < 225
  · exact hM
  · have hl : cdl.length = 225 := rfl
    rw [List.getD_eq_getElem?_getD, List.getElem?_eq_none (by omega)] at h1
    exact absurd h1 List.not_mem_nil
/-- what the tables say of a method, by program -/
def mtOk (M : Nat) : Bool := decide ((mt M).1 ≤ 8) && (decide ((mt M).2.2.1 ≤ 23) && (plainName (mnq M).1.cls && (decide ((parseMethodDescriptor (mnq M).1.desc).map (fun d => d.parameters.length) = some (if (mt M).2.2.2.2 = -1 then (mt M).2.1 else (mt M).2.1 - 1)) &&
  ((match (mt M).2.2.2.1, (mnq M).2.2 with | 0, none => true | 1, some .int => true | 2, some .long => true | 3, some .boolean => true | _, _ => false) &&
  (match (mt M).2.2.2.2 with | .ofNat c => (match vwCl[c]? with | some r => decide (r.1 = (mnq M).1.cls) | none => false) | v => decide (v = -1))))))
theorem mtOk_l : ∀ M, M < 225 → mtOk M = true := by decide +kernel
def clOk (x : CE) : Bool := match x.2.1 with
  | .invokestatic j => decide ((mt j).2.2.2.2 = -1) && decide (j < 225)
  | .invokevirtual j => decide (0 ≤ (mt j).2.2.2.2) && decide (j < 225)
  | .invokespecial j => decide (0 ≤ (mt j).2.2.2.2) && decide (j < 225)
  | _ => true
theorem clOk_l : cdl.all (fun l => l.all clOk) = true := by decide +kernel
theorem clOk_of {M pc : Nat} {f : ClassFile.Instr × Nat × List Nat} (h : fch M pc = some f) : clOk (pc, f) = true := by
  have h1 := fch_mem h
  have hM := fch_lt h
  have hl : cdl.length = 225 := rfl
  rw [List.getD_eq_getElem?_getD, List.getElem?_eq_getElem (by omega)] at h1
  have h2 := List.all_eq_true.mp clOk_l _ (List.getElem_mem (by omega : M < cdl.length))
  exact List.all_eq_true.mp h2 _ h1

/-! WHAT MAKES NOTHING NEW: recalculate on both sides -/
def am_naC (own : Nat) (S : List Nat) (idx : Nat) : Bool := match am_mkf own idx with
  | some (kd, mj, _) => !([0, 1, 2, 10, 11, 12].contains kd) || S.contains mj
  | none => true
def am_naI (own : Nat) (S : List Nat) (i : Instr) : Bool := match i with
  | .new _ => false
  | .newarray _ => false
  | .anewarray _ => false
  | .invokevirtual idx => am_naC own S idx
  | .invokespecial idx => am_naC own S idx
  | .invokestatic idx => am_naC own S idx
  | _ => true
def am_naM (S : List Nat) (mi : Nat) : Bool := match am_mt[mi]? with
  | none => true
  | some e => (List.range e.2.2.2.1.size).all fun pc => match decode e.2.2.2.1 pc with
    | .error _ => true
    | .ok (i, _) => am_naI e.1 S i
def am_naS : List Nat := [1, 2, 3, 5, 6, 7, 8, 13, 15, 16, 32, 33, 34, 35, 36, 37, 38, 39, 40, 41, 42, 43, 44, 45, 46, 47, 48, 49, 50, 51, 52, 53, 54, 55, 57, 58, 59, 60, 61, 62, 63, 64, 65, 66, 67, 68, 69, 70, 71, 72, 73, 113, 114, 115, 116, 117, 118, 119, 120, 121, 122, 123, 124, 125, 126, 127, 131, 132, 142, 154, 155, 156, 157, 158, 175, 189, 227, 228, 229, 230, 231, 232, 233, 234, 235, 236, 237, 238, 239, 240, 241, 242, 243, 244, 245, 246, 247, 248, 249, 250, 251, 252, 253, 254, 255, 256, 257, 258, 259, 260, 261, 262, 263, 264, 265, 266, 267, 268, 282, 283]
theorem am_naM_0 : [1, 2, 3, 5, 6, 7, 8, 13, 15, 16, 32, 33].all (am_naM am_naS) = true := by decide +kernel
theorem am_naM_1 : [34, 35, 36, 37, 38, 39, 40, 41, 42, 43, 44, 45].all (am_naM am_naS) = true := by decide +kernel
theorem am_naM_2 : [46, 47, 48, 49, 50, 51, 52, 53, 54, 55, 57, 58].all (am_naM am_naS) = true := by decide +kernel
theorem am_naM_3 : [59, 60, 61, 62, 63, 64, 65, 66, 67, 68, 69, 70].all (am_naM am_naS) = true := by decide +kernel
theorem am_naM_4 : [71, 72, 73, 113, 114, 115, 116, 117, 118, 119, 120, 121].all (am_naM am_naS) = true := by decide +kernel
theorem am_naM_5 : [122, 123, 124, 125, 126, 127, 131, 132, 142, 154, 155, 156].all (am_naM am_naS) = true := by decide +kernel
theorem am_naM_6 : [157, 158, 175, 189, 227, 228, 229, 230, 231, 232, 233, 234].all (am_naM am_naS) = true := by decide +kernel
theorem am_naM_7 : [235, 236, 237, 238, 239, 240, 241, 242, 243, 244, 245, 246].all (am_naM am_naS) = true := by decide +kernel
theorem am_naM_8 : [247, 248, 249, 250, 251, 252, 253, 254, 255, 256, 257, 258].all (am_naM am_naS) = true := by decide +kernel
theorem am_naM_9 : [259, 260, 261, 262, 263, 264, 265, 266, 267, 268, 282, 283].all (am_naM am_naS) = true := by decide +kernel
theorem am_naM_all : ∀ mi, mi ∈ am_naS → am_naM am_naS mi = true := fun mi hm => by
  have e : am_naS = [1, 2, 3, 5, 6, 7, 8, 13, 15, 16, 32, 33] ++ [34, 35, 36, 37, 38, 39, 40, 41, 42, 43, 44, 45] ++ [46, 47, 48, 49, 50, 51, 52, 53, 54, 55, 57, 58] ++ [59, 60, 61, 62, 63, 64, 65, 66, 67, 68, 69, 70] ++ [71, 72, 73, 113, 114, 115, 116, 117, 118, 119, 120, 121] ++ [122, 123, 124, 125, 126, 127, 131, 132, 142, 154, 155, 156] ++ [157, 158, 175, 189, 227, 228, 229, 230, 231, 232, 233, 234] ++ [235, 236, 237, 238, 239, 240, 241, 242, 243, 244, 245, 246] ++ [247, 248, 249, 250, 251, 252, 253, 254, 255, 256, 257, 258] ++ [259, 260, 261, 262, 263, 264, 265, 266, 267, 268, 282, 283] := rfl
  rw [e] at hm
  simp only [List.mem_append] at hm
  rcases hm with ((((((((h | h) | h) | h) | h) | h) | h) | h) | h) | h
  · exact List.all_eq_true.mp am_naM_0 mi h
  · exact List.all_eq_true.mp am_naM_1 mi h
  · exact List.all_eq_true.mp am_naM_2 mi h
  · exact List.all_eq_true.mp am_naM_3 mi h
  · exact List.all_eq_true.mp am_naM_4 mi h
  · exact List.all_eq_true.mp am_naM_5 mi h
  · exact List.all_eq_true.mp am_naM_6 mi h
  · exact List.all_eq_true.mp am_naM_7 mi h
  · exact List.all_eq_true.mp am_naM_8 mi h
  · exact List.all_eq_true.mp am_naM_9 mi h

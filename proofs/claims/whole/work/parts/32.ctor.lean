/-! THE CONSTRUCTORS -/
section CTOR
variable {d : Nat} {h : am_H} {Q : Option Value → am_H → Prop} {a : Nat}
theorem c_new_1 {t : Nat × Nat} {n : Nat} : (am_new h t n).1 = h.1 + 1 := rfl
theorem c_setR_1 {b k : Nat} {x : Option Nat} : (am_setR h b k x).1 = h.1 := rfl
theorem c_setI_1 {b k : Nat} {x : Int32} : (am_setI h b k x).1 = h.1 := rfl
theorem c_new_tg {t : Nat × Nat} {n b : Nat} : am_tg (am_new h t n) b = if b = h.1 then t else am_tg h b := rfl
theorem c_new_R {t : Nat × Nat} {n b k : Nat} : am_R (am_new h t n) b k = if b = h.1 then none else am_R h b k := rfl
theorem c_setR_tg {b k c : Nat} {x : Option Nat} : am_tg (am_setR h b k x) c = am_tg h c := rfl
theorem c_setI_tg {b k c : Nat} {x : Int32} : am_tg (am_setI h b k x) c = am_tg h c := rfl
theorem c_setI_R {b k c j : Nat} {x : Int32} : am_R (am_setI h b k x) c j = am_R h c j := rfl
theorem c_setR_R {b k c j : Nat} {x : Option Nat} : am_R (am_setR h b k x) c j = if c = b then (if j = k then x else am_R h c j) else am_R h c j := rfl
theorem c_ob_setR {b k c : Nat} {x : Option Nat} (O : am_ob h a c) : am_ob (am_setR h b k x) a c := O
theorem c_ob_setI {b k c : Nat} {x : Int32} (O : am_ob h a c) : am_ob (am_setI h b k x) a c := O
theorem c_ob_new {t : Nat × Nat} {n c : Nat} (O : am_ob h a c) : am_ob (am_new h t n) a c := by
  obtain ⟨h1, h2⟩ := O
  refine ⟨Nat.lt_succ_of_lt h1, ?_⟩
  rw [c_new_tg, if_neg (Nat.ne_of_lt h1)]
  exact h2
theorem c_ob_it {n c : Nat} (e : a = h.1) : am_ob (am_new h (c, 0) n) a c := ⟨by rw [e]; exact Nat.lt_succ_self _, by rw [c_new_tg, if_pos e]⟩
theorem c_max {n : Nat} (hn : n < 2 ^ 31) : (if nI n < nI 0 then nI 0 else nI n) = nI n := if_neg (nI_nlt (Nat.zero_le _) hn)
theorem x_cell : am_J (d + 1) 0 0 [some (.ref a)] [] h Q ↔ Q none h := by
  simp only [g0_0, g0_1, g0_4]
theorem x_frame : am_J (d + 1) 19 0 [some (.ref a)] [] h Q ↔ Q none h := by
  simp only [g19_0, g19_1, g19_4]
def c_lexer (h : am_H) (a : Nat) : am_H := am_setI h a 9 (-1)
theorem x_lexer (O : am_ob h a 3) (h4 : 4 ≤ a) : am_J (d + 1) 20 0 [some (.ref a)] [] h Q ↔ Q none (c_lexer h a) := by
  simp (disch := first | exact O | exact h4) only [g20_0, g20_1, g20_4, g20_5, g20_6, g20_9, c_lexer]
def c_numbers (h : am_H) (a : Nat) : am_H := am_setR (am_new (am_setR (am_new (am_setR (am_new h (104, 1024) 1024) a 0 (some h.1)) (101, 1024) 1024) a 1 (some (h.1 + 1))) (102, 1024) 1024) a 2 (some (h.1 + 1 + 1))
theorem x_numbers (O : am_ob h a 5) (h4 : 4 ≤ a) : am_J (d + 1) 56 0 [some (.ref a)] [] h Q ↔ Q none (c_numbers h a) := by
  simp (disch := first | exact h4 | decide | (repeat (first | exact O | refine c_ob_setR ?_ | refine c_ob_new ?_))) only [g56_0, g56_1, g56_4, g56_5, g56_8, g56_10, g56_10r, g56_10n, g56_13, g56_14, g56_17, g56_19, g56_19r, g56_19n, g56_22, g56_23, g56_26, g56_28, g56_28r, g56_28n, g56_31, c_new_1, c_setR_1, c_numbers]
def c_text (h : am_H) (a n : Nat) : am_H := am_setR (am_new h (103, n) n) a 0 (some h.1)
theorem x_text {n : Nat} (hn : n ≤ 65536) (O : am_ob h a 10) (h4 : 4 ≤ a) : am_J (d + 1) 133 0 [some (.ref a), some (.int (nI n))] [] h Q ↔ Q none (c_text h a n) := by
  simp (disch := first | exact h4 | exact hn | omega | (repeat (first | exact O | refine c_ob_setR ?_ | refine c_ob_new ?_))) only [g133_0, g133_1, g133_4, g133_5, g133_6, g133_7, g133_10, g133_12, g133_12r, g133_12n, g133_15, c_new_1, c_setR_1, c_max, c_text]
/-! arrays filled with new objects -/
def c_fill (t n arr : Nat) : Nat → am_H → am_H
  | 0, h => h
  | j + 1, h => am_setR (am_new (c_fill t n arr j h) (t, 0) n) arr j (some (c_fill t n arr j h).1)
theorem c_fill_1 {t n arr : Nat} : ∀ j, (c_fill t n arr j h).1 = h.1 + j
  | 0 => rfl
  | j + 1 => by
    show (c_fill t n arr j h).1 + 1 = _
    rw [c_fill_1 j]; omega
theorem c_fill_tg {t n arr b : Nat} (hb : b < h.1) : ∀ j, am_tg (c_fill t n arr j h) b = am_tg h b
  | 0 => rfl
  | j + 1 => by
    show am_tg (am_new (c_fill t n arr j h) (t, 0) n) b = _
    rw [c_new_tg, if_neg (by rw [c_fill_1]; omega), c_fill_tg hb j]
theorem c_fill_R {t n arr b k : Nat} (hb : b < h.1) (hn : b ≠ arr) : ∀ j, am_R (c_fill t n arr j h) b k = am_R h b k
  | 0 => rfl
  | j + 1 => by
    show am_R (am_setR (am_new (c_fill t n arr j h) (t, 0) n) arr j _) b k = _
    rw [c_setR_R, if_neg hn, c_new_R, if_neg (by rw [c_fill_1]; omega), c_fill_R hb hn j]
theorem c_fill_ob {t n arr b c : Nat} (O : am_ob h b c) (j : Nat) : am_ob (c_fill t n arr j h) b c := ⟨by rw [c_fill_1]; exact Nat.lt_of_lt_of_le O.1 (Nat.le_add_right _ _), by rw [c_fill_tg O.1]; exact O.2⟩
theorem c_fill_ax {t n arr b kd q : Nat} (X : am_ax h b kd q) (j : Nat) : am_ax (c_fill t n arr j h) b kd q := by
  obtain ⟨x1, x2, x3, x4⟩ := X
  refine ⟨by rw [c_fill_1]; omega, ?_, ?_, x4⟩
  · rw [c_fill_tg x1]; exact x2
  · rw [c_fill_tg x1]; exact x3
theorem c_ax_new {t : Nat × Nat} {n b kd q : Nat} (X : am_ax h b kd q) : am_ax (am_new h t n) b kd q := by
  obtain ⟨x1, x2, x3, x4⟩ := X
  refine ⟨Nat.lt_succ_of_lt x1, ?_, ?_, x4⟩
  · rw [c_new_tg, if_neg (Nat.ne_of_lt x1)]; exact x2
  · rw [c_new_tg, if_neg (Nat.ne_of_lt x1)]; exact x3
theorem x_cells (O : am_ob h 9 4) (hR : am_R h 9 0 = some 10) (X : ∀ q, q < 256 → am_ax h 10 200 q) : ∀ m j, j + m = 256 → (am_J (d + 2) 31 88 [some (.ref 9), some (.int (nI j))] [] (c_fill 0 10 10 j h) Q ↔ am_J (d + 2) 31 114 [some (.ref 9), some (.int (nI 256))] [] (c_fill 0 10 10 256 h) Q) := by
  intro m
  induction m with
  | zero =>
    intro j hj
    obtain rfl : j = 256 := by omega
    simp only [g31_88, g31_89, g31_92, if_pos (show nI 256 ≤ nI 256 by decide)]
  | succ m ih =>
    intro j hj
    have O1 := c_fill_ob (t := 0) (n := 10) (arr := 10) O j
    have R1 : am_R (c_fill 0 10 10 j h) 9 0 = some 10 := by rw [c_fill_R O.1 (by decide)]; exact hR
    have X1 := c_ax_new (t := (0, 0)) (n := 10) (c_fill_ax (t := 0) (n := 10) (arr := 10) (X j (by omega)) j)
    have h4 : 4 ≤ (c_fill 0 10 10 j h).1 := by rw [c_fill_1]; have := O.1; omega
    rw [g31_88, g31_89, g31_92, if_neg (nI_ge (show j < 256 by omega) (by decide))]
    simp only [g31_95, g31_96 O1, R1, va_rf, g31_99, g31_100, g31_103 (show (Value.ref (c_fill 0 10 10 j h).1).category = 1 from rfl), g31_104, x_cell, Option.toList, List.nil_append, g31_107 X1 (c_ob_it rfl) (show 4 ≤ 10 by decide) h4, g31_108, g31_111, nI_add]
    exact ih (j + 1) (by omega)
theorem x_frames (O : am_ob h 9 4) (hR : am_R h 9 3 = some 16) (hlt : 16 < h.1) (hT : am_tg h 16 = (202, 22)) : ∀ m j, j + m = 22 → (am_J (d + 2) 31 116 [some (.ref 9), some (.int (nI j))] [] (c_fill 2 8 16 j h) Q ↔ Q none (c_fill 2 8 16 22 h)) := by
  intro m
  induction m with
  | zero =>
    intro j hj
    obtain rfl : j = 22 := by omega
    have O1 := c_fill_ob (t := 2) (n := 8) (arr := 16) O 22
    have R1 : am_R (c_fill 2 8 16 22 h) 9 3 = some 16 := by rw [c_fill_R O.1 (by decide)]; exact hR
    have T1 : am_tg (c_fill 2 8 16 22 h) 16 = (202, 22) := by rw [c_fill_tg hlt]; exact hT
    have L1 : 16 < (c_fill 2 8 16 22 h).1 := by rw [c_fill_1]; omega
    rw [g31_116, g31_117, g31_118 O1, R1]
    simp only [va_rf]
    rw [g31_121 L1 (by rw [T1]; decide), T1, g31_122, if_pos (show nI 22 ≤ nI 22 by decide), g31_144]
  | succ m ih =>
    intro j hj
    have O1 := c_fill_ob (t := 2) (n := 8) (arr := 16) O j
    have R1 : am_R (c_fill 2 8 16 j h) 9 3 = some 16 := by rw [c_fill_R O.1 (by decide)]; exact hR
    have T1 : am_tg (c_fill 2 8 16 j h) 16 = (202, 22) := by rw [c_fill_tg hlt]; exact hT
    have L1 : 16 < (c_fill 2 8 16 j h).1 := by rw [c_fill_1]; omega
    have X0 : am_ax (c_fill 2 8 16 j h) 16 202 j := ⟨L1, by rw [T1], by rw [T1]; show j < 22; omega, by omega⟩
    have X1 := c_ax_new (t := (2, 0)) (n := 8) X0
    have h4 : 4 ≤ (c_fill 2 8 16 j h).1 := by omega
    rw [g31_116, g31_117, g31_118 O1, R1]
    simp only [va_rf]
    rw [g31_121 L1 (by rw [T1]; decide), T1, g31_122, if_neg (nI_ge (show j < 22 by omega) (by decide))]
    simp only [g31_125, g31_126 O1, R1, va_rf, g31_129, g31_130, g31_133 (show (Value.ref (c_fill 2 8 16 j h).1).category = 1 from rfl), g31_134, x_frame, Option.toList, List.nil_append, g31_137 X1 (c_ob_it rfl) (show 4 ≤ 16 by decide) h4, g31_138, g31_141, nI_add]
    exact ih (j + 1) (by omega)
def c_mach1 (h : am_H) : am_H :=
  let h1 := am_setR (am_new h (200, 256) 256) 9 0 (some 10)
  let h2 := am_setR (am_new h1 (201, 8) 8) 9 1 (some 11)
  let h3 := am_setR (c_numbers (am_new h2 (5, 0) 4) 12) 9 2 (some 12)
  let h4 := am_setR (am_new h3 (202, 22) 22) 9 3 (some 16)
  let h5 := am_setR (am_new h4 (100, 210) 210) 9 4 (some 17)
  let h6 := am_setR (am_new h5 (100, 210) 210) 9 5 (some 18)
  let h7 := am_setR (am_new h6 (100, 210) 210) 9 6 (some 19)
  let h8 := am_setR (am_new h7 (102, 64) 64) 9 7 (some 20)
  am_setR (am_new h8 (102, 64) 64) 9 8 (some 21)
theorem c_numbers_1 {a : Nat} : (c_numbers h a).1 = h.1 + 3 := rfl
theorem c_ob_numbers {a b c : Nat} (O : am_ob h b c) : am_ob (c_numbers h a) b c := c_ob_setR (c_ob_new (c_ob_setR (c_ob_new (c_ob_setR (c_ob_new O)))))
theorem x_mach1 (hs : h.1 = 10) (O : am_ob h 9 4) : am_J (d + 2) 31 0 [some (.ref 9), none] [] h Q ↔ am_J (d + 2) 31 88 [some (.ref 9), some (.int (nI 0))] [] (c_mach1 h) Q := by
  simp (disch := first | decide | (repeat (first | exact O | exact c_ob_it hs | exact c_ob_it (by simp only [c_new_1, c_setR_1, c_numbers_1, hs]) | refine c_ob_setR ?_ | refine c_ob_new ?_ | refine c_ob_numbers ?_)) | rfl) only [g31_0, g31_1, g31_4, g31_5, g31_8, g31_11, g31_11r, g31_11n, g31_14, g31_15, g31_17, g31_20, g31_20r, g31_20n, g31_23, g31_24, g31_27, g31_28, g31_31, g31_31r, g31_31n, g31_34, g31_35, g31_37, g31_40, g31_40r, g31_40n, g31_43, g31_44, g31_47, g31_49, g31_49r, g31_49n, g31_52, g31_53, g31_56, g31_58, g31_58r, g31_58n, g31_61, g31_62, g31_65, g31_67, g31_67r, g31_67n, g31_70, g31_71, g31_73, g31_75, g31_75r, g31_75n, g31_78, g31_79, g31_81, g31_83, g31_83r, g31_83n, g31_86, g31_87, c_new_1, c_setR_1, c_numbers_1, x_numbers, hs, Nat.reduceAdd, Option.toList, List.nil_append, c_mach1]
/-- heap g keeps what heap h holds, as far as tags go -/
def c_X (h g : am_H) : Prop := h.1 ≤ g.1 ∧ ∀ b, b < h.1 → am_tg g b = am_tg h b
theorem c_X_ob {g : am_H} {b c : Nat} (X : c_X h g) (O : am_ob h b c) : am_ob g b c := ⟨Nat.lt_of_lt_of_le O.1 X.1, by rw [X.2 b O.1]; exact O.2⟩
theorem c_X_ax {g : am_H} {b kd q : Nat} (X : c_X h g) (A : am_ax h b kd q) : am_ax g b kd q := by
  obtain ⟨x1, x2, x3, x4⟩ := A
  exact ⟨Nat.lt_of_lt_of_le x1 X.1, by rw [X.2 b x1]; exact x2, by rw [X.2 b x1]; exact x3, x4⟩
theorem c_X_refl : c_X h h := ⟨Nat.le_refl _, fun _ _ => rfl⟩
theorem c_X_new {g : am_H} {t : Nat × Nat} {n : Nat} (X : c_X h g) : c_X h (am_new g t n) := ⟨Nat.le_succ_of_le X.1, fun b hb => by rw [c_new_tg, if_neg (by have := X.1; omega)]; exact X.2 b hb⟩
theorem c_X_setR {g : am_H} {b k : Nat} {x : Option Nat} (X : c_X h g) : c_X h (am_setR g b k x) := X
theorem c_X_setI {g : am_H} {b k : Nat} {x : Int32} (X : c_X h g) : c_X h (am_setI g b k x) := X
theorem c_X_fill {g : am_H} {t n arr j : Nat} (X : c_X h g) : c_X h (c_fill t n arr j g) := ⟨by rw [c_fill_1]; have := X.1; omega, fun b hb => by rw [c_fill_tg (Nat.lt_of_lt_of_le hb X.1)]; exact X.2 b hb⟩
theorem c_X_text {g : am_H} {a n : Nat} (X : c_X h g) : c_X h (c_text g a n) := c_X_setR (c_X_new X)
theorem c_X_numbers {g : am_H} {a : Nat} (X : c_X h g) : c_X h (c_numbers g a) := c_X_setR (c_X_new (c_X_setR (c_X_new (c_X_setR (c_X_new X)))))
theorem c_X_mach1 {g : am_H} (X : c_X h g) : c_X h (c_mach1 g) :=
  c_X_setR <| c_X_new <| c_X_setR <| c_X_new <| c_X_setR <| c_X_new <| c_X_setR <| c_X_new <| c_X_setR <| c_X_new <| c_X_setR <| c_X_new <| c_X_setR <| c_X_numbers <| c_X_new <| c_X_setR <| c_X_new <| c_X_setR <| c_X_new X
def c_machine (h : am_H) : am_H := c_fill 2 8 16 22 (c_fill 0 10 10 256 (c_mach1 h))
theorem c_X_machine {g : am_H} (X : c_X h g) : c_X h (c_machine g) := c_X_fill (c_X_fill (c_X_mach1 X))
theorem c_mach1_1 : (c_mach1 h).1 = h.1 + 12 := rfl
theorem x_machine (hs : h.1 = 10) (O : am_ob h 9 4) : am_J (d + 2) 31 0 [some (.ref 9), none] [] h Q ↔ Q none (c_machine h) := by
  have O1 : am_ob (c_mach1 h) 9 4 := c_X_ob (c_X_mach1 c_X_refl) O
  have T10 : am_tg (c_mach1 h) 10 = (200, 256) := by
    simp only [c_mach1, c_numbers, c_setR_tg, c_new_tg, c_new_1, c_setR_1, hs, Nat.reduceAdd]
    simp
  have T16 : am_tg (c_mach1 h) 16 = (202, 22) := by
    simp only [c_mach1, c_numbers, c_setR_tg, c_new_tg, c_new_1, c_setR_1, hs, Nat.reduceAdd]
    simp
  have R0 : am_R (c_mach1 h) 9 0 = some 10 := by
    simp only [c_mach1, c_numbers, c_setR_R, c_new_R, c_new_1, c_setR_1, hs, Nat.reduceAdd]
    simp
  have R3 : am_R (c_mach1 h) 9 3 = some 16 := by
    simp only [c_mach1, c_numbers, c_setR_R, c_new_R, c_new_1, c_setR_1, hs, Nat.reduceAdd]
    simp
  have L1 : (c_mach1 h).1 = 22 := by rw [c_mach1_1, hs]
  have A : ∀ q, q < 256 → am_ax (c_mach1 h) 10 200 q := fun q hq => ⟨by rw [L1]; decide, by rw [T10], by rw [T10]; exact hq, by omega⟩
  rw [x_mach1 hs O]
  refine (x_cells O1 R0 A 256 0 rfl).trans ?_
  rw [g31_114, g31_115]
  exact x_frames (c_fill_ob O1 256) (by rw [c_fill_R O1.1 (by decide)]; exact R3) (by rw [c_fill_1, L1]; decide) (by rw [c_fill_tg (by rw [L1]; decide)]; exact T16) 22 0 rfl
def c_code (h : am_H) (a n1 n2 n3 : Nat) : am_H :=
  let h1 := am_setR (am_new h (101, 4) 4) a 4 (some h.1)
  let h2 := am_setR (am_new h1 (103, n1) n1) a 0 (some (h.1 + 1))
  let h3 := am_setR (am_new h2 (101, n1) n1) a 1 (some (h.1 + 1 + 1))
  let h4 := am_setR (c_text (am_new h3 (10, 0) 2) (h.1 + 1 + 1 + 1) n2) a 2 (some (h.1 + 1 + 1 + 1))
  am_setR (am_new h4 (100, n3) n3) a 3 (some (h.1 + 1 + 1 + 1 + 1 + 1))
theorem c_text_1 {n : Nat} : (c_text h a n).1 = h.1 + 1 := rfl
theorem c_code_1 {n1 n2 n3 : Nat} : (c_code h a n1 n2 n3).1 = h.1 + 6 := rfl
theorem c_X_code {g : am_H} {a n1 n2 n3 : Nat} (X : c_X h g) : c_X h (c_code g a n1 n2 n3) := c_X_setR <| c_X_new <| c_X_setR <| c_X_text <| c_X_new <| c_X_setR <| c_X_new <| c_X_setR <| c_X_new <| c_X_setR <| c_X_new X
theorem c_cat {n : Nat} : (Value.ref n).category = 1 := rfl
theorem x_code {n1 n2 n3 : Nat} (h1 : n1 ≤ 65536) (h2 : n2 ≤ 65536) (h3 : n3 ≤ 65536) (O : am_ob h a 1) (h4 : 4 ≤ a) : am_J (d + 2) 9 0 [some (.ref a), some (.int (nI n1)), some (.int (nI n2)), some (.int (nI n3))] [] h Q ↔ Q none (c_code h a n1 n2 n3) := by
  have h5 : a < h.1 := O.1
  simp (disch := first | exact c_cat | exact h4 | exact h1 | exact h2 | exact h3 | decide | omega | (refine c_X_ob ?_ O; repeat (first | exact c_X_refl | refine c_X_setR ?_ | refine c_X_new ?_ | refine c_X_text ?_)) | exact c_ob_it rfl) only [g9_0, g9_1, g9_4, g9_5, g9_6, g9_8, g9_8r, g9_8n, g9_11, g9_12, g9_13, g9_14, g9_17, g9_19, g9_19r, g9_19n, g9_22, g9_23, g9_24, g9_25, g9_28, g9_30, g9_30r, g9_30n, g9_33, g9_34, g9_37, g9_38, g9_39, g9_42, g9_42r, g9_42n, g9_45, g9_46, g9_47, g9_48, g9_51, g9_53, g9_53r, g9_53n, g9_56, c_new_1, c_setR_1, c_text_1, x_text, c_max, Option.toList, List.nil_append, c_code]
def c_parser (h : am_H) : am_H :=
  let h1 := am_setR (c_lexer (am_new h (3, 0) 10) 302) 301 0 (some 302)
  let h2 := am_setR (c_code (am_new h1 (1, 0) 12) 303 160 400 256) 301 1 (some 303)
  let h3 := am_setR (am_new h2 (101, 3) 3) 301 3 (some 310)
  am_setR h3 301 2 (some 11)
theorem c_lexer_1 : (c_lexer h a).1 = h.1 := rfl
theorem c_X_lexer {g : am_H} {a : Nat} (X : c_X h g) : c_X h (c_lexer g a) := X
theorem c_X_parser {g : am_H} (X : c_X h g) : c_X h (c_parser g) := c_X_setR <| c_X_setR <| c_X_new <| c_X_setR <| c_X_code <| c_X_new <| c_X_setR <| c_X_lexer <| c_X_new X
theorem x_parser (hs : h.1 = 302) (O : am_ob h 301 6) : am_J (d + 3) 74 0 [some (.ref 301), some (.ref 11)] [] h Q ↔ Q none (c_parser h) := by
  simp (disch := first | rfl | decide | (refine c_X_ob ?_ O; repeat (first | exact c_X_refl | refine c_X_setR ?_ | refine c_X_new ?_ | refine c_X_lexer ?_ | refine c_X_code ?_)) | exact c_ob_it hs.symm | exact c_ob_it (by simp only [c_new_1, c_setR_1, c_lexer_1, hs])) only [g74_0, g74_1, g74_4, g74_5, g74_8, g74_9, g74_12, g74_12r, g74_12n, g74_15, g74_16, g74_19, g74_20, g74_23, g74_26, g74_29, g74_32, g74_32r, g74_32n, g74_35, g74_36, g74_37, g74_39, g74_39r, g74_39n, g74_42, g74_43, g74_44, g74_44r, g74_44n, g74_47, c_new_1, c_setR_1, c_lexer_1, c_code_1, x_lexer, x_code, hs, Nat.reduceAdd, Option.toList, List.nil_append, c_parser]
def c_plan (h : am_H) : am_H :=
  let h1 := am_setR (am_new h (100, 48) 48) 311 0 (some 312)
  let h2 := am_setR (am_new h1 (101, 48) 48) 311 1 (some 313)
  let h3 := am_setR (am_new h2 (101, 48) 48) 311 2 (some 314)
  let h4 := am_setR (am_new h3 (100, 48) 48) 311 3 (some 315)
  let h5 := am_setR (am_new h4 (100, 48) 48) 311 4 (some 316)
  let h6 := am_setR (am_new h5 (100, 49) 49) 311 5 (some 317)
  am_setR (am_new h6 (100, 48) 48) 311 6 (some 318)
theorem c_X_plan {g : am_H} (X : c_X h g) : c_X h (c_plan g) := c_X_setR <| c_X_new <| c_X_setR <| c_X_new <| c_X_setR <| c_X_new <| c_X_setR <| c_X_new <| c_X_setR <| c_X_new <| c_X_setR <| c_X_new <| c_X_setR <| c_X_new X
theorem x_plan (hs : h.1 = 312) (O : am_ob h 311 7) : am_J (d + 1) 112 0 [some (.ref 311)] [] h Q ↔ Q none (c_plan h) := by
  simp (disch := first | rfl | decide | (refine c_X_ob ?_ O; repeat (first | exact c_X_refl | refine c_X_setR ?_ | refine c_X_new ?_))) only [g112_0, g112_1, g112_4, g112_5, g112_7, g112_9, g112_9r, g112_9n, g112_12, g112_13, g112_15, g112_17, g112_17r, g112_17n, g112_20, g112_21, g112_23, g112_25, g112_25r, g112_25n, g112_28, g112_29, g112_31, g112_33, g112_33r, g112_33n, g112_36, g112_37, g112_39, g112_41, g112_41r, g112_41n, g112_44, g112_45, g112_47, g112_49, g112_49r, g112_49n, g112_52, g112_53, g112_55, g112_57, g112_57r, g112_57n, g112_60, c_new_1, c_setR_1, hs, Nat.reduceAdd, c_plan]
theorem x_consts {b : Nat} (O : am_ob h a 9) (hR : am_R h a 0 = some b) (hab : a ≠ b) (hb : b < h.1) (hT : am_tg h b = (200, 5)) (h4 : 4 ≤ b) : ∀ m j, j + m = 5 → (am_J (d + 2) 128 14 [some (.ref a), some (.int (nI j))] [] (c_fill 0 10 b j h) Q ↔ Q none (c_fill 0 10 b 5 h)) := by
  intro m
  induction m with
  | zero =>
    intro j hj
    obtain rfl : j = 5 := by omega
    rw [g128_14, g128_15, g128_16, if_pos (show nI 5 ≤ nI 5 by decide), g128_38]
  | succ m ih =>
    intro j hj
    have O1 := c_fill_ob (t := 0) (n := 10) (arr := b) O j
    have R1 : am_R (c_fill 0 10 b j h) a 0 = some b := by rw [c_fill_R O.1 hab]; exact hR
    have T1 : am_tg (c_fill 0 10 b j h) b = (200, 5) := by rw [c_fill_tg hb]; exact hT
    have L1 : b < (c_fill 0 10 b j h).1 := by rw [c_fill_1]; omega
    have X0 : am_ax (c_fill 0 10 b j h) b 200 j := ⟨L1, by rw [T1], by rw [T1]; show j < 5; omega, by omega⟩
    have X1 := c_ax_new (t := (0, 0)) (n := 10) X0
    have h5 : 4 ≤ (c_fill 0 10 b j h).1 := by omega
    rw [g128_14, g128_15, g128_16, if_neg (nI_ge (show j < 5 by omega) (by decide))]
    simp only [g128_19, g128_20 O1, R1, va_rf, g128_23, g128_24, g128_27 (c_cat (n := (c_fill 0 10 b j h).1)), g128_28, x_cell, Option.toList, List.nil_append, g128_31 X1 (c_ob_it rfl) h4 h5, g128_32, g128_35, nI_add]
    exact ih (j + 1) (by omega)
def c_sheet (h : am_H) (a : Nat) : am_H := c_fill 0 10 h.1 5 (am_setR (am_new h (200, 5) 5) a 0 (some h.1))
theorem c_sheet_1 : (c_sheet h a).1 = h.1 + 6 := by unfold c_sheet; rw [c_fill_1]; rfl
theorem c_X_sheet {g : am_H} {a : Nat} (X : c_X h g) : c_X h (c_sheet g a) := c_X_fill <| c_X_setR <| c_X_new X
theorem c_sheet_R {b k : Nat} (hb : b < h.1) (hn : b ≠ a) : am_R (c_sheet h a) b k = am_R h b k := by
  unfold c_sheet
  rw [c_fill_R (Nat.lt_succ_of_lt hb) (Nat.ne_of_lt hb), c_setR_R, if_neg hn, c_new_R, if_neg (Nat.ne_of_lt hb)]
theorem x_sheet (O : am_ob h a 9) (h4 : 4 ≤ a) : am_J (d + 2) 128 0 [some (.ref a), none] [] h Q ↔ Q none (c_sheet h a) := by
  have h5 : a < h.1 := O.1
  simp (disch := first | exact h4 | decide | (refine c_X_ob ?_ O; repeat (first | exact c_X_refl | refine c_X_setR ?_ | refine c_X_new ?_))) only [g128_0, g128_1, g128_4, g128_5, g128_6, g128_9, g128_9r, g128_9n, g128_12, g128_13, c_new_1, c_setR_1]
  refine x_consts (c_X_ob (c_X_setR (c_X_new c_X_refl)) O) ?_ (Nat.ne_of_lt h5) (Nat.lt_succ_self _) ?_ (by omega) 5 0 rfl
  · rw [c_setR_R, if_pos rfl, if_pos rfl]
  · rw [c_setR_tg, c_new_tg, if_pos rfl]
def c_shs : Nat → am_H → am_H
  | 0, h => h
  | j + 1, h => am_setR (c_sheet (am_new (c_shs j h) (9, 0) 5) (c_shs j h).1) 300 j (some (c_shs j h).1)
theorem c_shs_1 : ∀ j, (c_shs j h).1 = h.1 + 7 * j
  | 0 => rfl
  | j + 1 => by
    show (c_sheet (am_new (c_shs j h) (9, 0) 5) (c_shs j h).1).1 = _
    rw [c_sheet_1, c_new_1, c_shs_1 j]; omega
theorem c_X_shs {g : am_H} (X : c_X h g) : ∀ j, c_X h (c_shs j g)
  | 0 => X
  | j + 1 => c_X_setR (c_X_sheet (c_X_new (c_X_shs X j)))
theorem c_shs_R {b k : Nat} (hb : b < h.1) (hn : b ≠ 300) : ∀ j, am_R (c_shs j h) b k = am_R h b k
  | 0 => rfl
  | j + 1 => by
    have hl : b < (c_shs j h).1 := by rw [c_shs_1]; omega
    show am_R (am_setR (c_sheet (am_new (c_shs j h) (9, 0) 5) (c_shs j h).1) 300 j _) b k = _
    rw [c_setR_R, if_neg hn, c_sheet_R (Nat.lt_succ_of_lt hl) (Nat.ne_of_lt hl), c_new_R, if_neg (Nat.ne_of_lt hl), c_shs_R hb hn j]
theorem x_sheets (O : am_ob h 4 11) (hR : am_R h 4 5 = some 300) (X : ∀ q, q < 4 → am_ax h 300 209 q) : ∀ m j, j + m = 4 → (am_J (d + 3) 138 124 [some (.ref 4), some (.int (nI j))] [] (c_shs j h) Q ↔ Q none (c_shs 4 h)) := by
  intro m
  induction m with
  | zero =>
    intro j hj
    obtain rfl : j = 4 := by omega
    rw [g138_124, g138_125, g138_126, if_pos (show nI 4 ≤ nI 4 by decide), g138_148]
  | succ m ih =>
    intro j hj
    have O1 := c_X_ob (c_X_shs c_X_refl j) O
    have R1 : am_R (c_shs j h) 4 5 = some 300 := by rw [c_shs_R O.1 (by decide)]; exact hR
    have X1 := c_X_ax (c_X_sheet (a := (c_shs j h).1) (c_X_new (t := (9, 0)) (n := 5) (c_X_shs c_X_refl j))) (X j (by omega))
    have h5 : 4 ≤ (c_shs j h).1 := by have := O1.1; omega
    have V : am_ob (c_sheet (am_new (c_shs j h) (9, 0) 5) (c_shs j h).1) (c_shs j h).1 9 := c_X_ob (c_X_sheet c_X_refl) (c_ob_it rfl)
    rw [g138_124, g138_125, g138_126, if_neg (nI_ge (show j < 4 by omega) (by decide))]
    simp only [g138_129, g138_130 O1, R1, va_rf, g138_133, g138_134, g138_137 (c_cat (n := (c_shs j h).1)), g138_138, x_sheet (c_ob_it (h := c_shs j h) (n := 5) (c := 9) rfl) h5, Option.toList, List.nil_append, g138_141 X1 V (show 4 ≤ 300 by decide) h5, g138_142, g138_145, nI_add]
    exact ih (j + 1) (by omega)
theorem c_machine_1 : (c_machine h).1 = h.1 + 290 := by unfold c_machine; rw [c_fill_1, c_fill_1, c_mach1_1]
theorem c_machine_R {b k : Nat} (hb : b < h.1) (h10 : b ≠ 10) (h16 : b ≠ 16) : am_R (c_machine h) b k = am_R (c_mach1 h) b k := by
  unfold c_machine
  rw [c_fill_R (by rw [c_fill_1, c_mach1_1]; omega) h16, c_fill_R (by rw [c_mach1_1]; omega) h10]
theorem c_parser_1 : (c_parser h).1 = h.1 + 9 := rfl
theorem c_plan_1 : (c_plan h).1 = h.1 + 7 := rfl
def c_bookA (h : am_H) : am_H :=
  let h1 := am_setR (c_text (am_new h (10, 0) 2) 5 240) 4 0 (some 5)
  let h2 := am_setR (c_text (am_new h1 (10, 0) 2) 7 400) 4 1 (some 7)
  am_setR (c_machine (am_new h2 (4, 0) 17)) 4 2 (some 9)
def c_bookB (h : am_H) : am_H := am_setR (am_setR h 4 3 (some 10)) 4 4 (some 11)
def c_bookC (h : am_H) : am_H :=
  let g1 := am_setR (am_new h (209, 4) 4) 4 5 (some 300)
  let g2 := am_setR (c_parser (am_new g1 (6, 0) 13)) 4 6 (some 301)
  let g3 := am_setR (c_plan (am_new g2 (7, 0) 13)) 4 7 (some 311)
  let g4 := am_setR (am_new g3 (103, 2560) 2560) 4 8 (some 319)
  let g5 := am_setR (am_new g4 (101, 2560) 2560) 4 9 (some 320)
  am_setI g5 4 13 (-1)
theorem x_bookA (hs : h.1 = 5) (O : am_ob h 4 11) : am_J (d + 3) 138 0 [some (.ref 4), none] [] h Q ↔ am_J (d + 3) 138 43 [some (.ref 4), none] [] (c_bookA h) Q := by
  simp (disch := first | exact c_cat | decide | (refine c_X_ob ?_ O; repeat (first | exact c_X_refl | refine c_X_setR ?_ | refine c_X_new ?_ | refine c_X_text ?_ | refine c_X_machine ?_)) | exact c_ob_it hs.symm | exact c_ob_it (by simp only [c_new_1, c_setR_1, c_text_1, hs]) | simp only [c_new_1, c_setR_1, c_text_1, hs]) only [g138_0, g138_1, g138_4, g138_5, g138_8, g138_9, g138_12, g138_15, g138_15r, g138_15n, g138_18, g138_19, g138_22, g138_23, g138_26, g138_29, g138_29r, g138_29n, g138_32, g138_33, g138_36, g138_37, g138_40, g138_40r, g138_40n, c_new_1, c_setR_1, c_text_1, x_text, x_machine, hs, Nat.reduceAdd, Option.toList, List.nil_append, c_bookA]
theorem x_bookB (O : am_ob h 4 11) (O9 : am_ob h 9 4) (R2 : am_R h 4 2 = some 9) (R0 : am_R h 9 0 = some 10) (R1 : am_R h 9 1 = some 11) : am_J d 138 43 [some (.ref 4), none] [] h Q ↔ am_J d 138 65 [some (.ref 4), none] [] (c_bookB h) Q := by
  have O' : am_ob (am_setR h 4 3 (some 10)) 4 11 := O
  have O9' : am_ob (am_setR h 4 3 (some 10)) 9 4 := O9
  have R2' : am_R (am_setR h 4 3 (some 10)) 4 2 = some 9 := by rw [c_setR_R]; exact R2
  have R1' : am_R (am_setR h 4 3 (some 10)) 9 1 = some 11 := by rw [c_setR_R]; exact R1
  simp only [g138_43, g138_44, g138_45 O, R2, va_rf, g138_48 O9, R0, g138_51r O (show 4 ≤ 4 by decide), g138_54, g138_55, g138_56 O', R2', g138_59 O9', R1', g138_62r O' (show 4 ≤ 4 by decide), c_bookB]
def c_neg (b : Nat) : Nat → am_H → am_H
  | 0, h => h
  | j + 1, h => am_setI (c_neg b j h) b j (-1)
theorem c_neg_1 {b : Nat} : ∀ j, (c_neg b j h).1 = h.1
  | 0 => rfl
  | j + 1 => c_neg_1 j
theorem c_neg_tg {b : Nat} : ∀ j, am_tg (c_neg b j h) = am_tg h
  | 0 => rfl
  | j + 1 => c_neg_tg j
def c_fresh (h : am_H) (n : Nat) : am_H := c_neg h.1 n (am_new h (100, n) n)
theorem c_fresh_1 {n : Nat} : (c_fresh h n).1 = h.1 + 1 := by unfold c_fresh; rw [c_neg_1]; rfl
theorem c_X_neg {g : am_H} {b j : Nat} (X : c_X h g) : c_X h (c_neg b j g) := ⟨by rw [c_neg_1]; exact X.1, fun q hq => by rw [c_neg_tg]; exact X.2 q hq⟩
theorem c_X_fresh {g : am_H} {n : Nat} (X : c_X h g) : c_X h (c_fresh g n) := c_X_neg (c_X_new X)
theorem x_negs {n b : Nat} (hn : n ≤ 65536) (hb : b < h.1) (hT : am_tg h b = (100, n)) (h4 : 4 ≤ b) : ∀ m j, j + m = n → (am_J d 171 6 [some (.int (nI n)), some (.ref b), some (.int (nI j))] [] (c_neg b j h) Q ↔ Q (some (.ref b)) (c_neg b n h)) := by
  intro m
  induction m with
  | zero =>
    intro j hj
    obtain rfl : j = n := by omega
    rw [g171_6, g171_7, g171_8, if_pos (nI_le (Nat.le_refl j) (by omega)), g171_21 (v := .ref b) rfl]
    exact g171_22 (r := some b)
  | succ m ih =>
    intro j hj
    have X1 : am_ax (c_neg b j h) b 100 j := ⟨by rw [c_neg_1]; exact hb, by rw [c_neg_tg, hT], by rw [c_neg_tg, hT]; show j < n; omega, by omega⟩
    rw [g171_6, g171_7, g171_8, if_neg (nI_ge (show j < n by omega) (by omega))]
    simp only [g171_11 (v := .ref b) rfl, g171_12, g171_13, g171_14 X1 h4, g171_15, g171_18, nI_add]
    exact ih (j + 1) (by omega)
theorem x_fresh {n : Nat} (hn : n ≤ 65536) (h4 : 4 ≤ h.1) : am_J d 171 0 [some (.int (nI n)), none, none] [] h Q ↔ Q (some (.ref h.1)) (c_fresh h n) := by
  rw [g171_0, g171_1 hn, g171_3 (v := .ref h.1) rfl, g171_4, g171_5]
  exact x_negs (h := am_new h (100, n) n) hn (Nat.lt_succ_self _) (by rw [c_new_tg, if_pos rfl]) h4 n 0 (by omega)
end CTOR

/-! THE CONSTRUCTORS -/
section CTOR
variable {d : Nat} {h : am_H} {Q : Option Value → am_H → Prop} {a : Nat}
theorem c_new_1 {t : Nat × Nat} {n : Nat} : (am_new h t n).1 = h.1 + 1 := rfl
theorem c_setR_1 {b k : Nat} {x : Option Nat} : (am_setR h b k x).1 = h.1 := rfl
theorem c_setI_1 {b k : Nat} {x : Int32} : (am_setI h b k x).1 = h.1 := rfl
theorem c_new_tg {t : Nat × Nat} {n b : Nat} : am_tg (am_new h t n) b = if b = h.1 then t else am_tg h b := rfl
theorem c_new_R {t : Nat × Nat} {n b k : Nat} : am_R (am_new h t n) b k = if b = h.1 then none else am_R h b k := rfl
theorem c_setR_tg {b k c : Nat} {x : Option Nat} : am_tg (am_setR h b k x) c = am_tg h c := rfl
theorem c_setI_tg {b k c : Nat} {x : Int32} : am_tg (am_setI h b k x) c = am_tg h c := rfl
theorem c_setI_R {b k c j : Nat} {x : Int32} : am_R (am_setI h b k x) c j = am_R h c j := rfl
theorem c_setR_R {b k c j : Nat} {x : Option Nat} : am_R (am_setR h b k x) c j = if c = b then (if j = k then x else am_R h c j) else am_R h c j := rfl
theorem c_ob_setR {b k c : Nat} {x : Option Nat} (O : am_ob h a c) : am_ob (am_setR h b k x) a c := O
theorem c_ob_setI {b k c : Nat} {x : Int32} (O : am_ob h a c) : am_ob (am_setI h b k x) a c := O
theorem c_ob_new {t : Nat × Nat} {n c : Nat} (O : am_ob h a c) : am_ob (am_new h t n) a c := by
  obtain ⟨h1, h2⟩ := O
  refine ⟨Nat.lt_succ_of_lt h1, ?_⟩
  rw [c_new_tg, if_neg (Nat.ne_of_lt h1)]
  exact h2
theorem c_ob_it {n c : Nat} (e : a = h.1) : am_ob (am_new h (c, 0) n) a c := ⟨by rw [e]; exact Nat.lt_succ_self _, by rw [c_new_tg, if_pos e]⟩
theorem c_max {n : Nat} (hn : n < 2 ^ 31) : (if nI n < nI 0 then nI 0 else nI n) = nI n := if_neg (nI_nlt (Nat.zero_le _) hn)
theorem x_cell : am_J (d + 1) 0 0 [some (.ref a)] [] h Q ↔ Q none h := by
  simp only [g0_0, g0_1, g0_4]
theorem x_frame : am_J (d + 1) 19 0 [some (.ref a)] [] h Q ↔ Q none h := by
  simp only [g19_0, g19_1, g19_4]
def c_lexer (h : am_H) (a : Nat) : am_H := am_setI h a 9 (-1)
theorem x_lexer (O : am_ob h a 3) (h4 : 4 ≤ a) : am_J (d + 1) 20 0 [some (.ref a)] [] h Q ↔ Q none (c_lexer h a) := by
  simp (disch := first | exact O | exact h4) only [g20_0, g20_1, g20_4, g20_5, g20_6, g20_9, c_lexer]
def c_numbers (h : am_H) (a : Nat) : am_H := am_setR (am_new (am_setR (am_new (am_setR (am_new h (104, 1024) 1024) a 0 (some h.1)) (101, 1024) 1024) a 1 (some (h.1 + 1))) (102, 1024) 1024) a 2 (some (h.1 + 1 + 1))
theorem x_numbers (O : am_ob h a 5) (h4 : 4 ≤ a) : am_J (d + 1) 56 0 [some (.ref a)] [] h Q ↔ Q none (c_numbers h a) := by
  simp (disch := first | exact h4 | decide | (repeat (first | exact O | refine c_ob_setR ?_ | refine c_ob_new ?_))) only [g56_0, g56_1, g56_4, g56_5, g56_8, g56_10, g56_10r, g56_10n, g56_13, g56_14, g56_17, g56_19, g56_19r, g56_19n, g56_22, g56_23, g56_26, g56_28, g56_28r, g56_28n, g56_31, c_new_1, c_setR_1, c_numbers]
def c_text (h : am_H) (a n : Nat) : am_H := am_setR (am_new h (103, n) n) a 0 (some h.1)
theorem x_text {n : Nat} (hn : n ≤ 65536) (O : am_ob h a 10) (h4 : 4 ≤ a) : am_J (d + 1) 133 0 [some (.ref a), some (.int (nI n))] [] h Q ↔ Q none (c_text h a n) := by
  simp (disch := first | exact h4 | exact hn | omega | (repeat (first | exact O | refine c_ob_setR ?_ | refine c_ob_new ?_))) only [g133_0, g133_1, g133_4, g133_5, g133_6, g133_7, g133_10, g133_12, g133_12r, g133_12n, g133_15, c_new_1, c_setR_1, c_max, c_text]
/-! arrays filled with new objects -/
def c_fill (t n arr : Nat) : Nat → am_H → am_H
  | 0, h => h
  | j + 1, h => am_setR (am_new (c_fill t n arr j h) (t, 0) n) arr j (some (c_fill t n arr j h).1)
theorem c_fill_1 {t n arr : Nat} : ∀ j, (c_fill t n arr j h).1 = h.1 + j
  | 0 => rfl
  | j + 1 => by
    show (c_fill t n arr j h).1 + 1 = _
    rw [c_fill_1 j]; omega
theorem c_fill_tg {t n arr b : Nat} (hb : b < h.1) : ∀ j, am_tg (c_fill t n arr j h) b = am_tg h b
  | 0 => rfl
  | j + 1 => by
    show am_tg (am_new (c_fill t n arr j h) (t, 0) n) b = _
    rw [c_new_tg, if_neg (by rw [c_fill_1]; omega), c_fill_tg hb j]
theorem c_fill_R {t n arr b k : Nat} (hb : b < h.1) (hn : b ≠ arr) : ∀ j, am_R (c_fill t n arr j h) b k = am_R h b k
  | 0 => rfl
  | j + 1 => by
    show am_R (am_setR (am_new (c_fill t n arr j h) (t, 0) n) arr j _) b k = _
    rw [c_setR_R, if_neg hn, c_new_R, if_neg (by rw [c_fill_1]; omega), c_fill_R hb hn j]
theorem c_fill_ob {t n arr b c : Nat} (O : am_ob h b c) (j : Nat) : am_ob (c_fill t n arr j h) b c := ⟨by rw [c_fill_1]; exact Nat.lt_of_lt_of_le O.1 (Nat.le_add_right _ _), by rw [c_fill_tg O.1]; exact O.2⟩
theorem c_fill_ax {t n arr b kd q : Nat} (X : am_ax h b kd q) (j : Nat) : am_ax (c_fill t n arr j h) b kd q := by
  obtain ⟨x1, x2, x3, x4⟩ := X
  refine ⟨by rw [c_fill_1]; omega, ?_, ?_, x4⟩
  · rw [c_fill_tg x1]; exact x2
  · rw [c_fill_tg x1]; exact x3
theorem c_ax_new {t : Nat × Nat} {n b kd q : Nat} (X : am_ax h b kd q) : am_ax (am_new h t n) b kd q := by
  obtain ⟨x1, x2, x3, x4⟩ := X
  refine ⟨Nat.lt_succ_of_lt x1, ?_, ?_, x4⟩
  · rw [c_new_tg, if_neg (Nat.ne_of_lt x1)]; exact x2
  · rw [c_new_tg, if_neg (Nat.ne_of_lt x1)]; exact x3
theorem x_cells (O : am_ob h 9 4) (hR : am_R h 9 0 = some 10) (X : ∀ q, q < 256 → am_ax h 10 200 q) : ∀ m j, j + m = 256 → (am_J (d + 2) 31 88 [some (.ref 9), some (.int (nI j))] [] (c_fill 0 10 10 j h) Q ↔ am_J (d + 2) 31 114 [some (.ref 9), some (.int (nI 256))] [] (c_fill 0 10 10 256 h) Q) := by
  intro m
  induction m with
  | zero =>
    intro j hj
    obtain rfl : j = 256 := by omega
    simp only [g31_88, g31_89, g31_92, if_pos (show nI 256 ≤ nI 256 by decide)]
  | succ m ih =>
    intro j hj
    have O1 := c_fill_ob (t := 0) (n := 10) (arr := 10) O j
    have R1 : am_R (c_fill 0 10 10 j h) 9 0 = some 10 := by rw [c_fill_R O.1 (by decide)]; exact hR
    have X1 := c_ax_new (t := (0, 0)) (n := 10) (c_fill_ax (t := 0) (n := 10) (arr := 10) (X j (by omega)) j)
    have h4 : 4 ≤ (c_fill 0 10 10 j h).1 := by rw [c_fill_1]; have := O.1; omega
    rw [g31_88, g31_89, g31_92, if_neg (nI_ge (show j < 256 by omega) (by decide))]
    simp only [g31_95, g31_96 O1, R1, va_rf, g31_99, g31_100, g31_103 (show (Value.ref (c_fill 0 10 10 j h).1).category = 1 from rfl), g31_104, x_cell, Option.toList, List.nil_append, g31_107 X1 (c_ob_it rfl) (show 4 ≤ 10 by decide) h4, g31_108, g31_111, nI_add]
    exact ih (j + 1) (by omega)
theorem x_frames (O : am_ob h 9 4) (hR : am_R h 9 3 = some 16) (hlt : 16 < h.1) (hT : am_tg h 16 = (202, 22)) : ∀ m j, j + m = 22 → (am_J (d + 2) 31 116 [some (.ref 9), some (.int (nI j))] [] (c_fill 2 8 16 j h) Q ↔ Q none (c_fill 2 8 16 22 h)) := by
  intro m
  induction m with
  | zero =>
    intro j hj
    obtain rfl : j = 22 := by omega
    have O1 := c_fill_ob (t := 2) (n := 8) (arr := 16) O 22
    have R1 : am_R (c_fill 2 8 16 22 h) 9 3 = some 16 := by rw [c_fill_R O.1 (by decide)]; exact hR
    have T1 : am_tg (c_fill 2 8 16 22 h) 16 = (202, 22) := by rw [c_fill_tg hlt]; exact hT
    have L1 : 16 < (c_fill 2 8 16 22 h).1 := by rw [c_fill_1]; omega
    rw [g31_116, g31_117, g31_118 O1, R1]
    simp only [va_rf]
    rw [g31_121 L1 (by rw [T1]; decide), T1, g31_122, if_pos (show nI 22 ≤ nI 22 by decide), g31_144]
  | succ m ih =>
    intro j hj
    have O1 := c_fill_ob (t := 2) (n := 8) (arr := 16) O j
    have R1 : am_R (c_fill 2 8 16 j h) 9 3 = some 16 := by rw [c_fill_R O.1 (by decide)]; exact hR
    have T1 : am_tg (c_fill 2 8 16 j h) 16 = (202, 22) := by rw [c_fill_tg hlt]; exact hT
    have L1 : 16 < (c_fill 2 8 16 j h).1 := by rw [c_fill_1]; omega
    have X0 : am_ax (c_fill 2 8 16 j h) 16 202 j := ⟨L1, by rw [T1], by rw [T1]; show j < 22; omega, by omega⟩
    have X1 := c_ax_new (t := (2, 0)) (n := 8) X0
    have h4 : 4 ≤ (c_fill 2 8 16 j h).1 := by omega
    rw [g31_116, g31_117, g31_118 O1, R1]
    simp only [va_rf]
    rw [g31_121 L1 (by rw [T1]; decide), T1, g31_122, if_neg (nI_ge (show j < 22 by omega) (by decide))]
    simp only [g31_125, g31_126 O1, R1, va_rf, g31_129, g31_130, g31_133 (show (Value.ref (c_fill 2 8 16 j h).1).category = 1 from rfl), g31_134, x_frame, Option.toList, List.nil_append, g31_137 X1 (c_ob_it rfl) (show 4 ≤ 16 by decide) h4, g31_138, g31_141, nI_add]
    exact ih (j + 1) (by omega)
def c_mach1 (h : am_H) : am_H :=
  let h1 := am_setR (am_new h (200, 256) 256) 9 0 (some 10)
  let h2 := am_setR (am_new h1 (201, 8) 8) 9 1 (some 11)
  let h3 := am_setR (c_numbers (am_new h2 (5, 0) 4) 12) 9 2 (some 12)
  let h4 := am_setR (am_new h3 (202, 22) 22) 9 3 (some 16)
  let h5 := am_setR (am_new h4 (100, 210) 210) 9 4 (some 17)
  let h6 := am_setR (am_new h5 (100, 210) 210) 9 5 (some 18)
  let h7 := am_setR (am_new h6 (100, 210) 210) 9 6 (some 19)
  let h8 := am_setR (am_new h7 (102, 64) 64) 9 7 (some 20)
  am_setR (am_new h8 (102, 64) 64) 9 8 (some 21)
theorem c_numbers_1 {a : Nat} : (c_numbers h a).1 = h.1 + 3 := rfl
theorem c_ob_numbers {a b c : Nat} (O : am_ob h b c) : am_ob (c_numbers h a) b c := c_ob_setR (c_ob_new (c_ob_setR (c_ob_new (c_ob_setR (c_ob_new O)))))
theorem x_mach1 (hs : h.1 = 10) (O : am_ob h 9 4) : am_J (d + 2) 31 0 [some (.ref 9), none] [] h Q ↔ am_J (d + 2) 31 88 [some (.ref 9), some (.int (nI 0))] [] (c_mach1 h) Q := by
  simp (disch := first | decide | (repeat (first | exact O | exact c_ob_it hs | exact c_ob_it (by simp only [c_new_1, c_setR_1, c_numbers_1, hs]) | refine c_ob_setR ?_ | refine c_ob_new ?_ | refine c_ob_numbers ?_)) | rfl) only [g31_0, g31_1, g31_4, g31_5, g31_8, g31_11, g31_11r, g31_11n, g31_14, g31_15, g31_17, g31_20, g31_20r, g31_20n, g31_23, g31_24, g31_27, g31_28, g31_31, g31_31r, g31_31n, g31_34, g31_35, g31_37, g31_40, g31_40r, g31_40n, g31_43, g31_44, g31_47, g31_49, g31_49r, g31_49n, g31_52, g31_53, g31_56, g31_58, g31_58r, g31_58n, g31_61, g31_62, g31_65, g31_67, g31_67r, g31_67n, g31_70, g31_71, g31_73, g31_75, g31_75r, g31_75n, g31_78, g31_79, g31_81, g31_83, g31_83r, g31_83n, g31_86, g31_87, c_new_1, c_setR_1, c_numbers_1, x_numbers, hs, Nat.reduceAdd, Option.toList, List.nil_append, c_mach1]
end CTOR

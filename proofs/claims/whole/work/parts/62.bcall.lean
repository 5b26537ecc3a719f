/-! BOTH PARSERS behind a fault: calls -/
section BCL
variable {d : Nat} {h g g' : am_H} {Q : Option Value → am_H → Prop} {v0 v1 v2 v3 v4 v5 v6 v7 v8 v9 : Option Value} {so s vis on na nc nf : Nat} {oX oM : Int64} {agX agM cnX cnM fnX fnM : Nat → Int64} {fnA : Nat → Nat} {x : Int64}
variable {t : Nat → Nat} {n : Nat} {m m' : Nat} {y : Nat × Nat} {p : Int32}
theorem bx_choice (B : BX h t n y) : ∃ h', am_run (d + 6) 97 [some (.ref 301), none, none] h none h' ∧ BX h' t n y ∧ XF h h' := by
  have S := bx_S B
  obtain ⟨h1, r1, B1, F1⟩ := bx_level (d := d) B
  have S1 := bx_S B1
  obtain ⟨h2, r2, B2, F2⟩ := bx_pass (d := d + 2) B1 (c := 44) (by decide)
  have S2 := bx_S B2
  obtain ⟨h3, p3, hp3, r3, B3, F3⟩ := bx_add (d := d + 5) B2 (w := nI 16) (v := lN 0)
  have S3 := bx_S B3
  obtain ⟨h4, r4, B4, F4⟩ := bx_level (d := d) B3
  have S4 := bx_S B4
  obtain ⟨h5, r5, B5, F5⟩ := bx_pass (d := d + 2) B4 (c := 44) (by decide)
  have S5 := bx_S B5
  obtain ⟨h6, p6, hp6, r6, B6, F6⟩ := bx_add (d := d + 5) B5 (w := nI 17) (v := lN 0)
  have S6 := bx_S B6
  obtain ⟨h7, r7, B7, F7⟩ := bx_aim (d := d + 5) B6 hp3
  have S7 := bx_S B7
  obtain ⟨h8, r8, B8, F8⟩ := bx_level (d := d) B7
  have S8 := bx_S B8
  obtain ⟨h9, r9, B9, F9⟩ := bx_aim (d := d + 5) B8 hp6
  refine ⟨h9, fun Q => ?_, B9, XF_trans F1 (XF_trans F2 (XF_trans F3 (XF_trans F4 (XF_trans F5 (XF_trans F6 (XF_trans F7 (XF_trans F8 F9)))))))⟩
  simp (disch := first | with_reducible assumption | omega | exact Or.inl rfl | exact Or.inr rfl | exact bI_01 | exact c_cat | exact vt_ref | exact vt_null | rfl | with_reducible repeat (first | assumption | omega | apply S_I | apply S_L | apply S_D | apply ob_I | apply ob_L | apply ob_D | apply ob_R | apply ax_I | apply ax_L | apply ax_D | apply ax_R | apply o303 | apply o307 | apply o302 | apply o301 | apply ax304 | apply ax305 | apply ax306 | apply ax308 | apply ax309 | apply ax310 | apply lt_S | apply ar305 | apply ar308 | apply ar309)) only [g97_0, g97_1, g97_2, g97_5, g97_6, g97_8, g97_11, g97_12, g97_15, g97_17, g97_18, g97_21, g97_22, g97_23, g97_24, g97_27, g97_28, g97_30, g97_33, g97_34, g97_37, g97_39, g97_40, g97_43, g97_44, g97_45, g97_48, g97_49, g97_52, g97_53, g97_54, g97_57, g97_58, g97_61, g97_62, g97_65, Option.toList, List.nil_append, List.cons_append, va_rf, r1 _, r2 _, r3 _, r4 _, r5 _, r6 _, r7 _, r8 _, r9 _]
theorem bx_attempt (B : BX h t n y) : ∃ h', am_run (d + 6) 98 [some (.ref 301), none, none] h none h' ∧ BX h' t n y ∧ XF h h' := by
  have S := bx_S B
  obtain ⟨h3, p3, hp3, r3, B3, F3⟩ := bx_add (d := d + 5) B (w := nI 18) (v := lN 0)
  have S3 := bx_S B3
  obtain ⟨h4, r4, B4, F4⟩ := bx_level (d := d) B3
  have S4 := bx_S B4
  obtain ⟨h5, r5, B5, F5⟩ := bx_pass (d := d + 2) B4 (c := 44) (by decide)
  have S5 := bx_S B5
  obtain ⟨h6, p6, hp6, r6, B6, F6⟩ := bx_add (d := d + 5) B5 (w := nI 19) (v := lN 0)
  have S6 := bx_S B6
  obtain ⟨h7, r7, B7, F7⟩ := bx_aim (d := d + 5) B6 hp3
  have S7 := bx_S B7
  obtain ⟨h8, r8, B8, F8⟩ := bx_level (d := d) B7
  have S8 := bx_S B8
  obtain ⟨h9, r9, B9, F9⟩ := bx_aim (d := d + 5) B8 hp6
  refine ⟨h9, fun Q => ?_, B9, XF_trans F3 (XF_trans F4 (XF_trans F5 (XF_trans F6 (XF_trans F7 (XF_trans F8 F9)))))⟩
  simp (disch := first | with_reducible assumption | omega | exact Or.inl rfl | exact Or.inr rfl | exact bI_01 | exact c_cat | exact vt_ref | exact vt_null | rfl | with_reducible repeat (first | assumption | omega | apply S_I | apply S_L | apply S_D | apply ob_I | apply ob_L | apply ob_D | apply ob_R | apply ax_I | apply ax_L | apply ax_D | apply ax_R | apply o303 | apply o307 | apply o302 | apply o301 | apply ax304 | apply ax305 | apply ax306 | apply ax308 | apply ax309 | apply ax310 | apply lt_S | apply ar305 | apply ar308 | apply ar309)) only [g98_0, g98_1, g98_4, g98_6, g98_7, g98_10, g98_11, g98_12, g98_13, g98_16, g98_17, g98_19, g98_22, g98_23, g98_26, g98_28, g98_29, g98_32, g98_33, g98_34, g98_37, g98_38, g98_41, g98_42, g98_43, g98_46, g98_47, g98_50, g98_51, g98_54, Option.toList, List.nil_append, List.cons_append, va_rf, r3 _, r4 _, r5 _, r6 _, r7 _, r8 _, r9 _]
theorem bx_table (B : BX h t n y) (K : cfX h so s vis on na nc nf oX agX cnX fnX fnA) {w : Nat} (hw : w = 7 ∨ w = 8) : ∃ h', am_run (d + 6) 102 [some (.ref 301), some (.int (nI w)), none, none, none, none] h none h' ∧ BX h' t n y ∧ XF h h' := by
  have H : ∀ h, BX h t n y → cfX h so s vis on na nc nf oX agX cnX fnX fnA → ∃ h', (∀ Q, am_J (d + 6) 102 17 [some (.ref 301), some (.int (nI w)), none, none, none, none] [] h Q ↔ Q none h') ∧ BX h' t n y ∧ XF h h' := by
    intro h B K
    have S := bx_S B
    obtain ⟨h1, z1, r1, B1, F1⟩ := bx_range (d := d + 1) B K.2.2.2.2.2.2.2.1 K.1
    have S1 := bx_S B1
    have K1 := cfX_XF F1 K
    obtain ⟨h2, r2, B2, F2⟩ := bx_pass (d := d + 2) B1 (c := 44) (by decide)
    have S2 := bx_S B2
    have K2 := cfX_XF F2 K1
    obtain ⟨h3, z3, r3, B3, F3⟩ := bx_range (d := d + 1) B2 K2.2.2.2.2.2.2.2.1 K.1
    have S3 := bx_S B3
    obtain ⟨h4, p4, hp4, r4, B4, F4⟩ := bx_add (d := d + 5) B3 (w := nI (if w = 7 then 25 else 26)) (v := z1.toInt64 ||| (z3.toInt64 <<< ((nI 16).toInt64 &&& 63)))
    refine ⟨h4, fun Q => ?_, B4, XF_trans F1 (XF_trans F2 (XF_trans F3 F4))⟩
    rcases hw with rfl | rfl <;> simp only [Nat.reduceEqDiff, ↓reduceIte] at r4 <;> simp (disch := first | with_reducible assumption | omega | exact Or.inl rfl | exact Or.inr rfl | exact bI_01 | exact c_cat | exact vt_ref | exact vt_null | rfl | with_reducible repeat (first | assumption | omega | apply S_I | apply S_L | apply S_D | apply ob_I | apply ob_L | apply ob_D | apply ob_R | apply ax_I | apply ax_L | apply ax_D | apply ax_R | apply o303 | apply o307 | apply o302 | apply o301 | apply ax304 | apply ax305 | apply ax306 | apply ax308 | apply ax309 | apply ax310 | apply lt_S | apply ar305 | apply ar308 | apply ar309)) only [g102_17, g102_18, g102_21, g102_22, g102_23, g102_24, g102_26, g102_29, g102_30, g102_33, g102_34, g102_36, g102_37, g102_40, g102_41, g102_43, g102_46, g102_48, g102_51, g102_53, g102_54, g102_56, g102_58, g102_59, g102_60, g102_63, g102_64, Option.toList, List.nil_append, List.cons_append, va_rf, r1 _, r2 _, r3 _, nI_ltI, nI_leI, nI_eq, nI_add, nI_sub, nI_lt0, nI_e0, nI_m1, m1_nI, Nat.reduceEqDiff, Nat.reduceLT, Nat.reduceLeDiff, Nat.reduceAdd, Nat.reduceSub, Nat.reduceMul, ↓reduceIte, eq_self, r4 _]
  have S := bx_S B
  rcases hw with rfl | rfl
  · obtain ⟨h1, r1, B1, F1⟩ := bx_level (d := d) B
    have S1 := bx_S B1
    obtain ⟨h2, r2, B2, F2⟩ := bx_pass (d := d + 2) B1 (c := 44) (by decide)
    obtain ⟨h3, W, B3, F3⟩ := H h2 B2 (cfX_XF F2 (cfX_XF F1 K))
    refine ⟨h3, fun Q => ?_, B3, XF_trans F1 (XF_trans F2 F3)⟩
    rw [← W Q]
    simp (disch := first | with_reducible assumption | omega | exact Or.inl rfl | exact Or.inr rfl | exact bI_01 | exact c_cat | exact vt_ref | exact vt_null | rfl | with_reducible repeat (first | assumption | omega | apply S_I | apply S_L | apply S_D | apply ob_I | apply ob_L | apply ob_D | apply ob_R | apply ax_I | apply ax_L | apply ax_D | apply ax_R | apply o303 | apply o307 | apply o302 | apply o301 | apply ax304 | apply ax305 | apply ax306 | apply ax308 | apply ax309 | apply ax310 | apply lt_S | apply ar305 | apply ar308 | apply ar309)) only [g102_0, g102_1, g102_3, g102_6, g102_7, g102_8, g102_11, g102_12, g102_14, Option.toList, List.nil_append, List.cons_append, va_rf, nI_ltI, nI_leI, nI_eq, nI_add, nI_sub, nI_lt0, nI_e0, nI_m1, m1_nI, Nat.reduceEqDiff, Nat.reduceLT, Nat.reduceLeDiff, Nat.reduceAdd, Nat.reduceSub, Nat.reduceMul, ↓reduceIte, eq_self, r1 _, r2 _]
  · obtain ⟨h3, W, B3, F3⟩ := H h B K
    refine ⟨h3, fun Q => ?_, B3, F3⟩
    rw [← W Q]
    simp (disch := first | with_reducible assumption | omega | exact Or.inl rfl | exact Or.inr rfl | exact bI_01 | exact c_cat | exact vt_ref | exact vt_null | rfl | with_reducible repeat (first | assumption | omega | apply S_I | apply S_L | apply S_D | apply ob_I | apply ob_L | apply ob_D | apply ob_R | apply ax_I | apply ax_L | apply ax_D | apply ax_R | apply o303 | apply o307 | apply o302 | apply o301 | apply ax304 | apply ax305 | apply ax306 | apply ax308 | apply ax309 | apply ax310 | apply lt_S | apply ar305 | apply ar308 | apply ar309)) only [g102_0, g102_1, g102_3, g102_6, g102_7, g102_8, g102_11, g102_12, g102_14, Option.toList, List.nil_append, List.cons_append, va_rf, nI_ltI, nI_leI, nI_eq, nI_add, nI_sub, nI_lt0, nI_e0, nI_m1, m1_nI, Nat.reduceEqDiff, Nat.reduceLT, Nat.reduceLeDiff, Nat.reduceAdd, Nat.reduceSub, Nat.reduceMul, ↓reduceIte, eq_self]
theorem bx_root (B : BX h t n y) (K : cfX h so s vis on na nc nf oX agX cnX fnX fnA) (D : ∀ i j, i < nf → j < nf → fnX i = fnX j → i = j) (A : ∀ i, i < nf → fnA i ≤ 3) : ∃ h', am_run (d + 6) 103 [some (.ref 301), none, none, none] h none h' ∧ BX h' t n y ∧ XF h h' := by
  have S := bx_S B
  obtain ⟨-, ⟨a, a1, a2⟩, -⟩ := bx_pos B
  obtain ⟨h1, r1, B1, F1⟩ := bx_copy (d := d + 4) B (a := a) (by omega)
  have S1 := bx_S B1
  obtain ⟨h2, r2, B2, F2⟩ := bx_plain (d := d + 4) B1
  have S2 := bx_S B2
  obtain ⟨h3, r3, B3, F3⟩ := bx_pass (d := d + 2) B2 (c := 44) (by decide)
  have S3 := bx_S B3
  obtain ⟨h4, r4, B4, F4⟩ := bx_level (d := d) B3
  have S4 := bx_S B4
  obtain ⟨h5, r5, B5, F5⟩ := bx_pass (d := d + 2) B4 (c := 44) (by decide)
  have S5 := bx_S B5
  obtain ⟨h6, r6, B6, F6⟩ := bx_level (d := d) B5
  have S6 := bx_S B6
  have F06 := XF_trans F1 (XF_trans F2 (XF_trans F3 (XF_trans F4 (XF_trans F5 F6))))
  obtain ⟨h7, z7, r7, B7, F7⟩ := bx_resFn (d := d + 4) (x := lN 0) (p := nI a) (gv := 1) B6 (cfX_XF F06 K) D A (by decide)
  have S7 := bx_S B7
  obtain ⟨h8, p8, hp8, r8, B8, F8⟩ := bx_add (d := d + 5) B7 (w := nI 27) (v := z7.toInt64)
  refine ⟨h8, fun Q => ?_, B8, XF_trans F06 (XF_trans F7 F8)⟩
  simp (disch := first | with_reducible assumption | omega | exact Or.inl rfl | exact Or.inr rfl | exact bI_01 | exact c_cat | exact vt_ref | exact vt_null | rfl | with_reducible repeat (first | assumption | omega | apply S_I | apply S_L | apply S_D | apply ob_I | apply ob_L | apply ob_D | apply ob_R | apply ax_I | apply ax_L | apply ax_D | apply ax_R | apply o303 | apply o307 | apply o302 | apply o301 | apply ax304 | apply ax305 | apply ax306 | apply ax308 | apply ax309 | apply ax310 | apply lt_S | apply ar305 | apply ar308 | apply ar309)) only [g103_0, g103_1, g103_4, g103_7, g103_8, g103_9, g103_10, g103_13, g103_14, g103_17, g103_18, g103_19, g103_21, g103_24, g103_25, g103_26, g103_29, g103_30, g103_32, g103_35, g103_36, g103_37, g103_40, g103_41, g103_44, g103_46, g103_47, g103_48, g103_49, g103_50, g103_53, g103_54, g103_57, g103_58, Option.toList, List.nil_append, List.cons_append, va_rf, a2, r1 _, r2 _, r3 _, r4 _, r5 _, r6 _, r7 _, r8 _]
theorem bx_callFn (B : BX h t n y) (K : cfX h so s vis on na nc nf oX agX cnX fnX fnA) (D : ∀ i j, i < nf → j < nf → fnX i = fnX j → i = j) (A : ∀ i, i < nf → fnA i ≤ 3) : ∃ h', am_run (d + 6) 94 [some (.ref 301), some (.long x), none, some (.int p), none] h none h' ∧ BX h' t n y ∧ XF h h' := by
  have S := bx_S B
  obtain ⟨h4, r4, B4, F4⟩ := bx_level (d := d) B
  have S4 := bx_S B4
  have tk := bx_tok B4
  obtain ⟨h7, z7, r7, B7, F7⟩ := bx_resFn (d := d + 4) (x := x) (p := p) (gv := 1) B4 (cfX_XF F4 K) D A (by decide)
  have S7 := bx_S B7
  obtain ⟨h8, p8, hp8, r8, B8, F8⟩ := bx_add (d := d + 5) B7 (w := nI 30) (v := (z7 * nI 4 + nI 1).toInt64)
  refine ⟨h8, fun Q => ?_, B8, XF_trans F4 (XF_trans F7 F8)⟩
  have W : am_J (d + 6) 94 0 [some (.ref 301), some (.long x), none, some (.int p), none] [] h Q ↔ am_J (d + 6) 94 8 [some (.ref 301), some (.long x), none, some (.int p), some (.int (nI 1))] [] h4 Q := by
    simp (disch := first | with_reducible assumption | omega | exact Or.inl rfl | exact Or.inr rfl | exact bI_01 | exact c_cat | exact vt_ref | exact vt_null | rfl | with_reducible repeat (first | assumption | omega | apply S_I | apply S_L | apply S_D | apply ob_I | apply ob_L | apply ob_D | apply ob_R | apply ax_I | apply ax_L | apply ax_D | apply ax_R | apply o303 | apply o307 | apply o302 | apply o301 | apply ax304 | apply ax305 | apply ax306 | apply ax308 | apply ax309 | apply ax310 | apply lt_S | apply ar305 | apply ar308 | apply ar309)) only [g94_0, g94_1, g94_3, g94_4, g94_5, Option.toList, List.nil_append, List.cons_append, va_rf, r4 _]
  rw [W, g94_8]
  simp (disch := first | with_reducible assumption | omega | exact Or.inl rfl | exact Or.inr rfl | exact bI_01 | exact c_cat | exact vt_ref | exact vt_null | rfl | with_reducible repeat (first | assumption | omega | apply S_I | apply S_L | apply S_D | apply ob_I | apply ob_L | apply ob_D | apply ob_R | apply ax_I | apply ax_L | apply ax_D | apply ax_R | apply o303 | apply o307 | apply o302 | apply o301 | apply ax304 | apply ax305 | apply ax306 | apply ax308 | apply ax309 | apply ax310 | apply lt_S | apply ar305 | apply ar308 | apply ar309)) only [g94_10, g94_11, g94_14, g94_15, g94_18, g94_21, g94_23, g94_43, g94_44, g94_47, g94_49, g94_50, g94_51, g94_53, g94_54, g94_57, g94_58, g94_59, g94_61, g94_62, g94_63, g94_66, g94_67, Option.toList, List.nil_append, List.cons_append, va_rf, tk, nI_ltI, nI_leI, nI_eq, nI_add, nI_sub, nI_lt0, nI_e0, nI_m1, m1_nI, Nat.reduceEqDiff, Nat.reduceLT, Nat.reduceLeDiff, Nat.reduceAdd, Nat.reduceSub, Nat.reduceMul, ↓reduceIte, eq_self, r7 _, r8 _]
theorem bx_callWord (B : BX h t n y) (K : cfX h so s vis on na nc nf oX agX cnX fnX fnA) (D : ∀ i j, i < nf → j < nf → fnX i = fnX j → i = j) (A : ∀ i, i < nf → fnA i ≤ 3) {w : Nat} (hw : w < 12) : ∃ h', am_run (d + 7) 96 [some (.ref 301), some (.int (nI w)), none, none] h none h' ∧ BX h' t n y ∧ XF h h' := by
  have S := bx_S B
  have Hr : 2 ≤ w ∧ w ≤ 5 → ∃ h', am_run (d + 7) 96 [some (.ref 301), some (.int (nI w)), none, none] h none h' ∧ BX h' t n y ∧ XF h h' := by
    intro hr
    obtain ⟨h1, z1, r1, B1, F1⟩ := bx_range (d := d + 2) B K.2.2.2.2.2.2.2.1 K.1
    have S1 := bx_S B1
    obtain ⟨h2, p2, hp2, r2, B2, F2⟩ := bx_add (d := d + 6) B1 (w := nI (w - 2 + 20)) (v := z1.toInt64)
    refine ⟨h2, fun Q => ?_, B2, XF_trans F1 F2⟩
    rcases (show w = 2 ∨ w = 3 ∨ w = 4 ∨ w = 5 by omega) with rfl | rfl | rfl | rfl <;> simp only [Nat.reduceAdd, Nat.reduceSub] at r2 <;> simp (disch := first | with_reducible assumption | omega | exact Or.inl rfl | exact Or.inr rfl | exact bI_01 | exact c_cat | exact vt_ref | exact vt_null | rfl | with_reducible repeat (first | assumption | omega | apply S_I | apply S_L | apply S_D | apply ob_I | apply ob_L | apply ob_D | apply ob_R | apply ax_I | apply ax_L | apply ax_D | apply ax_R | apply o303 | apply o307 | apply o302 | apply o301 | apply ax304 | apply ax305 | apply ax306 | apply ax308 | apply ax309 | apply ax310 | apply lt_S | apply ar305 | apply ar308 | apply ar309)) only [g96_0, g96_56, g96_57, g96_60, g96_63, g96_64, g96_67, g96_70, g96_71, g96_74, g96_75, g96_76, g96_77, g96_79, g96_82, g96_83, g96_84, g96_87, g96_88, g96_91, g96_93, g96_94, g96_97, g96_98, g96_101, g96_102, g96_103, g96_106, g96_109, g96_110, g96_113, g96_116, g96_117, g96_119, g96_122, g96_123, g96_124, g96_127, g96_128, g96_131, g96_132, g96_134, g96_135, g96_137, g96_138, g96_139, g96_142, g96_143, g96_146, g96_147, g96_150, g96_151, g96_152, g96_153, g96_155, g96_156, g96_157, g96_160, g96_161, g96_164, g96_165, g96_1_2, g96_1_3, g96_1_4, g96_1_5, Option.toList, List.nil_append, List.cons_append, va_rf, nI_ltI, nI_leI, nI_eq, nI_add, nI_sub, nI_lt0, nI_e0, nI_m1, m1_nI, Nat.reduceEqDiff, Nat.reduceLT, Nat.reduceLeDiff, Nat.reduceAdd, Nat.reduceSub, Nat.reduceMul, ↓reduceIte, eq_self, r1 _, r2 _]
  have Hc : 10 ≤ w → ∃ h', am_run (d + 7) 96 [some (.ref 301), some (.int (nI w)), none, none] h none h' ∧ BX h' t n y ∧ XF h h' := by
    intro hr
    obtain ⟨h1, r1, B1, F1⟩ := bx_level (d := d + 1) B
    have S1 := bx_S B1
    obtain ⟨h2, p2, hp2, r2, B2, F2⟩ := bx_add (d := d + 6) B1 (w := nI (w - 10 + 28)) (v := lN 0)
    refine ⟨h2, fun Q => ?_, B2, XF_trans F1 F2⟩
    have e : ∀ Q, am_J (d + 7) 96 1 [some (.ref 301), some (.int (nI w)), none, none] [.int (nI w)] h Q ↔ am_J (d + 7) 96 116 [some (.ref 301), some (.int (nI w)), none, none] [] h Q := fun Q => g96_1d (by rw [nI_toInt (by omega)]; omega)
    rw [g96_0, e]
    simp (disch := first | with_reducible assumption | omega | exact Or.inl rfl | exact Or.inr rfl | exact bI_01 | exact c_cat | exact vt_ref | exact vt_null | rfl | with_reducible repeat (first | assumption | omega | apply S_I | apply S_L | apply S_D | apply ob_I | apply ob_L | apply ob_D | apply ob_R | apply ax_I | apply ax_L | apply ax_D | apply ax_R | apply o303 | apply o307 | apply o302 | apply o301 | apply ax304 | apply ax305 | apply ax306 | apply ax308 | apply ax309 | apply ax310 | apply lt_S | apply ar305 | apply ar308 | apply ar309)) only [g96_116, g96_117, g96_119, g96_122, g96_123, g96_124, g96_127, g96_128, g96_131, g96_132, g96_134, g96_135, g96_137, g96_138, g96_139, g96_142, g96_143, g96_146, g96_147, g96_150, g96_151, g96_152, g96_153, g96_155, g96_156, g96_157, g96_160, g96_161, g96_164, g96_165, Option.toList, List.nil_append, List.cons_append, va_rf, nI_ltI, nI_leI, nI_eq, nI_add, nI_sub, nI_lt0, nI_e0, nI_m1, m1_nI, Nat.reduceEqDiff, Nat.reduceLT, Nat.reduceLeDiff, Nat.reduceAdd, Nat.reduceSub, Nat.reduceMul, ↓reduceIte, eq_self, show ¬ w < 10 by omega, r1 _, r2 _]
  by_cases h10 : 10 ≤ w
  · exact Hc h10
  by_cases h25 : 2 ≤ w ∧ w ≤ 5
  · exact Hr h25
  rcases (show w = 0 ∨ w = 1 ∨ w = 6 ∨ w = 7 ∨ w = 8 ∨ w = 9 by omega) with rfl | rfl | rfl | rfl | rfl | rfl
  · obtain ⟨h1, r1, B1, F1⟩ := bx_choice (d := d) B
    refine ⟨h1, fun Q => ?_, B1, F1⟩
    simp (disch := first | with_reducible assumption | omega | exact Or.inl rfl | exact Or.inr rfl | exact bI_01 | exact c_cat | exact vt_ref | exact vt_null | rfl | with_reducible repeat (first | assumption | omega | apply S_I | apply S_L | apply S_D | apply ob_I | apply ob_L | apply ob_D | apply ob_R | apply ax_I | apply ax_L | apply ax_D | apply ax_R | apply o303 | apply o307 | apply o302 | apply o301 | apply ax304 | apply ax305 | apply ax306 | apply ax308 | apply ax309 | apply ax310 | apply lt_S | apply ar305 | apply ar308 | apply ar309)) only [g96_0, g96_56, g96_57, g96_60, g96_63, g96_64, g96_67, g96_70, g96_71, g96_74, g96_75, g96_76, g96_77, g96_79, g96_82, g96_83, g96_84, g96_87, g96_88, g96_91, g96_93, g96_94, g96_97, g96_98, g96_101, g96_102, g96_103, g96_106, g96_109, g96_110, g96_113, g96_116, g96_117, g96_119, g96_122, g96_123, g96_124, g96_127, g96_128, g96_131, g96_132, g96_134, g96_135, g96_137, g96_138, g96_139, g96_142, g96_143, g96_146, g96_147, g96_150, g96_151, g96_152, g96_153, g96_155, g96_156, g96_157, g96_160, g96_161, g96_164, g96_165, g96_1_0, Option.toList, List.nil_append, List.cons_append, va_rf, r1 _]
  · obtain ⟨h1, r1, B1, F1⟩ := bx_attempt (d := d) B
    refine ⟨h1, fun Q => ?_, B1, F1⟩
    simp (disch := first | with_reducible assumption | omega | exact Or.inl rfl | exact Or.inr rfl | exact bI_01 | exact c_cat | exact vt_ref | exact vt_null | rfl | with_reducible repeat (first | assumption | omega | apply S_I | apply S_L | apply S_D | apply ob_I | apply ob_L | apply ob_D | apply ob_R | apply ax_I | apply ax_L | apply ax_D | apply ax_R | apply o303 | apply o307 | apply o302 | apply o301 | apply ax304 | apply ax305 | apply ax306 | apply ax308 | apply ax309 | apply ax310 | apply lt_S | apply ar305 | apply ar308 | apply ar309)) only [g96_0, g96_56, g96_57, g96_60, g96_63, g96_64, g96_67, g96_70, g96_71, g96_74, g96_75, g96_76, g96_77, g96_79, g96_82, g96_83, g96_84, g96_87, g96_88, g96_91, g96_93, g96_94, g96_97, g96_98, g96_101, g96_102, g96_103, g96_106, g96_109, g96_110, g96_113, g96_116, g96_117, g96_119, g96_122, g96_123, g96_124, g96_127, g96_128, g96_131, g96_132, g96_134, g96_135, g96_137, g96_138, g96_139, g96_142, g96_143, g96_146, g96_147, g96_150, g96_151, g96_152, g96_153, g96_155, g96_156, g96_157, g96_160, g96_161, g96_164, g96_165, g96_1_1, Option.toList, List.nil_append, List.cons_append, va_rf, r1 _]
  · obtain ⟨h1, z1, r1, B1, F1⟩ := bx_range (d := d + 2) B K.2.2.2.2.2.2.2.1 K.1
    have S1 := bx_S B1
    obtain ⟨h2, r2, B2, F2⟩ := bx_pass (d := d + 3) B1 (c := 44) (by decide)
    have S2 := bx_S B2
    obtain ⟨h3, r3, B3, F3⟩ := bx_level (d := d + 1) B2
    have S3 := bx_S B3
    obtain ⟨h4, p4, hp4, r4, B4, F4⟩ := bx_add (d := d + 6) B3 (w := nI 24) (v := z1.toInt64)
    refine ⟨h4, fun Q => ?_, B4, XF_trans F1 (XF_trans F2 (XF_trans F3 F4))⟩
    simp (disch := first | with_reducible assumption | omega | exact Or.inl rfl | exact Or.inr rfl | exact bI_01 | exact c_cat | exact vt_ref | exact vt_null | rfl | with_reducible repeat (first | assumption | omega | apply S_I | apply S_L | apply S_D | apply ob_I | apply ob_L | apply ob_D | apply ob_R | apply ax_I | apply ax_L | apply ax_D | apply ax_R | apply o303 | apply o307 | apply o302 | apply o301 | apply ax304 | apply ax305 | apply ax306 | apply ax308 | apply ax309 | apply ax310 | apply lt_S | apply ar305 | apply ar308 | apply ar309)) only [g96_0, g96_56, g96_57, g96_60, g96_63, g96_64, g96_67, g96_70, g96_71, g96_74, g96_75, g96_76, g96_77, g96_79, g96_82, g96_83, g96_84, g96_87, g96_88, g96_91, g96_93, g96_94, g96_97, g96_98, g96_101, g96_102, g96_103, g96_106, g96_109, g96_110, g96_113, g96_116, g96_117, g96_119, g96_122, g96_123, g96_124, g96_127, g96_128, g96_131, g96_132, g96_134, g96_135, g96_137, g96_138, g96_139, g96_142, g96_143, g96_146, g96_147, g96_150, g96_151, g96_152, g96_153, g96_155, g96_156, g96_157, g96_160, g96_161, g96_164, g96_165, g96_1_6, Option.toList, List.nil_append, List.cons_append, va_rf, r1 _, r2 _, r3 _, r4 _]
  · obtain ⟨h1, r1, B1, F1⟩ := bx_table (d := d) B K (w := 7) (Or.inl rfl)
    refine ⟨h1, fun Q => ?_, B1, F1⟩
    simp (disch := first | with_reducible assumption | omega | exact Or.inl rfl | exact Or.inr rfl | exact bI_01 | exact c_cat | exact vt_ref | exact vt_null | rfl | with_reducible repeat (first | assumption | omega | apply S_I | apply S_L | apply S_D | apply ob_I | apply ob_L | apply ob_D | apply ob_R | apply ax_I | apply ax_L | apply ax_D | apply ax_R | apply o303 | apply o307 | apply o302 | apply o301 | apply ax304 | apply ax305 | apply ax306 | apply ax308 | apply ax309 | apply ax310 | apply lt_S | apply ar305 | apply ar308 | apply ar309)) only [g96_0, g96_56, g96_57, g96_60, g96_63, g96_64, g96_67, g96_70, g96_71, g96_74, g96_75, g96_76, g96_77, g96_79, g96_82, g96_83, g96_84, g96_87, g96_88, g96_91, g96_93, g96_94, g96_97, g96_98, g96_101, g96_102, g96_103, g96_106, g96_109, g96_110, g96_113, g96_116, g96_117, g96_119, g96_122, g96_123, g96_124, g96_127, g96_128, g96_131, g96_132, g96_134, g96_135, g96_137, g96_138, g96_139, g96_142, g96_143, g96_146, g96_147, g96_150, g96_151, g96_152, g96_153, g96_155, g96_156, g96_157, g96_160, g96_161, g96_164, g96_165, g96_1_7, Option.toList, List.nil_append, List.cons_append, va_rf, r1 _]
  · obtain ⟨h1, r1, B1, F1⟩ := bx_table (d := d) B K (w := 8) (Or.inr rfl)
    refine ⟨h1, fun Q => ?_, B1, F1⟩
    simp (disch := first | with_reducible assumption | omega | exact Or.inl rfl | exact Or.inr rfl | exact bI_01 | exact c_cat | exact vt_ref | exact vt_null | rfl | with_reducible repeat (first | assumption | omega | apply S_I | apply S_L | apply S_D | apply ob_I | apply ob_L | apply ob_D | apply ob_R | apply ax_I | apply ax_L | apply ax_D | apply ax_R | apply o303 | apply o307 | apply o302 | apply o301 | apply ax304 | apply ax305 | apply ax306 | apply ax308 | apply ax309 | apply ax310 | apply lt_S | apply ar305 | apply ar308 | apply ar309)) only [g96_0, g96_56, g96_57, g96_60, g96_63, g96_64, g96_67, g96_70, g96_71, g96_74, g96_75, g96_76, g96_77, g96_79, g96_82, g96_83, g96_84, g96_87, g96_88, g96_91, g96_93, g96_94, g96_97, g96_98, g96_101, g96_102, g96_103, g96_106, g96_109, g96_110, g96_113, g96_116, g96_117, g96_119, g96_122, g96_123, g96_124, g96_127, g96_128, g96_131, g96_132, g96_134, g96_135, g96_137, g96_138, g96_139, g96_142, g96_143, g96_146, g96_147, g96_150, g96_151, g96_152, g96_153, g96_155, g96_156, g96_157, g96_160, g96_161, g96_164, g96_165, g96_1_8, Option.toList, List.nil_append, List.cons_append, va_rf, r1 _]
  · obtain ⟨h1, r1, B1, F1⟩ := bx_root (d := d) B K D A
    refine ⟨h1, fun Q => ?_, B1, F1⟩
    simp (disch := first | with_reducible assumption | omega | exact Or.inl rfl | exact Or.inr rfl | exact bI_01 | exact c_cat | exact vt_ref | exact vt_null | rfl | with_reducible repeat (first | assumption | omega | apply S_I | apply S_L | apply S_D | apply ob_I | apply ob_L | apply ob_D | apply ob_R | apply ax_I | apply ax_L | apply ax_D | apply ax_R | apply o303 | apply o307 | apply o302 | apply o301 | apply ax304 | apply ax305 | apply ax306 | apply ax308 | apply ax309 | apply ax310 | apply lt_S | apply ar305 | apply ar308 | apply ar309)) only [g96_0, g96_56, g96_57, g96_60, g96_63, g96_64, g96_67, g96_70, g96_71, g96_74, g96_75, g96_76, g96_77, g96_79, g96_82, g96_83, g96_84, g96_87, g96_88, g96_91, g96_93, g96_94, g96_97, g96_98, g96_101, g96_102, g96_103, g96_106, g96_109, g96_110, g96_113, g96_116, g96_117, g96_119, g96_122, g96_123, g96_124, g96_127, g96_128, g96_131, g96_132, g96_134, g96_135, g96_137, g96_138, g96_139, g96_142, g96_143, g96_146, g96_147, g96_150, g96_151, g96_152, g96_153, g96_155, g96_156, g96_157, g96_160, g96_161, g96_164, g96_165, g96_1_9, Option.toList, List.nil_append, List.cons_append, va_rf, r1 _]
/-- the end of nameOrCall -/
theorem bx_tail (B : BX h t n y) : ∃ h', (∀ Q, am_J (d + 4) 89 106 [some (.ref 301), v1, v2, v3, v4] [] h Q ↔ Q none h') ∧ BX h' t n y ∧ XF h h' := by
  have S := bx_S B
  obtain ⟨h1, r1, B1, F1⟩ := bx_pass (d := d) B (c := 41) (by decide)
  have S1 := bx_S B1
  obtain ⟨B2, F2⟩ := bx_o B1 (o' := am_I h1 301 10 - nI 1)
  refine ⟨_, fun Q => ?_, B2, XF_trans F1 F2⟩
  simp (disch := first | with_reducible assumption | omega | exact Or.inl rfl | exact Or.inr rfl | exact bI_01 | exact c_cat | exact vt_ref | exact vt_null | rfl | with_reducible repeat (first | assumption | omega | apply S_I | apply S_L | apply S_D | apply ob_I | apply ob_L | apply ob_D | apply ob_R | apply ax_I | apply ax_L | apply ax_D | apply ax_R | apply o303 | apply o307 | apply o302 | apply o301 | apply ax304 | apply ax305 | apply ax306 | apply ax308 | apply ax309 | apply ax310 | apply lt_S | apply ar305 | apply ar308 | apply ar309)) only [g89_106, g89_107, g89_109, g89_112, g89_113, g89_114, g89_117, g89_118, g89_119, g89_122, Option.toList, List.nil_append, List.cons_append, va_rf, r1 _]
end BCL

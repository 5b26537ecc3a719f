/-! BOTH PARSERS behind a fault -/
section BRK
variable {d : Nat} {h g g' : am_H} {Q : Option Value → am_H → Prop} {v0 v1 v2 v3 v4 v5 v6 v7 v8 v9 : Option Value} {so s vis on na nc nf : Nat} {oX oM : Int64} {agX agM cnX cnM fnX fnM : Nat → Int64} {fnA : Nat → Nat} {x : Int64}
variable {t : Nat → Nat} {n : Nat} {md : Nat ⊕ (Nat × Nat)} {C : List (Int32 × Int64)} {P : List Int32} {N : List Nat} {F k o ln lp wn wp : Int32} {m m' : Nat} {y : Nat × Nat}
theorem x_tok (X : PX h t n md C P N F k o ln lp) : am_I h 302 2 = nI (mdK t n md) := by
  have L := X.2.2.1
  match md, L with
  | .inl q, L => exact L.1.2.1
  | .inr x, L => exact L.1.1
theorem mdK_lt (X : PX h t n md C P N F k o ln lp) : mdK t n md ≤ 263 := by
  match md with
  | .inl q => exact lx_K_le X.2.1.2.2.2
  | .inr x => exact Nat.le_refl 263
/-- pass -/
theorem x_pass (X : PX h t n md C P N F k o ln lp) {c : Nat} (hc : c < 128) : ∃ h', am_run (d + 3) 93 [some (.ref 301), some (.int (nI c))] h none h' ∧ PX h' t n (mpass t n md c) C (if mdK t n md = c then xpad P (nI c) else P) N F k o ln lp ∧ XF h h' := by
  have S := X.1
  have tk := x_tok X
  have hk := mdK_lt X
  obtain ⟨R0, R1, R2, R3, R4, R5⟩ := S303r S
  by_cases e : mdK t n md = c
  · obtain ⟨h1, r1, X1, F1⟩ := x_padd (d := d + 2) X (w := nI c)
    have S1 := X1.1
    obtain ⟨h2, r2, X2, F2⟩ := x_adv (d := d) (v1 := none) X1
    rw [show mpass t n md c = mdA t n md from if_pos e, if_pos e]
    refine ⟨h2, fun Q => ?_, X2, XF_trans (XF_303 F1) F2⟩
    simp (disch := first | with_reducible assumption | omega | exact Or.inl rfl | exact Or.inr rfl | exact bI_01 | exact c_cat | exact vt_ref | exact vt_null | rfl | with_reducible repeat (first | assumption | omega | apply S_I | apply S_L | apply S_D | apply ob_I | apply ob_L | apply ob_D | apply ob_R | apply ax_I | apply ax_L | apply ax_D | apply ax_R | apply o303 | apply o307 | apply o302 | apply o301 | apply ax304 | apply ax305 | apply ax306 | apply ax308 | apply ax309 | apply ax310 | apply lt_S | apply ar305 | apply ar308 | apply ar309)) only [g93_0, g93_1, g93_4, g93_7, g93_8, g93_11, g93_12, g93_15, g93_18, g93_19, g93_22, g93_23, g93_26, g93_29, g93_32, g93_33, g93_36, g93_37, g93_40, tk, e, R2, Option.toList, List.nil_append, List.cons_append, va_rf, nI_ltI, nI_leI, nI_eq, nI_add, nI_sub, nI_lt0, nI_e0, nI_m1, m1_nI, Nat.reduceEqDiff, Nat.reduceLT, Nat.reduceLeDiff, Nat.reduceAdd, Nat.reduceSub, Nat.reduceMul, ↓reduceIte, eq_self, r1 _, r2 _]
  · obtain ⟨h1, r1, X1, F1⟩ := x_ref (d := d + 2) X (f := 2) (by decide) (by decide)
    rw [show mpass t n md c = mdR 2 md from if_neg e, if_neg e]
    refine ⟨h1, fun Q => ?_, X1, F1⟩
    simp (disch := first | with_reducible assumption | omega | exact Or.inl rfl | exact Or.inr rfl | exact bI_01 | exact c_cat | exact vt_ref | exact vt_null | rfl | with_reducible repeat (first | assumption | omega | apply S_I | apply S_L | apply S_D | apply ob_I | apply ob_L | apply ob_D | apply ob_R | apply ax_I | apply ax_L | apply ax_D | apply ax_R | apply o303 | apply o307 | apply o302 | apply o301 | apply ax304 | apply ax305 | apply ax306 | apply ax308 | apply ax309 | apply ax310 | apply lt_S | apply ar305 | apply ar308 | apply ar309)) only [g93_0, g93_1, g93_4, g93_7, g93_8, g93_11, g93_12, g93_15, g93_18, g93_19, g93_22, g93_23, g93_26, g93_29, g93_32, g93_33, g93_36, g93_37, g93_40, tk, e, Option.toList, List.nil_append, List.cons_append, va_rf, nI_ltI, nI_leI, nI_eq, nI_add, nI_sub, nI_lt0, nI_e0, nI_m1, m1_nI, Nat.reduceEqDiff, Nat.reduceLT, Nat.reduceLeDiff, Nat.reduceAdd, Nat.reduceSub, Nat.reduceMul, ↓reduceIte, eq_self, r1 _]
/-- expect -/
theorem x_expect (X : PX h t n md C P N F k o ln lp) {c : Nat} (hc : c < 128) : ∃ h', am_run (d + 3) 84 [some (.ref 301), some (.int (nI c))] h none h' ∧ PX h' t n (mpass t n md c) C P N F k o ln lp ∧ XF h h' := by
  have S := X.1
  have tk := x_tok X
  have hk := mdK_lt X
  by_cases e : mdK t n md = c
  · obtain ⟨h2, r2, X2, F2⟩ := x_adv (d := d) (v1 := none) X
    rw [show mpass t n md c = mdA t n md from if_pos e]
    refine ⟨h2, fun Q => ?_, X2, F2⟩
    simp (disch := first | with_reducible assumption | omega | exact Or.inl rfl | exact Or.inr rfl | exact bI_01 | exact c_cat | exact vt_ref | exact vt_null | rfl | with_reducible repeat (first | assumption | omega | apply S_I | apply S_L | apply S_D | apply ob_I | apply ob_L | apply ob_D | apply ob_R | apply ax_I | apply ax_L | apply ax_D | apply ax_R | apply o303 | apply o307 | apply o302 | apply o301 | apply ax304 | apply ax305 | apply ax306 | apply ax308 | apply ax309 | apply ax310 | apply lt_S | apply ar305 | apply ar308 | apply ar309)) only [g84_0, g84_1, g84_4, g84_7, g84_8, g84_11, g84_12, g84_15, g84_18, g84_21, g84_22, g84_25, g84_26, g84_29, tk, e, Option.toList, List.nil_append, List.cons_append, va_rf, nI_ltI, nI_leI, nI_eq, nI_add, nI_sub, nI_lt0, nI_e0, nI_m1, m1_nI, Nat.reduceEqDiff, Nat.reduceLT, Nat.reduceLeDiff, Nat.reduceAdd, Nat.reduceSub, Nat.reduceMul, ↓reduceIte, eq_self, r2 _]
  · obtain ⟨h1, r1, X1, F1⟩ := x_ref (d := d + 2) X (f := 2) (by decide) (by decide)
    rw [show mpass t n md c = mdR 2 md from if_neg e]
    refine ⟨h1, fun Q => ?_, X1, F1⟩
    simp (disch := first | with_reducible assumption | omega | exact Or.inl rfl | exact Or.inr rfl | exact bI_01 | exact c_cat | exact vt_ref | exact vt_null | rfl | with_reducible repeat (first | assumption | omega | apply S_I | apply S_L | apply S_D | apply ob_I | apply ob_L | apply ob_D | apply ob_R | apply ax_I | apply ax_L | apply ax_D | apply ax_R | apply o303 | apply o307 | apply o302 | apply o301 | apply ax304 | apply ax305 | apply ax306 | apply ax308 | apply ax309 | apply ax310 | apply lt_S | apply ar305 | apply ar308 | apply ar309)) only [g84_0, g84_1, g84_4, g84_7, g84_8, g84_11, g84_12, g84_15, g84_18, g84_21, g84_22, g84_25, g84_26, g84_29, tk, e, Option.toList, List.nil_append, List.cons_append, va_rf, nI_ltI, nI_leI, nI_eq, nI_add, nI_sub, nI_lt0, nI_e0, nI_m1, m1_nI, Nat.reduceEqDiff, Nat.reduceLT, Nat.reduceLeDiff, Nat.reduceAdd, Nat.reduceSub, Nat.reduceMul, ↓reduceIte, eq_self, r1 _]
/-- behind a fault: the class -/
def BX (h : am_H) (t : Nat → Nat) (n : Nat) (y : Nat × Nat) : Prop := ∃ C P N F k o ln lp, PX h t n (.inr y) C P N F k o ln lp
theorem BX_of (X : PX h t n (.inr y) C P N F k o ln lp) : BX h t n y := ⟨C, P, N, F, k, o, ln, lp, X⟩
theorem bx_pass (B : BX h t n y) {c : Nat} (hc : c < 128) : ∃ h', am_run (d + 3) 93 [some (.ref 301), some (.int (nI c))] h none h' ∧ BX h' t n y ∧ XF h h' := by
  obtain ⟨C, P, N, F, k, o, ln, lp, X⟩ := B
  obtain ⟨h', r, X', F'⟩ := x_pass (d := d) X hc
  rw [show mpass t n (.inr y) c = .inr y from if_neg (show ¬ 263 = c by omega)] at X'
  exact ⟨h', r, BX_of X', F'⟩
theorem bx_expect (B : BX h t n y) {c : Nat} (hc : c < 128) : ∃ h', am_run (d + 3) 84 [some (.ref 301), some (.int (nI c))] h none h' ∧ BX h' t n y ∧ XF h h' := by
  obtain ⟨C, P, N, F, k, o, ln, lp, X⟩ := B
  obtain ⟨h', r, X', F'⟩ := x_expect (d := d) X hc
  rw [show mpass t n (.inr y) c = .inr y from if_neg (show ¬ 263 = c by omega)] at X'
  exact ⟨h', r, BX_of X', F'⟩
theorem bx_atom (B : BX h t n y) : ∃ h', am_run (d + 1) 78 [some (.ref 301)] h none h' ∧ BX h' t n y ∧ XF h h' := by
  obtain ⟨C, P, N, F, k, o, ln, lp, X⟩ := B
  have S := X.1
  have tk : am_I h 302 2 = nI 263 := x_tok X
  obtain ⟨h1, r1, X1, F1⟩ := x_ref (d := d) X (f := 2) (by decide) (by decide)
  refine ⟨h1, fun Q => ?_, BX_of X1, F1⟩
  simp (disch := first | with_reducible assumption | omega | exact Or.inl rfl | exact Or.inr rfl | exact bI_01 | exact c_cat | exact vt_ref | exact vt_null | rfl | with_reducible repeat (first | assumption | omega | apply S_I | apply S_L | apply S_D | apply ob_I | apply ob_L | apply ob_D | apply ob_R | apply ax_I | apply ax_L | apply ax_D | apply ax_R | apply o303 | apply o307 | apply o302 | apply o301 | apply ax304 | apply ax305 | apply ax306 | apply ax308 | apply ax309 | apply ax310 | apply lt_S | apply ar305 | apply ar308 | apply ar309)) only [g78_0, g78_1, g78_4, g78_64, g78_65, g78_68, g78_71, g78_72, g78_75, g78_78, g78_79, g78_82, g78_83, g78_86, g78_87, g78_88, g78_91, g78_94, g78_97, g78_98, g78_99, g78_102, g78_103, g78_106, g78_109, g78_112, g78_113, g78_116, g78_117, g78_120, g78_121, g78_122, g78_125, g78_128, g78_129, g78_130, g78_131, g78_134, g78_137, g78_138, g78_139, g78_142, g78_143, g78_144, g78_147, g78_148, g78_151, g78_154, g78_157, g78_158, g78_161, g78_164, g78_165, g78_168, g78_171, g78_172, g78_175, g78_176, g78_179, g78_7_263, tk, Option.toList, List.nil_append, List.cons_append, va_rf, r1 _]
theorem bx_l3 (B : BX h t n y) : ∃ h', am_run (d + 2) 77 [some (.ref 301), some (.int (nI 3)), none, none, none, none, none] h none h' ∧ BX h' t n y ∧ XF h h' := by
  obtain ⟨h', r, B', F'⟩ := bx_atom (d := d) B
  have S := B.choose_spec.choose_spec.choose_spec.choose_spec.choose_spec.choose_spec.choose_spec.choose_spec.1
  refine ⟨h', fun Q => ?_, B', F'⟩
  simp (disch := first | with_reducible assumption | omega | exact Or.inl rfl | exact Or.inr rfl | exact bI_01 | exact c_cat | exact vt_ref | exact vt_null | rfl | with_reducible repeat (first | assumption | omega | apply S_I | apply S_L | apply S_D | apply ob_I | apply ob_L | apply ob_D | apply ob_R | apply ax_I | apply ax_L | apply ax_D | apply ax_R | apply o303 | apply o307 | apply o302 | apply o301 | apply ax304 | apply ax305 | apply ax306 | apply ax308 | apply ax309 | apply ax310 | apply lt_S | apply ar305 | apply ar308 | apply ar309)) only [g77_0, g77_1, g77_2, g77_5, g77_6, g77_9, nI_ltI, nI_leI, nI_eq, nI_add, nI_sub, nI_lt0, nI_e0, nI_m1, m1_nI, Nat.reduceEqDiff, Nat.reduceLT, Nat.reduceLeDiff, Nat.reduceAdd, Nat.reduceSub, Nat.reduceMul, ↓reduceIte, eq_self, Option.toList, List.nil_append, List.cons_append, va_rf, r _, Nat.lt_irrefl]
theorem bx_lev {e : Nat} {j : Nat} (hj : j < 3) (H : ∀ g : am_H, BX g t n y → ∃ g', am_run (e + 1) 77 [some (.ref 301), some (.int (nI (j + 1))), none, none, none, none, none] g none g' ∧ BX g' t n y ∧ XF g g') (B : BX h t n y) : ∃ h', am_run (e + 2) 77 [some (.ref 301), some (.int (nI j)), none, none, none, none, none] h none h' ∧ BX h' t n y ∧ XF h h' := by
  obtain ⟨h', r, B', F'⟩ := H h B
  obtain ⟨C, P, N, F, k, o, ln, lp, X⟩ := B
  have S := X.1
  obtain ⟨C', P', N', F1, k', o', ln', lp', X'⟩ := id B'
  have S' := X'.1
  have tk : am_I h' 302 2 = nI 263 := x_tok X'
  obtain ⟨R0, R1, R2, R3, R4, R5⟩ := S303r S
  have hm : ¬ ((-1 : Int32) = nI j) := fun q => nI_nem1 (by omega) q.symm
  refine ⟨h', fun Q => ?_, B', F'⟩
  by_cases h0 : j = 0
  · subst h0
    simp (disch := first | with_reducible assumption | omega | exact Or.inl rfl | exact Or.inr rfl | exact bI_01 | exact c_cat | exact vt_ref | exact vt_null | rfl | with_reducible repeat (first | assumption | omega | apply S_I | apply S_L | apply S_D | apply ob_I | apply ob_L | apply ob_D | apply ob_R | apply ax_I | apply ax_L | apply ax_D | apply ax_R | apply o303 | apply o307 | apply o302 | apply o301 | apply ax304 | apply ax305 | apply ax306 | apply ax308 | apply ax309 | apply ax310 | apply lt_S | apply ar305 | apply ar308 | apply ar309)) only [g77_0, g77_1, g77_2, g77_5, g77_6, g77_9, g77_10, g77_11, g77_14, g77_17, g77_18, g77_19, g77_22, g77_25, g77_28, g77_29, g77_30, g77_31, g77_32, g77_33, g77_36, g77_37, g77_40, g77_41, g77_44, g77_46, g77_48, g77_49, g77_51, g77_53, g77_55, nI_ltI, nI_leI, nI_eq, nI_add, nI_sub, nI_lt0, nI_e0, nI_m1, m1_nI, Nat.reduceEqDiff, Nat.reduceLT, Nat.reduceLeDiff, Nat.reduceAdd, Nat.reduceSub, Nat.reduceMul, ↓reduceIte, eq_self, Option.toList, List.nil_append, List.cons_append, va_rf, R2, r _, show ¬ 3 ≤ 0 by decide]
    simp (disch := first | with_reducible assumption | omega | exact Or.inl rfl | exact Or.inr rfl | exact bI_01 | exact c_cat | exact vt_ref | exact vt_null | rfl | with_reducible repeat (first | assumption | omega | apply S_I | apply S_L | apply S_D | apply ob_I | apply ob_L | apply ob_D | apply ob_R | apply ax_I | apply ax_L | apply ax_D | apply ax_R | apply o303 | apply o307 | apply o302 | apply o301 | apply ax304 | apply ax305 | apply ax306 | apply ax308 | apply ax309 | apply ax310 | apply lt_S | apply ar305 | apply ar308 | apply ar309)) only [g77_58, g77_59, g77_62, g77_65, g77_68, g77_69, g105_0, g105_84, g105_85, g105_86, g105_87, g105_88, g105_89, g105_90, g105_91, g105_1_263, g77_163, nI_ltI, nI_leI, nI_eq, nI_add, nI_sub, nI_lt0, nI_e0, nI_m1, m1_nI, Nat.reduceEqDiff, Nat.reduceLT, Nat.reduceLeDiff, Nat.reduceAdd, Nat.reduceSub, Nat.reduceMul, ↓reduceIte, eq_self, Option.toList, List.nil_append, List.cons_append, va_rf, tk, hm]
  · simp (disch := first | with_reducible assumption | omega | exact Or.inl rfl | exact Or.inr rfl | exact bI_01 | exact c_cat | exact vt_ref | exact vt_null | rfl | with_reducible repeat (first | assumption | omega | apply S_I | apply S_L | apply S_D | apply ob_I | apply ob_L | apply ob_D | apply ob_R | apply ax_I | apply ax_L | apply ax_D | apply ax_R | apply o303 | apply o307 | apply o302 | apply o301 | apply ax304 | apply ax305 | apply ax306 | apply ax308 | apply ax309 | apply ax310 | apply lt_S | apply ar305 | apply ar308 | apply ar309)) only [g77_0, g77_1, g77_2, g77_5, g77_6, g77_9, g77_10, g77_11, g77_14, g77_17, g77_18, g77_19, g77_22, g77_25, g77_28, g77_29, g77_30, g77_31, g77_32, g77_33, g77_36, g77_37, g77_40, g77_41, g77_44, g77_46, g77_48, g77_49, g77_51, g77_53, g77_55, nI_ltI, nI_leI, nI_eq, nI_add, nI_sub, nI_lt0, nI_e0, nI_m1, m1_nI, Nat.reduceEqDiff, Nat.reduceLT, Nat.reduceLeDiff, Nat.reduceAdd, Nat.reduceSub, Nat.reduceMul, ↓reduceIte, eq_self, Option.toList, List.nil_append, List.cons_append, va_rf, R2, r _, show j < 3 by omega, h0]
    simp (disch := first | with_reducible assumption | omega | exact Or.inl rfl | exact Or.inr rfl | exact bI_01 | exact c_cat | exact vt_ref | exact vt_null | rfl | with_reducible repeat (first | assumption | omega | apply S_I | apply S_L | apply S_D | apply ob_I | apply ob_L | apply ob_D | apply ob_R | apply ax_I | apply ax_L | apply ax_D | apply ax_R | apply o303 | apply o307 | apply o302 | apply o301 | apply ax304 | apply ax305 | apply ax306 | apply ax308 | apply ax309 | apply ax310 | apply lt_S | apply ar305 | apply ar308 | apply ar309)) only [g77_58, g77_59, g77_62, g77_65, g77_68, g77_69, g105_0, g105_84, g105_85, g105_86, g105_87, g105_88, g105_89, g105_90, g105_91, g105_1_263, g77_163, nI_ltI, nI_leI, nI_eq, nI_add, nI_sub, nI_lt0, nI_e0, nI_m1, m1_nI, Nat.reduceEqDiff, Nat.reduceLT, Nat.reduceLeDiff, Nat.reduceAdd, Nat.reduceSub, Nat.reduceMul, ↓reduceIte, eq_self, Option.toList, List.nil_append, List.cons_append, va_rf, tk, hm]
theorem bx_level (B : BX h t n y) : ∃ h', am_run (d + 5) 77 [some (.ref 301), some (.int (nI 0)), none, none, none, none, none] h none h' ∧ BX h' t n y ∧ XF h h' :=
  bx_lev (by decide) (fun _ B => bx_lev (by decide) (fun _ B => bx_lev (by decide) (fun _ B => bx_l3 (d := d) B) B) B) B
end BRK

/-! BOTH PARSERS behind a fault -/
section BRK
variable {d : Nat} {h g g' : am_H} {Q : Option Value → am_H → Prop} {v0 v1 v2 v3 v4 v5 v6 v7 v8 v9 : Option Value} {so s vis on na nc nf : Nat} {oX oM : Int64} {agX agM cnX cnM fnX fnM : Nat → Int64} {fnA : Nat → Nat} {x : Int64}
variable {t : Nat → Nat} {n : Nat} {md : Nat ⊕ (Nat × Nat)} {C : List (Int32 × Int64)} {P : List Int32} {N : List Nat} {F k o ln lp wn wp : Int32} {m m' : Nat} {y : Nat × Nat}
theorem x_tok (X : PX h t n md C P N F k o ln lp) : am_I h 302 2 = nI (mdK t n md) := by
  have L := X.2.2.1
  match md, L with
  | .inl q, L => exact L.1.2.1
  | .inr x, L => exact L.1.1
theorem mdK_lt (X : PX h t n md C P N F k o ln lp) : mdK t n md ≤ 263 := by
  match md with
  | .inl q => exact lx_K_le X.2.1.2.2.2
  | .inr x => exact Nat.le_refl 263
/-- pass -/
theorem x_pass (X : PX h t n md C P N F k o ln lp) {c : Nat} (hc : c < 128) : ∃ h', am_run (d + 3) 93 [some (.ref 301), some (.int (nI c))] h none h' ∧ PX h' t n (mpass t n md c) C (if mdK t n md = c then xpad P (nI c) else P) N F k o ln lp ∧ XF h h' := by
  have S := X.1
  have tk := x_tok X
  have hk := mdK_lt X
  obtain ⟨R0, R1, R2, R3, R4, R5⟩ := S303r S
  by_cases e : mdK t n md = c
  · obtain ⟨h1, r1, X1, F1⟩ := x_padd (d := d + 2) X (w := nI c)
    have S1 := X1.1
    obtain ⟨h2, r2, X2, F2⟩ := x_adv (d := d) (v1 := none) X1
    rw [show mpass t n md c = mdA t n md from if_pos e, if_pos e]
    refine ⟨h2, fun Q => ?_, X2, XF_trans (XF_303 F1) F2⟩
    simp (disch := first | with_reducible assumption | omega | exact Or.inl rfl | exact Or.inr rfl | exact bI_01 | exact c_cat | exact vt_ref | exact vt_null | rfl | with_reducible repeat (first | assumption | omega | apply S_I | apply S_L | apply S_D | apply ob_I | apply ob_L | apply ob_D | apply ob_R | apply ax_I | apply ax_L | apply ax_D | apply ax_R | apply o303 | apply o307 | apply o302 | apply o301 | apply ax304 | apply ax305 | apply ax306 | apply ax308 | apply ax309 | apply ax310 | apply lt_S | apply ar305 | apply ar308 | apply ar309)) only [g93_0, g93_1, g93_4, g93_7, g93_8, g93_11, g93_12, g93_15, g93_18, g93_19, g93_22, g93_23, g93_26, g93_29, g93_32, g93_33, g93_36, g93_37, g93_40, tk, e, R2, Option.toList, List.nil_append, List.cons_append, va_rf, nI_ltI, nI_leI, nI_eq, nI_add, nI_sub, nI_lt0, nI_e0, nI_m1, m1_nI, Nat.reduceEqDiff, Nat.reduceLT, Nat.reduceLeDiff, Nat.reduceAdd, Nat.reduceSub, Nat.reduceMul, ↓reduceIte, eq_self, r1 _, r2 _]
  · obtain ⟨h1, r1, X1, F1⟩ := x_ref (d := d + 2) X (f := 2) (by decide) (by decide)
    rw [show mpass t n md c = mdR 2 md from if_neg e, if_neg e]
    refine ⟨h1, fun Q => ?_, X1, F1⟩
    simp (disch := first | with_reducible assumption | omega | exact Or.inl rfl | exact Or.inr rfl | exact bI_01 | exact c_cat | exact vt_ref | exact vt_null | rfl | with_reducible repeat (first | assumption | omega | apply S_I | apply S_L | apply S_D | apply ob_I | apply ob_L | apply ob_D | apply ob_R | apply ax_I | apply ax_L | apply ax_D | apply ax_R | apply o303 | apply o307 | apply o302 | apply o301 | apply ax304 | apply ax305 | apply ax306 | apply ax308 | apply ax309 | apply ax310 | apply lt_S | apply ar305 | apply ar308 | apply ar309)) only [g93_0, g93_1, g93_4, g93_7, g93_8, g93_11, g93_12, g93_15, g93_18, g93_19, g93_22, g93_23, g93_26, g93_29, g93_32, g93_33, g93_36, g93_37, g93_40, tk, e, Option.toList, List.nil_append, List.cons_append, va_rf, nI_ltI, nI_leI, nI_eq, nI_add, nI_sub, nI_lt0, nI_e0, nI_m1, m1_nI, Nat.reduceEqDiff, Nat.reduceLT, Nat.reduceLeDiff, Nat.reduceAdd, Nat.reduceSub, Nat.reduceMul, ↓reduceIte, eq_self, r1 _]
/-- expect -/
theorem x_expect (X : PX h t n md C P N F k o ln lp) {c : Nat} (hc : c < 128) : ∃ h', am_run (d + 3) 84 [some (.ref 301), some (.int (nI c))] h none h' ∧ PX h' t n (mpass t n md c) C P N F k o ln lp ∧ XF h h' := by
  have S := X.1
  have tk := x_tok X
  have hk := mdK_lt X
  by_cases e : mdK t n md = c
  · obtain ⟨h2, r2, X2, F2⟩ := x_adv (d := d) (v1 := none) X
    rw [show mpass t n md c = mdA t n md from if_pos e]
    refine ⟨h2, fun Q => ?_, X2, F2⟩
    simp (disch := first | with_reducible assumption | omega | exact Or.inl rfl | exact Or.inr rfl | exact bI_01 | exact c_cat | exact vt_ref | exact vt_null | rfl | with_reducible repeat (first | assumption | omega | apply S_I | apply S_L | apply S_D | apply ob_I | apply ob_L | apply ob_D | apply ob_R | apply ax_I | apply ax_L | apply ax_D | apply ax_R | apply o303 | apply o307 | apply o302 | apply o301 | apply ax304 | apply ax305 | apply ax306 | apply ax308 | apply ax309 | apply ax310 | apply lt_S | apply ar305 | apply ar308 | apply ar309)) only [g84_0, g84_1, g84_4, g84_7, g84_8, g84_11, g84_12, g84_15, g84_18, g84_21, g84_22, g84_25, g84_26, g84_29, tk, e, Option.toList, List.nil_append, List.cons_append, va_rf, nI_ltI, nI_leI, nI_eq, nI_add, nI_sub, nI_lt0, nI_e0, nI_m1, m1_nI, Nat.reduceEqDiff, Nat.reduceLT, Nat.reduceLeDiff, Nat.reduceAdd, Nat.reduceSub, Nat.reduceMul, ↓reduceIte, eq_self, r2 _]
  · obtain ⟨h1, r1, X1, F1⟩ := x_ref (d := d + 2) X (f := 2) (by decide) (by decide)
    rw [show mpass t n md c = mdR 2 md from if_neg e]
    refine ⟨h1, fun Q => ?_, X1, F1⟩
    simp (disch := first | with_reducible assumption | omega | exact Or.inl rfl | exact Or.inr rfl | exact bI_01 | exact c_cat | exact vt_ref | exact vt_null | rfl | with_reducible repeat (first | assumption | omega | apply S_I | apply S_L | apply S_D | apply ob_I | apply ob_L | apply ob_D | apply ob_R | apply ax_I | apply ax_L | apply ax_D | apply ax_R | apply o303 | apply o307 | apply o302 | apply o301 | apply ax304 | apply ax305 | apply ax306 | apply ax308 | apply ax309 | apply ax310 | apply lt_S | apply ar305 | apply ar308 | apply ar309)) only [g84_0, g84_1, g84_4, g84_7, g84_8, g84_11, g84_12, g84_15, g84_18, g84_21, g84_22, g84_25, g84_26, g84_29, tk, e, Option.toList, List.nil_append, List.cons_append, va_rf, nI_ltI, nI_leI, nI_eq, nI_add, nI_sub, nI_lt0, nI_e0, nI_m1, m1_nI, Nat.reduceEqDiff, Nat.reduceLT, Nat.reduceLeDiff, Nat.reduceAdd, Nat.reduceSub, Nat.reduceMul, ↓reduceIte, eq_self, r1 _]
/-- behind a fault: the class -/
def BX (h : am_H) (t : Nat → Nat) (n : Nat) (y : Nat × Nat) : Prop := ∃ C P N F k o ln lp, PX h t n (.inr y) C P N F k o ln lp
theorem BX_of (X : PX h t n (.inr y) C P N F k o ln lp) : BX h t n y := ⟨C, P, N, F, k, o, ln, lp, X⟩
theorem bx_pass (B : BX h t n y) {c : Nat} (hc : c < 128) : ∃ h', am_run (d + 3) 93 [some (.ref 301), some (.int (nI c))] h none h' ∧ BX h' t n y ∧ XF h h' := by
  obtain ⟨C, P, N, F, k, o, ln, lp, X⟩ := B
  obtain ⟨h', r, X', F'⟩ := x_pass (d := d) X hc
  rw [show mpass t n (.inr y) c = .inr y from if_neg (show ¬ 263 = c by omega)] at X'
  exact ⟨h', r, BX_of X', F'⟩
theorem bx_expect (B : BX h t n y) {c : Nat} (hc : c < 128) : ∃ h', am_run (d + 3) 84 [some (.ref 301), some (.int (nI c))] h none h' ∧ BX h' t n y ∧ XF h h' := by
  obtain ⟨C, P, N, F, k, o, ln, lp, X⟩ := B
  obtain ⟨h', r, X', F'⟩ := x_expect (d := d) X hc
  rw [show mpass t n (.inr y) c = .inr y from if_neg (show ¬ 263 = c by omega)] at X'
  exact ⟨h', r, BX_of X', F'⟩
theorem bx_atom (B : BX h t n y) : ∃ h', am_run (d + 1) 78 [some (.ref 301)] h none h' ∧ BX h' t n y ∧ XF h h' := by
  obtain ⟨C, P, N, F, k, o, ln, lp, X⟩ := B
  have S := X.1
  have tk : am_I h 302 2 = nI 263 := x_tok X
  obtain ⟨h1, r1, X1, F1⟩ := x_ref (d := d) X (f := 2) (by decide) (by decide)
  refine ⟨h1, fun Q => ?_, BX_of X1, F1⟩
  simp (disch := first | with_reducible assumption | omega | exact Or.inl rfl | exact Or.inr rfl | exact bI_01 | exact c_cat | exact vt_ref | exact vt_null | rfl | with_reducible repeat (first | assumption | omega | apply S_I | apply S_L | apply S_D | apply ob_I | apply ob_L | apply ob_D | apply ob_R | apply ax_I | apply ax_L | apply ax_D | apply ax_R | apply o303 | apply o307 | apply o302 | apply o301 | apply ax304 | apply ax305 | apply ax306 | apply ax308 | apply ax309 | apply ax310 | apply lt_S | apply ar305 | apply ar308 | apply ar309)) only [g78_0, g78_1, g78_4, g78_64, g78_65, g78_68, g78_71, g78_72, g78_75, g78_78, g78_79, g78_82, g78_83, g78_86, g78_87, g78_88, g78_91, g78_94, g78_97, g78_98, g78_99, g78_102, g78_103, g78_106, g78_109, g78_112, g78_113, g78_116, g78_117, g78_120, g78_121, g78_122, g78_125, g78_128, g78_129, g78_130, g78_131, g78_134, g78_137, g78_138, g78_139, g78_142, g78_143, g78_144, g78_147, g78_148, g78_151, g78_154, g78_157, g78_158, g78_161, g78_164, g78_165, g78_168, g78_171, g78_172, g78_175, g78_176, g78_179, g78_7_263, tk, Option.toList, List.nil_append, List.cons_append, va_rf, r1 _]
theorem bx_l3 (B : BX h t n y) : ∃ h', am_run (d + 2) 77 [some (.ref 301), some (.int (nI 3)), none, none, none, none, none] h none h' ∧ BX h' t n y ∧ XF h h' := by
  obtain ⟨h', r, B', F'⟩ := bx_atom (d := d) B
  have S := B.choose_spec.choose_spec.choose_spec.choose_spec.choose_spec.choose_spec.choose_spec.choose_spec.1
  refine ⟨h', fun Q => ?_, B', F'⟩
  simp (disch := first | with_reducible assumption | omega | exact Or.inl rfl | exact Or.inr rfl | exact bI_01 | exact c_cat | exact vt_ref | exact vt_null | rfl | with_reducible repeat (first | assumption | omega | apply S_I | apply S_L | apply S_D | apply ob_I | apply ob_L | apply ob_D | apply ob_R | apply ax_I | apply ax_L | apply ax_D | apply ax_R | apply o303 | apply o307 | apply o302 | apply o301 | apply ax304 | apply ax305 | apply ax306 | apply ax308 | apply ax309 | apply ax310 | apply lt_S | apply ar305 | apply ar308 | apply ar309)) only [g77_0, g77_1, g77_2, g77_5, g77_6, g77_9, nI_ltI, nI_leI, nI_eq, nI_add, nI_sub, nI_lt0, nI_e0, nI_m1, m1_nI, Nat.reduceEqDiff, Nat.reduceLT, Nat.reduceLeDiff, Nat.reduceAdd, Nat.reduceSub, Nat.reduceMul, ↓reduceIte, eq_self, Option.toList, List.nil_append, List.cons_append, va_rf, r _, Nat.lt_irrefl]
theorem bx_lev {e : Nat} {j : Nat} (hj : j < 3) (H : ∀ g : am_H, BX g t n y → ∃ g', am_run (e + 1) 77 [some (.ref 301), some (.int (nI (j + 1))), none, none, none, none, none] g none g' ∧ BX g' t n y ∧ XF g g') (B : BX h t n y) : ∃ h', am_run (e + 2) 77 [some (.ref 301), some (.int (nI j)), none, none, none, none, none] h none h' ∧ BX h' t n y ∧ XF h h' := by
  obtain ⟨h', r, B', F'⟩ := H h B
  obtain ⟨C, P, N, F, k, o, ln, lp, X⟩ := B
  have S := X.1
  obtain ⟨C', P', N', F1, k', o', ln', lp', X'⟩ := id B'
  have S' := X'.1
  have tk : am_I h' 302 2 = nI 263 := x_tok X'
  obtain ⟨R0, R1, R2, R3, R4, R5⟩ := S303r S
  have hm : ¬ ((-1 : Int32) = nI j) := fun q => nI_nem1 (by omega) q.symm
  refine ⟨h', fun Q => ?_, B', F'⟩
  by_cases h0 : j = 0
  · subst h0
    simp (disch := first | with_reducible assumption | omega | exact Or.inl rfl | exact Or.inr rfl | exact bI_01 | exact c_cat | exact vt_ref | exact vt_null | rfl | with_reducible repeat (first | assumption | omega | apply S_I | apply S_L | apply S_D | apply ob_I | apply ob_L | apply ob_D | apply ob_R | apply ax_I | apply ax_L | apply ax_D | apply ax_R | apply o303 | apply o307 | apply o302 | apply o301 | apply ax304 | apply ax305 | apply ax306 | apply ax308 | apply ax309 | apply ax310 | apply lt_S | apply ar305 | apply ar308 | apply ar309)) only [g77_0, g77_1, g77_2, g77_5, g77_6, g77_9, g77_10, g77_11, g77_14, g77_17, g77_18, g77_19, g77_22, g77_25, g77_28, g77_29, g77_30, g77_31, g77_32, g77_33, g77_36, g77_37, g77_40, g77_41, g77_44, g77_46, g77_48, g77_49, g77_51, g77_53, g77_55, nI_ltI, nI_leI, nI_eq, nI_add, nI_sub, nI_lt0, nI_e0, nI_m1, m1_nI, Nat.reduceEqDiff, Nat.reduceLT, Nat.reduceLeDiff, Nat.reduceAdd, Nat.reduceSub, Nat.reduceMul, ↓reduceIte, eq_self, Option.toList, List.nil_append, List.cons_append, va_rf, R2, r _, show ¬ 3 ≤ 0 by decide]
    simp (disch := first | with_reducible assumption | omega | exact Or.inl rfl | exact Or.inr rfl | exact bI_01 | exact c_cat | exact vt_ref | exact vt_null | rfl | with_reducible repeat (first | assumption | omega | apply S_I | apply S_L | apply S_D | apply ob_I | apply ob_L | apply ob_D | apply ob_R | apply ax_I | apply ax_L | apply ax_D | apply ax_R | apply o303 | apply o307 | apply o302 | apply o301 | apply ax304 | apply ax305 | apply ax306 | apply ax308 | apply ax309 | apply ax310 | apply lt_S | apply ar305 | apply ar308 | apply ar309)) only [g77_58, g77_59, g77_62, g77_65, g77_68, g77_69, g105_0, g105_84, g105_85, g105_86, g105_87, g105_88, g105_89, g105_90, g105_91, g105_1_263, g77_163, nI_ltI, nI_leI, nI_eq, nI_add, nI_sub, nI_lt0, nI_e0, nI_m1, m1_nI, Nat.reduceEqDiff, Nat.reduceLT, Nat.reduceLeDiff, Nat.reduceAdd, Nat.reduceSub, Nat.reduceMul, ↓reduceIte, eq_self, Option.toList, List.nil_append, List.cons_append, va_rf, tk, hm]
  · simp (disch := first | with_reducible assumption | omega | exact Or.inl rfl | exact Or.inr rfl | exact bI_01 | exact c_cat | exact vt_ref | exact vt_null | rfl | with_reducible repeat (first | assumption | omega | apply S_I | apply S_L | apply S_D | apply ob_I | apply ob_L | apply ob_D | apply ob_R | apply ax_I | apply ax_L | apply ax_D | apply ax_R | apply o303 | apply o307 | apply o302 | apply o301 | apply ax304 | apply ax305 | apply ax306 | apply ax308 | apply ax309 | apply ax310 | apply lt_S | apply ar305 | apply ar308 | apply ar309)) only [g77_0, g77_1, g77_2, g77_5, g77_6, g77_9, g77_10, g77_11, g77_14, g77_17, g77_18, g77_19, g77_22, g77_25, g77_28, g77_29, g77_30, g77_31, g77_32, g77_33, g77_36, g77_37, g77_40, g77_41, g77_44, g77_46, g77_48, g77_49, g77_51, g77_53, g77_55, nI_ltI, nI_leI, nI_eq, nI_add, nI_sub, nI_lt0, nI_e0, nI_m1, m1_nI, Nat.reduceEqDiff, Nat.reduceLT, Nat.reduceLeDiff, Nat.reduceAdd, Nat.reduceSub, Nat.reduceMul, ↓reduceIte, eq_self, Option.toList, List.nil_append, List.cons_append, va_rf, R2, r _, show j < 3 by omega, h0]
    simp (disch := first | with_reducible assumption | omega | exact Or.inl rfl | exact Or.inr rfl | exact bI_01 | exact c_cat | exact vt_ref | exact vt_null | rfl | with_reducible repeat (first | assumption | omega | apply S_I | apply S_L | apply S_D | apply ob_I | apply ob_L | apply ob_D | apply ob_R | apply ax_I | apply ax_L | apply ax_D | apply ax_R | apply o303 | apply o307 | apply o302 | apply o301 | apply ax304 | apply ax305 | apply ax306 | apply ax308 | apply ax309 | apply ax310 | apply lt_S | apply ar305 | apply ar308 | apply ar309)) only [g77_58, g77_59, g77_62, g77_65, g77_68, g77_69, g105_0, g105_84, g105_85, g105_86, g105_87, g105_88, g105_89, g105_90, g105_91, g105_1_263, g77_163, nI_ltI, nI_leI, nI_eq, nI_add, nI_sub, nI_lt0, nI_e0, nI_m1, m1_nI, Nat.reduceEqDiff, Nat.reduceLT, Nat.reduceLeDiff, Nat.reduceAdd, Nat.reduceSub, Nat.reduceMul, ↓reduceIte, eq_self, Option.toList, List.nil_append, List.cons_append, va_rf, tk, hm]
theorem bx_level (B : BX h t n y) : ∃ h', am_run (d + 5) 77 [some (.ref 301), some (.int (nI 0)), none, none, none, none, none] h none h' ∧ BX h' t n y ∧ XF h h' :=
  bx_lev (by decide) (fun _ B => bx_lev (by decide) (fun _ B => bx_lev (by decide) (fun _ B => bx_l3 (d := d) B) B) B) B
theorem bx_S (B : BX h t n y) : am_S h := by
  obtain ⟨C, P, N, F, k, o, ln, lp, X⟩ := B
  exact X.1
theorem bx_tok (B : BX h t n y) : am_I h 302 2 = nI 263 := by
  obtain ⟨C, P, N, F, k, o, ln, lp, X⟩ := B
  exact x_tok X
theorem bx_adv (B : BX h t n y) : ∃ h', am_run (d + 2) 22 [some (.ref 302), v1] h none h' ∧ BX h' t n y ∧ XF h h' := by
  obtain ⟨C, P, N, F, k, o, ln, lp, X⟩ := B
  obtain ⟨h', r, X', F'⟩ := x_adv (d := d) (v1 := v1) X
  exact ⟨h', r, BX_of X', F'⟩
theorem bx_ref (B : BX h t n y) {f : Nat} (hf : f ≠ 0) (hf2 : f < 100) : ∃ h', am_run d 25 [some (.ref 302), some (.int (nI f))] h none h' ∧ BX h' t n y ∧ XF h h' := by
  obtain ⟨C, P, N, F, k, o, ln, lp, X⟩ := B
  obtain ⟨h', r, X', F'⟩ := x_ref (d := d) X hf hf2
  exact ⟨h', r, BX_of X', F'⟩
theorem bx_add (B : BX h t n y) {w : Int32} {v : Int64} : ∃ h' p, p < 1000 ∧ am_run d 11 [some (.ref 303), some (.int w), some (.long v), none] h (some (.int (nI p))) h' ∧ BX h' t n y ∧ XF h h' := by
  obtain ⟨C, P, N, F, k, o, ln, lp, X⟩ := B
  obtain ⟨h', r, X', F'⟩ := x_add (d := d) X (w := w) (v := v)
  refine ⟨h', _, ?_, r, BX_of X', XF_303 F'⟩
  have := X'.2.2.2.1.2.1
  omega
theorem bx_padd (B : BX h t n y) {w : Int32} : ∃ h', am_run d 134 [some (.ref 307), some (.int w)] h none h' ∧ BX h' t n y ∧ XF h h' := by
  obtain ⟨C, P, N, F, k, o, ln, lp, X⟩ := B
  obtain ⟨h', r, X', F'⟩ := x_padd (d := d) X (w := w)
  exact ⟨h', r, BX_of X', XF_303 F'⟩
theorem bx_aim (B : BX h t n y) {p : Nat} (hp : p < 1000) : ∃ h', am_run d 14 [some (.ref 303), some (.int (nI p))] h none h' ∧ BX h' t n y ∧ XF h h' := by
  obtain ⟨C, P, N, F, k, o, ln, lp, X⟩ := B
  obtain ⟨h', r, X', F'⟩ := x_aim (d := d) X hp
  exact ⟨h', r, BX_of X', XF_303 F'⟩
theorem bx_pos (B : BX h t n y) : (∃ e, e ≤ 240 ∧ am_I h 302 1 = nI e) ∧ (∃ e, e ≤ 240 ∧ am_I h 302 3 = nI e) ∧ ∃ c, c < 256 ∧ am_I h 302 7 = nI c := by
  obtain ⟨C, P, N, F, k, o, ln, lp, X⟩ := B
  have h240 := X.2.1.2.2.1
  obtain ⟨⟨b1, b2, b3, ⟨e1, e2, e3⟩, e4, e5, e6⟩, -, -, -, c⟩ := X.2.2.1
  exact ⟨⟨e4, by omega, e6⟩, ⟨e1, by omega, e3⟩, c⟩
theorem bx_copy (B : BX h t n y) {a : Nat} (ha : a ≤ 1000) : ∃ h', am_run (d + 1) 86 [some (.ref 301), some (.int (nI a)), none] h none h' ∧ BX h' t n y ∧ XF h h' := by
  obtain ⟨⟨e, e1, e2⟩, -, -⟩ := bx_pos B
  obtain ⟨C, P, N, F, k, o, ln, lp, X⟩ := B
  obtain ⟨h', r, X', F'⟩ := x_copy (d := d) (e := e) (by omega) ha X e2
  exact ⟨h', r, BX_of X', XF_303 F'⟩
theorem bx_cdig (B : BX h t n y) : ∃ h', am_run (d + 2) 85 [some (.ref 301), none] h none h' ∧ BX h' t n y ∧ XF h h' := by
  obtain ⟨⟨e, e1, e2⟩, ⟨a, a1, a2⟩, -⟩ := bx_pos B
  obtain ⟨C, P, N, F, k, o, ln, lp, X⟩ := B
  obtain ⟨h', r, X', F'⟩ := x_cdig (d := d) (e := e) (by omega) (by omega) X e2 a2
  exact ⟨h', r, BX_of X', XF_303 F'⟩
theorem bx_later (B : BX h t n y) {f p : Int32} : ∃ h', am_run d 88 [some (.ref 301), some (.int f), some (.int p)] h none h' ∧ BX h' t n y ∧ XF h h' := by
  obtain ⟨C, P, N, F, k, o, ln, lp, X⟩ := B
  obtain ⟨h', r, X', F'⟩ := x_later (d := d) X (f := f) (p := p)
  exact ⟨h', r, BX_of X', F'⟩
theorem bx_need (B : BX h t n y) {c : Nat} (hc : c < 256) : ∃ h', am_run (d + 2) 12 [some (.ref 303), some (.int (nI c))] h none h' ∧ BX h' t n y ∧ XF h h' := by
  obtain ⟨C, P, N, F, k, o, ln, lp, X⟩ := B
  obtain ⟨h', r, X', F'⟩ := x_addNeed (d := d) X hc
  exact ⟨h', r, BX_of X', XF_303 F'⟩
theorem bx_open (B : BX h t n y) : ∃ h', am_run (d + 1) 82 [some (.ref 301)] h none h' ∧ BX h' t n y ∧ XF h h' := by
  obtain ⟨C, P, N, F, k, o, ln, lp, X⟩ := B
  obtain ⟨h', r, X', F'⟩ := x_tellOpen (d := d) X
  have e : (xopen (.inr y) o).1 = (.inr y : Nat ⊕ (Nat × Nat)) := by unfold xopen; split <;> rfl
  rw [e] at X'
  exact ⟨h', r, BX_of X', F'⟩
theorem bx_o (B : BX h t n y) {o' : Int32} : BX (am_setI h 301 10 o') t n y ∧ XF h (am_setI h 301 10 o') := by
  obtain ⟨C, P, N, F, k, o, ln, lp, X⟩ := B
  exact ⟨BX_of (PX_o X), XF_I XF_refl (by omega)⟩
theorem bx_resFn (B : BX h t n y) (K : cfX h so s vis on na nc nf oX agX cnX fnX fnA) (D : ∀ i j, i < nf → j < nf → fnX i = fnX j → i = j) (A : ∀ i, i < nf → fnA i ≤ 3) {gv : Nat} (hg : gv ≤ 3) {p : Int32} : ∃ h' v, am_run (d + 1) 95 [some (.ref 301), some (.long x), none, some (.int (nI gv)), some (.int p), none, none, none] h (some (.int v)) h' ∧ BX h' t n y ∧ XF h h' := by
  obtain ⟨C, P, N, F, k, o, ln, lp, X⟩ := B
  obtain ⟨h', r, X', F'⟩ := x_resFn (d := d) (x := x) (p := p) X K D A hg
  exact ⟨h', _, r, BX_of X', F'⟩
theorem bx_resName (B : BX h t n y) (K : cfX h so s vis on na nc nf oX agX cnX fnX fnA) {p : Int32} : ∃ h', am_run (d + 1) 91 [some (.ref 301), some (.long x), none, some (.int p), v4] h none h' ∧ BX h' t n y ∧ XF h h' := by
  obtain ⟨C, P, N, F, k, o, ln, lp, X⟩ := B
  obtain ⟨h', r, X', F'⟩ := x_resName (d := d) (x := x) (p := p) (v4 := v4) X K
  exact ⟨h', r, BX_of X', F'⟩
theorem bx_plain (B : BX h t n y) : ∃ h', am_run (d + 1) 104 [some (.ref 301), none, none] h (some (.long (lN 0))) h' ∧ BX h' t n y ∧ XF h h' := by
  have S := bx_S B
  have tk := bx_tok B
  obtain ⟨h', r, B', F'⟩ := bx_ref (d := d) B (f := 2) (by decide) (by decide)
  refine ⟨h', fun Q => ?_, B', F'⟩
  simp (disch := first | with_reducible assumption | omega | exact Or.inl rfl | exact Or.inr rfl | exact bI_01 | exact c_cat | exact vt_ref | exact vt_null | rfl | with_reducible repeat (first | assumption | omega | apply S_I | apply S_L | apply S_D | apply ob_I | apply ob_L | apply ob_D | apply ob_R | apply ax_I | apply ax_L | apply ax_D | apply ax_R | apply o303 | apply o307 | apply o302 | apply o301 | apply ax304 | apply ax305 | apply ax306 | apply ax308 | apply ax309 | apply ax310 | apply lt_S | apply ar305 | apply ar308 | apply ar309)) only [g104_0, g104_1, g104_4, g104_7, g104_10, g104_13, g104_14, g104_17, g104_20, g104_23, g104_24, g104_27, g104_28, g104_31, g104_32, g104_35, g104_36, g104_37, g104_38, g104_41, g104_44, g104_45, g104_46, g104_49, g104_52, g104_53, tk, nI_ltI, nI_leI, nI_eq, nI_add, nI_sub, nI_lt0, nI_e0, nI_m1, m1_nI, Nat.reduceEqDiff, Nat.reduceLT, Nat.reduceLeDiff, Nat.reduceAdd, Nat.reduceSub, Nat.reduceMul, ↓reduceIte, eq_self, Option.toList, List.nil_append, List.cons_append, va_rf, r _]
theorem bx_rangeEnd (B : BX h t n y) : ∃ h' c, c < 256 ∧ am_run (d + 1) 100 [some (.ref 301), none] h (some (.int (nI c))) h' ∧ BX h' t n y ∧ XF h h' := by
  have S := bx_S B
  have tk := bx_tok B
  obtain ⟨-, -, c, hc, ec⟩ := bx_pos B
  obtain ⟨h', r, B', F'⟩ := bx_ref (d := d) B (f := 2) (by decide) (by decide)
  refine ⟨h', c, hc, fun Q => ?_, B', F'⟩
  simp (disch := first | with_reducible assumption | omega | exact Or.inl rfl | exact Or.inr rfl | exact bI_01 | exact c_cat | exact vt_ref | exact vt_null | rfl | with_reducible repeat (first | assumption | omega | apply S_I | apply S_L | apply S_D | apply ob_I | apply ob_L | apply ob_D | apply ob_R | apply ax_I | apply ax_L | apply ax_D | apply ax_R | apply o303 | apply o307 | apply o302 | apply o301 | apply ax304 | apply ax305 | apply ax306 | apply ax308 | apply ax309 | apply ax310 | apply lt_S | apply ar305 | apply ar308 | apply ar309)) only [g100_0, g100_1, g100_4, g100_7, g100_8, g100_9, g100_12, g100_15, g100_18, g100_21, g100_22, g100_23, g100_26, g100_29, g100_32, g100_33, g100_36, g100_39, g100_42, g100_43, g100_46, g100_47, g100_50, g100_51, tk, ec, nI_ltI, nI_leI, nI_eq, nI_add, nI_sub, nI_lt0, nI_e0, nI_m1, m1_nI, Nat.reduceEqDiff, Nat.reduceLT, Nat.reduceLeDiff, Nat.reduceAdd, Nat.reduceSub, Nat.reduceMul, ↓reduceIte, eq_self, Option.toList, List.nil_append, List.cons_append, va_rf, r _]
theorem bx_range (B : BX h t n y) (hso : am_I h 301 5 = nI so) (hs3 : so < 3) : ∃ h' v, am_run (d + 4) 99 [some (.ref 301), none, none, none, none, none] h (some (.int v)) h' ∧ BX h' t n y ∧ XF h h' := by
  have S := bx_S B
  have tk := bx_tok B
  obtain ⟨-, ⟨a, a1, a2⟩, -⟩ := bx_pos B
  obtain ⟨h1, c1, hc1, r1, B1, F1⟩ := bx_rangeEnd (d := d + 2) B
  have S1 := bx_S B1
  obtain ⟨h2, r2, B2, F2⟩ := bx_pass (d := d) B1 (c := 58) (by decide)
  have S2 := bx_S B2
  obtain ⟨h3, c3, hc3, r3, B3, F3⟩ := bx_rangeEnd (d := d + 2) B2
  have S3 := bx_S B3
  have F03 := XF_trans F1 (XF_trans F2 F3)
  have hso3 : am_I h3 301 5 = nI so := (F03.2.1 5 (by decide)).trans hso
  have W : ∀ Q, am_J (d + 4) 99 0 [some (.ref 301), none, none, none, none, none] [] h Q ↔ am_J (d + 4) 99 49 [some (.ref 301), some (.int (nI a)), some (.int (nI c1)), some (.int (nI c3)), some (.int (nI (c1 + 256 * c3))), none] [] h3 Q := by
    intro Q
    simp (disch := first | with_reducible assumption | omega | exact Or.inl rfl | exact Or.inr rfl | exact bI_01 | exact c_cat | exact vt_ref | exact vt_null | rfl | with_reducible repeat (first | assumption | omega | apply S_I | apply S_L | apply S_D | apply ob_I | apply ob_L | apply ob_D | apply ob_R | apply ax_I | apply ax_L | apply ax_D | apply ax_R | apply o303 | apply o307 | apply o302 | apply o301 | apply ax304 | apply ax305 | apply ax306 | apply ax308 | apply ax309 | apply ax310 | apply lt_S | apply ar305 | apply ar308 | apply ar309)) only [g99_0, g99_1, g99_4, g99_7, g99_8, g99_9, g99_12, g99_15, g99_18, g99_21, g99_22, g99_25, g99_26, g99_29, g99_30, g99_31, g99_33, g99_36, g99_37, g99_40, g99_41, g99_42, g99_43, g99_45, g99_46, g99_47, tk, a2, nI_ltI, nI_leI, nI_eq, nI_add, nI_sub, nI_lt0, nI_e0, nI_m1, m1_nI, Nat.reduceEqDiff, Nat.reduceLT, Nat.reduceLeDiff, Nat.reduceAdd, Nat.reduceSub, Nat.reduceMul, ↓reduceIte, eq_self, Option.toList, List.nil_append, List.cons_append, va_rf, r1 _, r2 _, r3 _, or8]
  by_cases h0 : so = 0 ∧ rgS c1 c3 = true
  · obtain ⟨C, P, N, F, k, o, ln, lp, X⟩ := B3
    obtain ⟨h4, W4, X4, F4⟩ := x_rngLoop (d := d + 1) (p := nI a) (x := nI c1) (y := nI c3) hc1 hc3 h0.2 _ 0 h3 N rfl (Nat.zero_le _) X
    refine ⟨h4, nI (c1 + 256 * c3), fun Q => ?_, BX_of X4, XF_trans F03 (XF_303 F4)⟩
    rw [W, ← W4 Q]
    simp (disch := first | with_reducible assumption | omega | exact Or.inl rfl | exact Or.inr rfl | exact bI_01 | exact c_cat | exact vt_ref | exact vt_null | rfl | with_reducible repeat (first | assumption | omega | apply S_I | apply S_L | apply S_D | apply ob_I | apply ob_L | apply ob_D | apply ob_R | apply ax_I | apply ax_L | apply ax_D | apply ax_R | apply o303 | apply o307 | apply o302 | apply o301 | apply ax304 | apply ax305 | apply ax306 | apply ax308 | apply ax309 | apply ax310 | apply lt_S | apply ar305 | apply ar308 | apply ar309)) only [g99_49, g99_50, g99_53, g99_56, g99_57, g99_58, g99_61, g99_64, g99_65, hso3, h0.1, nI_ltI, nI_leI, nI_eq, nI_add, nI_sub, nI_lt0, nI_e0, nI_m1, m1_nI, Nat.reduceEqDiff, Nat.reduceLT, Nat.reduceLeDiff, Nat.reduceAdd, Nat.reduceSub, Nat.reduceMul, ↓reduceIte, eq_self, Option.toList, List.nil_append, List.cons_append, va_rf, x_isSound, h0.2, bI_t]
  · obtain ⟨h4, r4, B4, F4⟩ := bx_later (d := d + 3) B3 (f := nI 4) (p := nI a)
    refine ⟨h4, nI (c1 + 256 * c3), fun Q => ?_, B4, XF_trans F03 F4⟩
    rw [W]
    by_cases c : so = 0
    · have hS : rgS c1 c3 = false := by
        cases e : rgS c1 c3 with
        | false => rfl
        | true => exact absurd ⟨c, e⟩ h0
      simp (disch := first | with_reducible assumption | omega | exact Or.inl rfl | exact Or.inr rfl | exact bI_01 | exact c_cat | exact vt_ref | exact vt_null | rfl | with_reducible repeat (first | assumption | omega | apply S_I | apply S_L | apply S_D | apply ob_I | apply ob_L | apply ob_D | apply ob_R | apply ax_I | apply ax_L | apply ax_D | apply ax_R | apply o303 | apply o307 | apply o302 | apply o301 | apply ax304 | apply ax305 | apply ax306 | apply ax308 | apply ax309 | apply ax310 | apply lt_S | apply ar305 | apply ar308 | apply ar309)) only [g99_49, g99_50, g99_53, g99_56, g99_57, g99_58, g99_61, g99_64, g99_65, g99_100, g99_101, g99_102, g99_103, g99_106, g99_108, hso3, c, nI_ltI, nI_leI, nI_eq, nI_add, nI_sub, nI_lt0, nI_e0, nI_m1, m1_nI, Nat.reduceEqDiff, Nat.reduceLT, Nat.reduceLeDiff, Nat.reduceAdd, Nat.reduceSub, Nat.reduceMul, ↓reduceIte, eq_self, Option.toList, List.nil_append, List.cons_append, va_rf, x_isSound, hS, bI_f, r4 _]
    · simp (disch := first | with_reducible assumption | omega | exact Or.inl rfl | exact Or.inr rfl | exact bI_01 | exact c_cat | exact vt_ref | exact vt_null | rfl | with_reducible repeat (first | assumption | omega | apply S_I | apply S_L | apply S_D | apply ob_I | apply ob_L | apply ob_D | apply ob_R | apply ax_I | apply ax_L | apply ax_D | apply ax_R | apply o303 | apply o307 | apply o302 | apply o301 | apply ax304 | apply ax305 | apply ax306 | apply ax308 | apply ax309 | apply ax310 | apply lt_S | apply ar305 | apply ar308 | apply ar309)) only [g99_49, g99_50, g99_53, g99_56, g99_57, g99_58, g99_61, g99_64, g99_65, g99_100, g99_101, g99_102, g99_103, g99_106, g99_108, hso3, c, nI_ltI, nI_leI, nI_eq, nI_add, nI_sub, nI_lt0, nI_e0, nI_m1, m1_nI, Nat.reduceEqDiff, Nat.reduceLT, Nat.reduceLeDiff, Nat.reduceAdd, Nat.reduceSub, Nat.reduceMul, ↓reduceIte, eq_self, Option.toList, List.nil_append, List.cons_append, va_rf, r4 _]
/-! the model behind a fault -/
def BM (h : am_H) (t : Nat → Nat) (n : Nat) (y : Nat × Nat) (m : Nat) : Prop := ∃ k o m0 wn wp, m ≤ m0 ∧ MX h t n (.inr y) k o m0 wn wp
theorem BM_of (X : MX h t n (.inr y) k o m' wn wp) (hm : m ≤ m') : BM h t n y m := ⟨k, o, m', wn, wp, hm, X⟩
theorem bm_S (B : BM h t n y m) : am_S h ∧ ∃ f, f ≠ 0 ∧ f < 100 ∧ am_I h 349 22 = nI f := by
  obtain ⟨k, o, m0, wn, wp, hm, X⟩ := B
  exact ⟨X.1, y.1, X.2.2.2.1.2.1, X.2.2.2.1.2.2.1, X.2.2.2.1.1.1⟩
theorem bm_nx (B : BM h t n y m) : ∃ h', am_run (d + 3) 193 [some (.ref 349), v1] h none h' ∧ BM h' t n y m ∧ MF h h' m := by
  obtain ⟨k, o, m0, wn, wp, hm, X⟩ := B
  obtain ⟨h', r, X', F'⟩ := m_nx (d := d) (v1 := v1) X
  exact ⟨h', r, BM_of X' hm, MF_trans MF_refl F' hm⟩
theorem bm_pass (B : BM h t n y m) {v : Nat} (hv : v ∈ [37, 40, 41, 42, 43, 44, 45, 47, 58, 60, 61]) : ∃ h', am_run (d + 4) 208 [some (.ref 349), some (.int (nI v))] h none h' ∧ BM h' t n y m ∧ MF h h' m := by
  obtain ⟨k, o, m0, wn, wp, hm, X⟩ := B
  obtain ⟨h', r, X', F'⟩ := m_pass (d := d) X hv
  have hv2 : v < 100 := by simp only [List.mem_cons, List.not_mem_nil, or_false] at hv; omega
  rw [show mpass t n (.inr y) v = .inr y from if_neg (show ¬ 263 = v by omega)] at X'
  exact ⟨h', r, BM_of X' hm, MF_trans MF_refl F' hm⟩
theorem bm_sign (B : BM h t n y m) {v : Nat} (hv : v ∈ [37, 40, 41, 42, 43, 44, 45, 47, 58, 60, 61, 76, 78]) : am_J d 205 0 [some (.ref 349), some (.int (nI v))] [] h Q ↔ Q (some (.int (nI 0))) h := by
  obtain ⟨k, o, m0, wn, wp, hm, X⟩ := B
  rw [m_sign X hv]
  have : ∀ v, v ∈ [37, 40, 41, 42, 43, 44, 45, 47, 58, 60, 61, 76, 78] → ¬ 263 = mcode v := by decide
  rw [show decide (mdK t n (.inr y) = mcode v) = false from decide_eq_false (this v hv)]
  rfl
theorem bm_node (B : BM h t n y m) {kd x y' z : Int32} : ∃ h' r, am_run d 215 [some (.ref 349), some (.int kd), some (.int x), some (.int y'), some (.int z), v5] h (some (.int (nI r))) h' ∧ m ≤ r ∧ r ≤ 40 ∧ BM h' t n y m ∧ MF h h' m := by
  obtain ⟨k, o, m0, wn, wp, hm, X⟩ := B
  obtain ⟨h', r, X', F'⟩ := m_nodeB (d := d) (v5 := v5) X (kd := kd) (x := x) (y := y') (z := z)
  exact ⟨h', m0, r, hm, X.2.2.2.2.2.2.2.1, BM_of X' hm, MF_trans MF_refl F' hm⟩
theorem bm_o (B : BM h t n y m) {o' : Int32} : BM (am_setI h 349 26 o') t n y m ∧ MF h (am_setI h 349 26 o') m := by
  obtain ⟨k, o, m0, wn, wp, hm, X⟩ := B
  exact ⟨BM_of (MX_o X) hm, MF_I MF_refl (by omega)⟩
theorem bm_k (B : BM h t n y m) {o' : Int32} : BM (am_setI h 349 25 o') t n y m ∧ MF h (am_setI h 349 25 o') m := by
  obtain ⟨k, o, m0, wn, wp, hm, X⟩ := B
  exact ⟨BM_of (MX_k X) hm, MF_I MF_refl (by omega)⟩
theorem bm_wh (B : BM h t n y m) {r : Nat} (h1 : m ≤ r) (h2 : r ≤ 40) {v : Int64} : BM (am_setL h 357 (3648 + r) v) t n y m ∧ MF h (am_setL h 357 (3648 + r) v) m := by
  obtain ⟨k, o, m0, wn, wp, hm, X⟩ := B
  exact ⟨BM_of (MX_tbL X) hm, MF_TL MF_refl (by omega) (by omega)⟩
theorem bm_wrong (B : BM h t n y m) {f p : Int32} : ∃ h', am_run d 207 [some (.ref 349), some (.int f), some (.int p)] h none h' ∧ BM h' t n y m ∧ MF h h' m := by
  obtain ⟨k, o, m0, wn, wp, hm, X⟩ := B
  obtain ⟨h', r, X', F'⟩ := m_wrong (d := d) X (f := f) (p := p)
  exact ⟨h', r, BM_of X' hm, MF_trans MF_refl F' hm⟩
theorem bm_atom (B : BM h t n y m) : am_J d 214 0 [some (.ref 349), v1] [] h Q ↔ Q (some (.int (nI 0))) h := by
  obtain ⟨S, f, h0, h1, h2⟩ := bm_S B
  simp (disch := first | with_reducible assumption | omega | exact Or.inl rfl | exact Or.inr rfl | exact bI_01 | exact c_cat | exact vt_ref | exact vt_null | rfl | with_reducible repeat (first | assumption | omega | apply S_I | apply S_L | apply S_D | apply ob_I | apply ob_L | apply ob_D | apply ob_R | apply ax_I | apply ax_L | apply ax_D | apply ax_R | apply o303 | apply o307 | apply o302 | apply o301 | apply ax304 | apply ax305 | apply ax306 | apply ax308 | apply ax309 | apply ax310 | apply lt_S | apply ar305 | apply ar308 | apply ar309)) only [g214_0, g214_1, g214_4, g214_7, g214_8, h2, nI_ltI, nI_leI, nI_eq, nI_add, nI_sub, nI_lt0, nI_e0, nI_m1, m1_nI, Nat.reduceEqDiff, Nat.reduceLT, Nat.reduceLeDiff, Nat.reduceAdd, Nat.reduceSub, Nat.reduceMul, ↓reduceIte, eq_self, h0]
theorem bm_prod (B : BM h t n y m) : am_J (d + 1) 213 0 [some (.ref 349), v1, v2, v3] [] h Q ↔ Q (some (.int (nI 0))) h := by
  obtain ⟨S, f, h0, h1, h2⟩ := bm_S B
  simp (disch := first | with_reducible assumption | omega | exact Or.inl rfl | exact Or.inr rfl | exact bI_01 | exact c_cat | exact vt_ref | exact vt_null | rfl | with_reducible repeat (first | assumption | omega | apply S_I | apply S_L | apply S_D | apply ob_I | apply ob_L | apply ob_D | apply ob_R | apply ax_I | apply ax_L | apply ax_D | apply ax_R | apply o303 | apply o307 | apply o302 | apply o301 | apply ax304 | apply ax305 | apply ax306 | apply ax308 | apply ax309 | apply ax310 | apply lt_S | apply ar305 | apply ar308 | apply ar309)) only [g213_0, g213_1, g213_4, bm_atom B, Option.toList, List.nil_append, List.cons_append, va_rf]
  rw [g213_5]
  simp (disch := first | with_reducible assumption | omega | exact Or.inl rfl | exact Or.inr rfl | exact bI_01 | exact c_cat | exact vt_ref | exact vt_null | rfl | with_reducible repeat (first | assumption | omega | apply S_I | apply S_L | apply S_D | apply ob_I | apply ob_L | apply ob_D | apply ob_R | apply ax_I | apply ax_L | apply ax_D | apply ax_R | apply o303 | apply o307 | apply o302 | apply o301 | apply ax304 | apply ax305 | apply ax306 | apply ax308 | apply ax309 | apply ax310 | apply lt_S | apply ar305 | apply ar308 | apply ar309)) only [g213_6, g213_8, g213_11, g213_14, g213_15, g213_17, g213_20, g213_23, g213_24, g213_26, g213_29, g213_67, g213_68, bm_sign B (v := 42) (by decide), bm_sign B (v := 47) (by decide), bm_sign B (v := 37) (by decide), Option.toList, List.nil_append, List.cons_append, va_rf, nI_ltI, nI_leI, nI_eq, nI_add, nI_sub, nI_lt0, nI_e0, nI_m1, m1_nI, Nat.reduceEqDiff, Nat.reduceLT, Nat.reduceLeDiff, Nat.reduceAdd, Nat.reduceSub, Nat.reduceMul, ↓reduceIte, eq_self]
theorem bm_sum (B : BM h t n y m) : am_J (d + 2) 212 0 [some (.ref 349), v1, v2, v3] [] h Q ↔ Q (some (.int (nI 0))) h := by
  obtain ⟨S, f, h0, h1, h2⟩ := bm_S B
  simp (disch := first | with_reducible assumption | omega | exact Or.inl rfl | exact Or.inr rfl | exact bI_01 | exact c_cat | exact vt_ref | exact vt_null | rfl | with_reducible repeat (first | assumption | omega | apply S_I | apply S_L | apply S_D | apply ob_I | apply ob_L | apply ob_D | apply ob_R | apply ax_I | apply ax_L | apply ax_D | apply ax_R | apply o303 | apply o307 | apply o302 | apply o301 | apply ax304 | apply ax305 | apply ax306 | apply ax308 | apply ax309 | apply ax310 | apply lt_S | apply ar305 | apply ar308 | apply ar309)) only [g212_0, g212_1, g212_4, bm_prod B, Option.toList, List.nil_append, List.cons_append, va_rf]
  rw [g212_5]
  simp (disch := first | with_reducible assumption | omega | exact Or.inl rfl | exact Or.inr rfl | exact bI_01 | exact c_cat | exact vt_ref | exact vt_null | rfl | with_reducible repeat (first | assumption | omega | apply S_I | apply S_L | apply S_D | apply ob_I | apply ob_L | apply ob_D | apply ob_R | apply ax_I | apply ax_L | apply ax_D | apply ax_R | apply o303 | apply o307 | apply o302 | apply o301 | apply ax304 | apply ax305 | apply ax306 | apply ax308 | apply ax309 | apply ax310 | apply lt_S | apply ar305 | apply ar308 | apply ar309)) only [g212_6, g212_8, g212_11, g212_14, g212_15, g212_17, g212_20, g212_58, g212_59, bm_sign B (v := 43) (by decide), bm_sign B (v := 45) (by decide), Option.toList, List.nil_append, List.cons_append, va_rf, nI_ltI, nI_leI, nI_eq, nI_add, nI_sub, nI_lt0, nI_e0, nI_m1, m1_nI, Nat.reduceEqDiff, Nat.reduceLT, Nat.reduceLeDiff, Nat.reduceAdd, Nat.reduceSub, Nat.reduceMul, ↓reduceIte, eq_self]
theorem bm_e (B : BM h t n y m) : am_J (d + 3) 211 0 [some (.ref 349), v1, v2, v3] [] h Q ↔ Q (some (.int (nI 0))) h := by
  obtain ⟨S, f, h0, h1, h2⟩ := bm_S B
  simp (disch := first | with_reducible assumption | omega | exact Or.inl rfl | exact Or.inr rfl | exact bI_01 | exact c_cat | exact vt_ref | exact vt_null | rfl | with_reducible repeat (first | assumption | omega | apply S_I | apply S_L | apply S_D | apply ob_I | apply ob_L | apply ob_D | apply ob_R | apply ax_I | apply ax_L | apply ax_D | apply ax_R | apply o303 | apply o307 | apply o302 | apply o301 | apply ax304 | apply ax305 | apply ax306 | apply ax308 | apply ax309 | apply ax310 | apply lt_S | apply ar305 | apply ar308 | apply ar309)) only [g211_0, g211_1, g211_4, g211_5, g211_6, g211_8, g211_11, g211_14, g211_15, g211_17, g211_20, g211_23, g211_24, g211_26, g211_29, g211_32, g211_33, g211_35, g211_38, g211_41, g211_42, g211_45, g211_46, g211_47, g211_48, g211_51, g211_54, g211_55, g211_58, g211_59, g211_62, g211_63, g211_64, g211_66, g211_67, g211_68, g211_69, g211_72, g211_73, g211_74, bm_sum B, bm_sign B (v := 60) (by decide), bm_sign B (v := 76) (by decide), bm_sign B (v := 61) (by decide), bm_sign B (v := 78) (by decide), Option.toList, List.nil_append, List.cons_append, va_rf, nI_ltI, nI_leI, nI_eq, nI_add, nI_sub, nI_lt0, nI_e0, nI_m1, m1_nI, Nat.reduceEqDiff, Nat.reduceLT, Nat.reduceLeDiff, Nat.reduceAdd, Nat.reduceSub, Nat.reduceMul, ↓reduceIte, eq_self]
theorem bm_need (B : BM h t n y m) (b : Bool) : ∃ h', am_run (d + 1) 203 [some (.ref 349), some (.int (bI b))] h none h' ∧ BM h' t n y m ∧ MF h h' m := by
  cases b with
  | true => exact ⟨h, fun Q => m_needT (bm_S B).1, B, MF_refl⟩
  | false =>
    obtain ⟨k, o, m0, wn, wp, hm, X⟩ := B
    obtain ⟨h', r, X', F'⟩ := m_needF (d := d) X
    exact ⟨h', r, BM_of X' hm, MF_trans MF_refl F' hm⟩
theorem bm_rows (B : BM h t n y m) : ∃ h', am_run (d + 2) 222 [some (.ref 349), v1, v2, v3] h (some (.int (nI 0))) h' ∧ BM h' t n y m ∧ MF h h' m := by
  obtain ⟨S, f, h0, h1, h2⟩ := bm_S B
  by_cases c : am_I h 349 18 = nI 2
  · obtain ⟨h', r, B', F'⟩ := bm_need (d := d) B true
    obtain ⟨S', f', h0', h1', h2'⟩ := bm_S B'
    refine ⟨h', fun Q => ?_, B', F'⟩
    rw [bI_t] at r
    simp (disch := first | with_reducible assumption | omega | exact Or.inl rfl | exact Or.inr rfl | exact bI_01 | exact c_cat | exact vt_ref | exact vt_null | rfl | with_reducible repeat (first | assumption | omega | apply S_I | apply S_L | apply S_D | apply ob_I | apply ob_L | apply ob_D | apply ob_R | apply ax_I | apply ax_L | apply ax_D | apply ax_R | apply o303 | apply o307 | apply o302 | apply o301 | apply ax304 | apply ax305 | apply ax306 | apply ax308 | apply ax309 | apply ax310 | apply lt_S | apply ar305 | apply ar308 | apply ar309)) only [g222_0, g222_1, g222_2, g222_5, g222_6, g222_9, g222_10, g222_13, g222_14, g222_17, g222_18, g222_21, g222_24, g222_25, c, nI_ltI, nI_leI, nI_eq, nI_add, nI_sub, nI_lt0, nI_e0, nI_m1, m1_nI, Nat.reduceEqDiff, Nat.reduceLT, Nat.reduceLeDiff, Nat.reduceAdd, Nat.reduceSub, Nat.reduceMul, ↓reduceIte, eq_self, Option.toList, List.nil_append, List.cons_append, va_rf, r _, h2', h0']
  · obtain ⟨h', r, B', F'⟩ := bm_need (d := d) B false
    obtain ⟨S', f', h0', h1', h2'⟩ := bm_S B'
    refine ⟨h', fun Q => ?_, B', F'⟩
    rw [bI_f] at r
    simp (disch := first | with_reducible assumption | omega | exact Or.inl rfl | exact Or.inr rfl | exact bI_01 | exact c_cat | exact vt_ref | exact vt_null | rfl | with_reducible repeat (first | assumption | omega | apply S_I | apply S_L | apply S_D | apply ob_I | apply ob_L | apply ob_D | apply ob_R | apply ax_I | apply ax_L | apply ax_D | apply ax_R | apply o303 | apply o307 | apply o302 | apply o301 | apply ax304 | apply ax305 | apply ax306 | apply ax308 | apply ax309 | apply ax310 | apply lt_S | apply ar305 | apply ar308 | apply ar309)) only [g222_0, g222_1, g222_2, g222_5, g222_6, g222_9, g222_10, g222_13, g222_14, g222_17, g222_18, g222_21, g222_24, g222_25, c, nI_ltI, nI_leI, nI_eq, nI_add, nI_sub, nI_lt0, nI_e0, nI_m1, m1_nI, Nat.reduceEqDiff, Nat.reduceLT, Nat.reduceLeDiff, Nat.reduceAdd, Nat.reduceSub, Nat.reduceMul, ↓reduceIte, eq_self, Option.toList, List.nil_append, List.cons_append, va_rf, r _, h2', h0']
end BRK

/-! THE MODEL: isBelow, isEndless, middle, push, overRows -/
section MIB
variable {h g g' : am_H} {r dp t d : Nat} {σ : SR} {x1 y1 : Int64} {x2 y2 x y : UInt64} {tx ty : Int32} {u v : VL}
theorem m_isBelow (U : tv tx x1 x2 u) (V : tv ty y1 y2 v) : am_run d 259 [some (.int tx), some (.long x1), none, some (.double x2), none, some (.int ty), some (.long y1), none, some (.double y2), none] g (some (.int (bI (below u v)))) g := fun Q => by
  have kx := okD_nn (ok_vD (tv_ok U))
  have ky := okD_nn (ok_vD (tv_ok V))
  have key : ∀ (a b : UInt64), am_nn a → am_nn b → (0 ≤ Op.cmpValue (Jvm.FP.dcmp a b) .g) = (dlt a b = false) := fun a b ha hb => by
    rw [cm_ge ha hb, dlt_key ha hb]
    exact propext ⟨fun q => decide_eq_false (by omega), fun q => by have := of_decide_eq_false q; omega⟩
  match u, v, U, V with
  | .inl a, .inl b, ⟨f1, f2⟩, ⟨e1, e2⟩ =>
    subst f1; subst f2; subst e1; subst e2
    by_cases c : x1 < y1
    · rw [show below (.inl x1) (.inl y1) = true from decide_eq_true c]
      simp (disch := first | with_reducible assumption | omega | exact Or.inl rfl | exact Or.inr rfl | exact bI_01 | exact c_cat | exact vt_ref | exact vt_null | rfl | with_reducible repeat (first | assumption | omega | apply S_I | apply S_L | apply S_D | apply ob_I | apply ob_L | apply ob_D | apply ob_R | apply ax_I | apply ax_L | apply ax_D | apply ax_R | apply o303 | apply o307 | apply o302 | apply o301 | apply ax304 | apply ax305 | apply ax306 | apply ax308 | apply ax309 | apply ax310 | apply lt_S | apply ar305 | apply ar308 | apply ar309)) only [g259_0, g259_1, g259_2, g259_5, g259_7, g259_8, g259_11, g259_12, g259_14, g259_15, g259_18, g259_19, g259_22, g259_23, g259_24, g259_25, g259_26, g259_29, g259_30, g259_31, g259_34, g259_35, g259_37, g259_38, g259_41, g259_43, g259_44, g259_47, g259_49, g259_50, g259_53, g259_54, g259_57, g259_58, Option.toList, List.nil_append, List.cons_append, va_rf, nI_ltI, nI_leI, nI_eq, nI_add, nI_sub, nI_lt0, nI_e0, nI_m1, m1_nI, Nat.reduceEqDiff, Nat.reduceLT, Nat.reduceLeDiff, Nat.reduceAdd, Nat.reduceSub, Nat.reduceMul, ↓reduceIte, eq_self, lgx_ge, c, not_true_eq_false, bI_t]
    · rw [show below (.inl x1) (.inl y1) = false from decide_eq_false c]
      simp (disch := first | with_reducible assumption | omega | exact Or.inl rfl | exact Or.inr rfl | exact bI_01 | exact c_cat | exact vt_ref | exact vt_null | rfl | with_reducible repeat (first | assumption | omega | apply S_I | apply S_L | apply S_D | apply ob_I | apply ob_L | apply ob_D | apply ob_R | apply ax_I | apply ax_L | apply ax_D | apply ax_R | apply o303 | apply o307 | apply o302 | apply o301 | apply ax304 | apply ax305 | apply ax306 | apply ax308 | apply ax309 | apply ax310 | apply lt_S | apply ar305 | apply ar308 | apply ar309)) only [g259_0, g259_1, g259_2, g259_5, g259_7, g259_8, g259_11, g259_12, g259_14, g259_15, g259_18, g259_19, g259_22, g259_23, g259_24, g259_25, g259_26, g259_29, g259_30, g259_31, g259_34, g259_35, g259_37, g259_38, g259_41, g259_43, g259_44, g259_47, g259_49, g259_50, g259_53, g259_54, g259_57, g259_58, Option.toList, List.nil_append, List.cons_append, va_rf, nI_ltI, nI_leI, nI_eq, nI_add, nI_sub, nI_lt0, nI_e0, nI_m1, m1_nI, Nat.reduceEqDiff, Nat.reduceLT, Nat.reduceLeDiff, Nat.reduceAdd, Nat.reduceSub, Nat.reduceMul, ↓reduceIte, eq_self, lgx_ge, c, not_false_eq_true, bI_f]
  | .inl a, .inr b, ⟨f1, f2⟩, ⟨e1, e2, e3⟩ =>
    subst f1; subst f2; subst e1; subst e2
    have k := key _ _ kx ky
    cases c : dlt (vD (.inl x1)) (vD (.inr y2)) with
    | true =>
      rw [c] at k
      rw [show below (.inl x1) (.inr y2) = true from c]
      simp (disch := first | with_reducible assumption | omega | exact Or.inl rfl | exact Or.inr rfl | exact bI_01 | exact c_cat | exact vt_ref | exact vt_null | rfl | with_reducible repeat (first | assumption | omega | apply S_I | apply S_L | apply S_D | apply ob_I | apply ob_L | apply ob_D | apply ob_R | apply ax_I | apply ax_L | apply ax_D | apply ax_R | apply o303 | apply o307 | apply o302 | apply o301 | apply ax304 | apply ax305 | apply ax306 | apply ax308 | apply ax309 | apply ax310 | apply lt_S | apply ar305 | apply ar308 | apply ar309)) only [g259_0, g259_1, g259_2, g259_5, g259_7, g259_8, g259_11, g259_12, g259_14, g259_15, g259_18, g259_19, g259_22, g259_23, g259_24, g259_25, g259_26, g259_29, g259_30, g259_31, g259_34, g259_35, g259_37, g259_38, g259_41, g259_43, g259_44, g259_47, g259_49, g259_50, g259_53, g259_54, g259_57, g259_58, Option.toList, List.nil_append, List.cons_append, va_rf, nI_ltI, nI_leI, nI_eq, nI_add, nI_sub, nI_lt0, nI_e0, nI_m1, m1_nI, Nat.reduceEqDiff, Nat.reduceLT, Nat.reduceLeDiff, Nat.reduceAdd, Nat.reduceSub, Nat.reduceMul, ↓reduceIte, eq_self, vD] at k ⊢
      simp (disch := first | with_reducible assumption | omega | exact Or.inl rfl | exact Or.inr rfl | exact bI_01 | exact c_cat | exact vt_ref | exact vt_null | rfl | with_reducible repeat (first | assumption | omega | apply S_I | apply S_L | apply S_D | apply ob_I | apply ob_L | apply ob_D | apply ob_R | apply ax_I | apply ax_L | apply ax_D | apply ax_R | apply o303 | apply o307 | apply o302 | apply o301 | apply ax304 | apply ax305 | apply ax306 | apply ax308 | apply ax309 | apply ax310 | apply lt_S | apply ar305 | apply ar308 | apply ar309)) only [g259_0, g259_1, g259_2, g259_5, g259_7, g259_8, g259_11, g259_12, g259_14, g259_15, g259_18, g259_19, g259_22, g259_23, g259_24, g259_25, g259_26, g259_29, g259_30, g259_31, g259_34, g259_35, g259_37, g259_38, g259_41, g259_43, g259_44, g259_47, g259_49, g259_50, g259_53, g259_54, g259_57, g259_58, Option.toList, List.nil_append, List.cons_append, va_rf, nI_ltI, nI_leI, nI_eq, nI_add, nI_sub, nI_lt0, nI_e0, nI_m1, m1_nI, Nat.reduceEqDiff, Nat.reduceLT, Nat.reduceLeDiff, Nat.reduceAdd, Nat.reduceSub, Nat.reduceMul, ↓reduceIte, eq_self, k, bI_t, Bool.true_eq_false]
    | false =>
      rw [c] at k
      rw [show below (.inl x1) (.inr y2) = false from c]
      simp (disch := first | with_reducible assumption | omega | exact Or.inl rfl | exact Or.inr rfl | exact bI_01 | exact c_cat | exact vt_ref | exact vt_null | rfl | with_reducible repeat (first | assumption | omega | apply S_I | apply S_L | apply S_D | apply ob_I | apply ob_L | apply ob_D | apply ob_R | apply ax_I | apply ax_L | apply ax_D | apply ax_R | apply o303 | apply o307 | apply o302 | apply o301 | apply ax304 | apply ax305 | apply ax306 | apply ax308 | apply ax309 | apply ax310 | apply lt_S | apply ar305 | apply ar308 | apply ar309)) only [g259_0, g259_1, g259_2, g259_5, g259_7, g259_8, g259_11, g259_12, g259_14, g259_15, g259_18, g259_19, g259_22, g259_23, g259_24, g259_25, g259_26, g259_29, g259_30, g259_31, g259_34, g259_35, g259_37, g259_38, g259_41, g259_43, g259_44, g259_47, g259_49, g259_50, g259_53, g259_54, g259_57, g259_58, Option.toList, List.nil_append, List.cons_append, va_rf, nI_ltI, nI_leI, nI_eq, nI_add, nI_sub, nI_lt0, nI_e0, nI_m1, m1_nI, Nat.reduceEqDiff, Nat.reduceLT, Nat.reduceLeDiff, Nat.reduceAdd, Nat.reduceSub, Nat.reduceMul, ↓reduceIte, eq_self, vD] at k ⊢
      simp (disch := first | with_reducible assumption | omega | exact Or.inl rfl | exact Or.inr rfl | exact bI_01 | exact c_cat | exact vt_ref | exact vt_null | rfl | with_reducible repeat (first | assumption | omega | apply S_I | apply S_L | apply S_D | apply ob_I | apply ob_L | apply ob_D | apply ob_R | apply ax_I | apply ax_L | apply ax_D | apply ax_R | apply o303 | apply o307 | apply o302 | apply o301 | apply ax304 | apply ax305 | apply ax306 | apply ax308 | apply ax309 | apply ax310 | apply lt_S | apply ar305 | apply ar308 | apply ar309)) only [g259_0, g259_1, g259_2, g259_5, g259_7, g259_8, g259_11, g259_12, g259_14, g259_15, g259_18, g259_19, g259_22, g259_23, g259_24, g259_25, g259_26, g259_29, g259_30, g259_31, g259_34, g259_35, g259_37, g259_38, g259_41, g259_43, g259_44, g259_47, g259_49, g259_50, g259_53, g259_54, g259_57, g259_58, Option.toList, List.nil_append, List.cons_append, va_rf, nI_ltI, nI_leI, nI_eq, nI_add, nI_sub, nI_lt0, nI_e0, nI_m1, m1_nI, Nat.reduceEqDiff, Nat.reduceLT, Nat.reduceLeDiff, Nat.reduceAdd, Nat.reduceSub, Nat.reduceMul, ↓reduceIte, eq_self, k, bI_f]
  | .inr a, .inl b, ⟨f1, f2, f3⟩, ⟨e1, e2⟩ =>
    subst f1; subst f2; subst e1; subst e2
    have k := key _ _ kx ky
    cases c : dlt (vD (.inr x2)) (vD (.inl y1)) with
    | true =>
      rw [c] at k
      rw [show below (.inr x2) (.inl y1) = true from c]
      simp (disch := first | with_reducible assumption | omega | exact Or.inl rfl | exact Or.inr rfl | exact bI_01 | exact c_cat | exact vt_ref | exact vt_null | rfl | with_reducible repeat (first | assumption | omega | apply S_I | apply S_L | apply S_D | apply ob_I | apply ob_L | apply ob_D | apply ob_R | apply ax_I | apply ax_L | apply ax_D | apply ax_R | apply o303 | apply o307 | apply o302 | apply o301 | apply ax304 | apply ax305 | apply ax306 | apply ax308 | apply ax309 | apply ax310 | apply lt_S | apply ar305 | apply ar308 | apply ar309)) only [g259_0, g259_1, g259_2, g259_5, g259_7, g259_8, g259_11, g259_12, g259_14, g259_15, g259_18, g259_19, g259_22, g259_23, g259_24, g259_25, g259_26, g259_29, g259_30, g259_31, g259_34, g259_35, g259_37, g259_38, g259_41, g259_43, g259_44, g259_47, g259_49, g259_50, g259_53, g259_54, g259_57, g259_58, Option.toList, List.nil_append, List.cons_append, va_rf, nI_ltI, nI_leI, nI_eq, nI_add, nI_sub, nI_lt0, nI_e0, nI_m1, m1_nI, Nat.reduceEqDiff, Nat.reduceLT, Nat.reduceLeDiff, Nat.reduceAdd, Nat.reduceSub, Nat.reduceMul, ↓reduceIte, eq_self, vD] at k ⊢
      simp (disch := first | with_reducible assumption | omega | exact Or.inl rfl | exact Or.inr rfl | exact bI_01 | exact c_cat | exact vt_ref | exact vt_null | rfl | with_reducible repeat (first | assumption | omega | apply S_I | apply S_L | apply S_D | apply ob_I | apply ob_L | apply ob_D | apply ob_R | apply ax_I | apply ax_L | apply ax_D | apply ax_R | apply o303 | apply o307 | apply o302 | apply o301 | apply ax304 | apply ax305 | apply ax306 | apply ax308 | apply ax309 | apply ax310 | apply lt_S | apply ar305 | apply ar308 | apply ar309)) only [g259_0, g259_1, g259_2, g259_5, g259_7, g259_8, g259_11, g259_12, g259_14, g259_15, g259_18, g259_19, g259_22, g259_23, g259_24, g259_25, g259_26, g259_29, g259_30, g259_31, g259_34, g259_35, g259_37, g259_38, g259_41, g259_43, g259_44, g259_47, g259_49, g259_50, g259_53, g259_54, g259_57, g259_58, Option.toList, List.nil_append, List.cons_append, va_rf, nI_ltI, nI_leI, nI_eq, nI_add, nI_sub, nI_lt0, nI_e0, nI_m1, m1_nI, Nat.reduceEqDiff, Nat.reduceLT, Nat.reduceLeDiff, Nat.reduceAdd, Nat.reduceSub, Nat.reduceMul, ↓reduceIte, eq_self, k, bI_t, Bool.true_eq_false]
    | false =>
      rw [c] at k
      rw [show below (.inr x2) (.inl y1) = false from c]
      simp (disch := first | with_reducible assumption | omega | exact Or.inl rfl | exact Or.inr rfl | exact bI_01 | exact c_cat | exact vt_ref | exact vt_null | rfl | with_reducible repeat (first | assumption | omega | apply S_I | apply S_L | apply S_D | apply ob_I | apply ob_L | apply ob_D | apply ob_R | apply ax_I | apply ax_L | apply ax_D | apply ax_R | apply o303 | apply o307 | apply o302 | apply o301 | apply ax304 | apply ax305 | apply ax306 | apply ax308 | apply ax309 | apply ax310 | apply lt_S | apply ar305 | apply ar308 | apply ar309)) only [g259_0, g259_1, g259_2, g259_5, g259_7, g259_8, g259_11, g259_12, g259_14, g259_15, g259_18, g259_19, g259_22, g259_23, g259_24, g259_25, g259_26, g259_29, g259_30, g259_31, g259_34, g259_35, g259_37, g259_38, g259_41, g259_43, g259_44, g259_47, g259_49, g259_50, g259_53, g259_54, g259_57, g259_58, Option.toList, List.nil_append, List.cons_append, va_rf, nI_ltI, nI_leI, nI_eq, nI_add, nI_sub, nI_lt0, nI_e0, nI_m1, m1_nI, Nat.reduceEqDiff, Nat.reduceLT, Nat.reduceLeDiff, Nat.reduceAdd, Nat.reduceSub, Nat.reduceMul, ↓reduceIte, eq_self, vD] at k ⊢
      simp (disch := first | with_reducible assumption | omega | exact Or.inl rfl | exact Or.inr rfl | exact bI_01 | exact c_cat | exact vt_ref | exact vt_null | rfl | with_reducible repeat (first | assumption | omega | apply S_I | apply S_L | apply S_D | apply ob_I | apply ob_L | apply ob_D | apply ob_R | apply ax_I | apply ax_L | apply ax_D | apply ax_R | apply o303 | apply o307 | apply o302 | apply o301 | apply ax304 | apply ax305 | apply ax306 | apply ax308 | apply ax309 | apply ax310 | apply lt_S | apply ar305 | apply ar308 | apply ar309)) only [g259_0, g259_1, g259_2, g259_5, g259_7, g259_8, g259_11, g259_12, g259_14, g259_15, g259_18, g259_19, g259_22, g259_23, g259_24, g259_25, g259_26, g259_29, g259_30, g259_31, g259_34, g259_35, g259_37, g259_38, g259_41, g259_43, g259_44, g259_47, g259_49, g259_50, g259_53, g259_54, g259_57, g259_58, Option.toList, List.nil_append, List.cons_append, va_rf, nI_ltI, nI_leI, nI_eq, nI_add, nI_sub, nI_lt0, nI_e0, nI_m1, m1_nI, Nat.reduceEqDiff, Nat.reduceLT, Nat.reduceLeDiff, Nat.reduceAdd, Nat.reduceSub, Nat.reduceMul, ↓reduceIte, eq_self, k, bI_f]
  | .inr a, .inr b, ⟨f1, f2, f3⟩, ⟨e1, e2, e3⟩ =>
    subst f1; subst f2; subst e1; subst e2
    have k := key _ _ kx ky
    cases c : dlt (vD (.inr x2)) (vD (.inr y2)) with
    | true =>
      rw [c] at k
      rw [show below (.inr x2) (.inr y2) = true from c]
      simp (disch := first | with_reducible assumption | omega | exact Or.inl rfl | exact Or.inr rfl | exact bI_01 | exact c_cat | exact vt_ref | exact vt_null | rfl | with_reducible repeat (first | assumption | omega | apply S_I | apply S_L | apply S_D | apply ob_I | apply ob_L | apply ob_D | apply ob_R | apply ax_I | apply ax_L | apply ax_D | apply ax_R | apply o303 | apply o307 | apply o302 | apply o301 | apply ax304 | apply ax305 | apply ax306 | apply ax308 | apply ax309 | apply ax310 | apply lt_S | apply ar305 | apply ar308 | apply ar309)) only [g259_0, g259_1, g259_2, g259_5, g259_7, g259_8, g259_11, g259_12, g259_14, g259_15, g259_18, g259_19, g259_22, g259_23, g259_24, g259_25, g259_26, g259_29, g259_30, g259_31, g259_34, g259_35, g259_37, g259_38, g259_41, g259_43, g259_44, g259_47, g259_49, g259_50, g259_53, g259_54, g259_57, g259_58, Option.toList, List.nil_append, List.cons_append, va_rf, nI_ltI, nI_leI, nI_eq, nI_add, nI_sub, nI_lt0, nI_e0, nI_m1, m1_nI, Nat.reduceEqDiff, Nat.reduceLT, Nat.reduceLeDiff, Nat.reduceAdd, Nat.reduceSub, Nat.reduceMul, ↓reduceIte, eq_self, vD] at k ⊢
      simp (disch := first | with_reducible assumption | omega | exact Or.inl rfl | exact Or.inr rfl | exact bI_01 | exact c_cat | exact vt_ref | exact vt_null | rfl | with_reducible repeat (first | assumption | omega | apply S_I | apply S_L | apply S_D | apply ob_I | apply ob_L | apply ob_D | apply ob_R | apply ax_I | apply ax_L | apply ax_D | apply ax_R | apply o303 | apply o307 | apply o302 | apply o301 | apply ax304 | apply ax305 | apply ax306 | apply ax308 | apply ax309 | apply ax310 | apply lt_S | apply ar305 | apply ar308 | apply ar309)) only [g259_0, g259_1, g259_2, g259_5, g259_7, g259_8, g259_11, g259_12, g259_14, g259_15, g259_18, g259_19, g259_22, g259_23, g259_24, g259_25, g259_26, g259_29, g259_30, g259_31, g259_34, g259_35, g259_37, g259_38, g259_41, g259_43, g259_44, g259_47, g259_49, g259_50, g259_53, g259_54, g259_57, g259_58, Option.toList, List.nil_append, List.cons_append, va_rf, nI_ltI, nI_leI, nI_eq, nI_add, nI_sub, nI_lt0, nI_e0, nI_m1, m1_nI, Nat.reduceEqDiff, Nat.reduceLT, Nat.reduceLeDiff, Nat.reduceAdd, Nat.reduceSub, Nat.reduceMul, ↓reduceIte, eq_self, k, bI_t, Bool.true_eq_false]
    | false =>
      rw [c] at k
      rw [show below (.inr x2) (.inr y2) = false from c]
      simp (disch := first | with_reducible assumption | omega | exact Or.inl rfl | exact Or.inr rfl | exact bI_01 | exact c_cat | exact vt_ref | exact vt_null | rfl | with_reducible repeat (first | assumption | omega | apply S_I | apply S_L | apply S_D | apply ob_I | apply ob_L | apply ob_D | apply ob_R | apply ax_I | apply ax_L | apply ax_D | apply ax_R | apply o303 | apply o307 | apply o302 | apply o301 | apply ax304 | apply ax305 | apply ax306 | apply ax308 | apply ax309 | apply ax310 | apply lt_S | apply ar305 | apply ar308 | apply ar309)) only [g259_0, g259_1, g259_2, g259_5, g259_7, g259_8, g259_11, g259_12, g259_14, g259_15, g259_18, g259_19, g259_22, g259_23, g259_24, g259_25, g259_26, g259_29, g259_30, g259_31, g259_34, g259_35, g259_37, g259_38, g259_41, g259_43, g259_44, g259_47, g259_49, g259_50, g259_53, g259_54, g259_57, g259_58, Option.toList, List.nil_append, List.cons_append, va_rf, nI_ltI, nI_leI, nI_eq, nI_add, nI_sub, nI_lt0, nI_e0, nI_m1, m1_nI, Nat.reduceEqDiff, Nat.reduceLT, Nat.reduceLeDiff, Nat.reduceAdd, Nat.reduceSub, Nat.reduceMul, ↓reduceIte, eq_self, vD] at k ⊢
      simp (disch := first | with_reducible assumption | omega | exact Or.inl rfl | exact Or.inr rfl | exact bI_01 | exact c_cat | exact vt_ref | exact vt_null | rfl | with_reducible repeat (first | assumption | omega | apply S_I | apply S_L | apply S_D | apply ob_I | apply ob_L | apply ob_D | apply ob_R | apply ax_I | apply ax_L | apply ax_D | apply ax_R | apply o303 | apply o307 | apply o302 | apply o301 | apply ax304 | apply ax305 | apply ax306 | apply ax308 | apply ax309 | apply ax310 | apply lt_S | apply ar305 | apply ar308 | apply ar309)) only [g259_0, g259_1, g259_2, g259_5, g259_7, g259_8, g259_11, g259_12, g259_14, g259_15, g259_18, g259_19, g259_22, g259_23, g259_24, g259_25, g259_26, g259_29, g259_30, g259_31, g259_34, g259_35, g259_37, g259_38, g259_41, g259_43, g259_44, g259_47, g259_49, g259_50, g259_53, g259_54, g259_57, g259_58, Option.toList, List.nil_append, List.cons_append, va_rf, nI_ltI, nI_leI, nI_eq, nI_add, nI_sub, nI_lt0, nI_e0, nI_m1, m1_nI, Nat.reduceEqDiff, Nat.reduceLT, Nat.reduceLeDiff, Nat.reduceAdd, Nat.reduceSub, Nat.reduceMul, ↓reduceIte, eq_self, k, bI_f]
theorem m_isEndless (nn : am_nn x) : am_run d 256 [some (.double x), none] g (some (.int (bI (!finB x)))) g := fun Q => by
  have fk := fin_key nn
  have e1 := cm_g nn nn_max .l
  have e2 := cm_ge nn nn_min .g
  rw [dk_max] at e1
  rw [dk_min] at e2
  by_cases c : finB x = true
  · obtain ⟨k1, k2⟩ := fk.mp c
    rw [c, Bool.not_true, bI_f]
    simp (disch := first | with_reducible assumption | omega | exact Or.inl rfl | exact Or.inr rfl | exact bI_01 | exact c_cat | exact vt_ref | exact vt_null | rfl | with_reducible repeat (first | assumption | omega | apply S_I | apply S_L | apply S_D | apply ob_I | apply ob_L | apply ob_D | apply ob_R | apply ax_I | apply ax_L | apply ax_D | apply ax_R | apply o303 | apply o307 | apply o302 | apply o301 | apply ax304 | apply ax305 | apply ax306 | apply ax308 | apply ax309 | apply ax310 | apply lt_S | apply ar305 | apply ar308 | apply ar309)) only [g256_0, g256_1, g256_4, g256_5, g256_8, g256_9, g256_12, g256_13, g256_16, g256_17, g256_20, g256_21, Option.toList, List.nil_append, List.cons_append, va_rf, e1, e2, eq_false (show ¬ (9218868437227405311 : Int) < Jvm.FP.Core.dkey x by omega), eq_true (show (-9218868437227405311 : Int) ≤ Jvm.FP.Core.dkey x by omega), ↓reduceIte]
  · rw [show finB x = false from Bool.eq_false_iff.mpr c, Bool.not_false, bI_t]
    by_cases c1 : (9218868437227405311 : Int) < Jvm.FP.Core.dkey x
    · simp (disch := first | with_reducible assumption | omega | exact Or.inl rfl | exact Or.inr rfl | exact bI_01 | exact c_cat | exact vt_ref | exact vt_null | rfl | with_reducible repeat (first | assumption | omega | apply S_I | apply S_L | apply S_D | apply ob_I | apply ob_L | apply ob_D | apply ob_R | apply ax_I | apply ax_L | apply ax_D | apply ax_R | apply o303 | apply o307 | apply o302 | apply o301 | apply ax304 | apply ax305 | apply ax306 | apply ax308 | apply ax309 | apply ax310 | apply lt_S | apply ar305 | apply ar308 | apply ar309)) only [g256_0, g256_1, g256_4, g256_5, g256_8, g256_9, g256_12, g256_13, g256_16, g256_17, g256_20, g256_21, Option.toList, List.nil_append, List.cons_append, va_rf, e1, eq_true c1, ↓reduceIte]
    · have c2 : ¬ (-9218868437227405311 : Int) ≤ Jvm.FP.Core.dkey x := fun q => c (fk.mpr (by omega))
      simp (disch := first | with_reducible assumption | omega | exact Or.inl rfl | exact Or.inr rfl | exact bI_01 | exact c_cat | exact vt_ref | exact vt_null | rfl | with_reducible repeat (first | assumption | omega | apply S_I | apply S_L | apply S_D | apply ob_I | apply ob_L | apply ob_D | apply ob_R | apply ax_I | apply ax_L | apply ax_D | apply ax_R | apply o303 | apply o307 | apply o302 | apply o301 | apply ax304 | apply ax305 | apply ax306 | apply ax308 | apply ax309 | apply ax310 | apply lt_S | apply ar305 | apply ar308 | apply ar309)) only [g256_0, g256_1, g256_4, g256_5, g256_8, g256_9, g256_12, g256_13, g256_16, g256_17, g256_20, g256_21, Option.toList, List.nil_append, List.cons_append, va_rf, e1, e2, eq_false c1, eq_false c2, ↓reduceIte]
theorem ok_half : okD 4602678819172646912 := by unfold okD; decide
theorem ok_add' (hx : okD x) (hy : am_nn y) : am_nn (Jvm.FP.dadd x y) := by
  have e : Jvm.FP.dadd x y = Jvm.FP.dadd y x := Jvm.FP.Core.dadd_comm x y
  rw [e]
  exact nn_of (Jvm.FP.Core.dadd_out ((Jvm.FP.Core.notNaN_iff y).mpr (nn_val hy)) (okD_fin hx))
/-- what middle() answers -/
def midD (l h : UInt64) : UInt64 := match mid l h with
  | .inl v => vD v
  | .inr _ => Jvm.FP.dconst0
theorem MO_t0 {f : Nat ⊕ Nat} (O : MO h g r (.inr f)) : am_I g 349 59 = nI 0 := by
  cases f with
  | inl k => exact O.1
  | inr c => exact O.1
theorem rv_t {v : VL} (V : rv g v) : ∃ τ, (τ = 1 ∨ τ = 2) ∧ am_I g 349 59 = nI τ := by
  match v, V with
  | .inl a, ⟨e, _⟩ => exact ⟨1, Or.inl rfl, e⟩
  | .inr a, ⟨e, _⟩ => exact ⟨2, Or.inr rfl, e⟩
theorem rv_tv {v : VL} (V : rv g v) : tv (am_I g 349 59) (am_L g 349 65) (am_D g 349 66) v := by
  match v, V with
  | .inl a, ⟨e1, e2⟩ => exact ⟨e1, e2⟩
  | .inr a, ⟨e1, e2, e3⟩ => exact ⟨e1, e2, e3⟩
theorem m_middle (A : MW h g r dp t σ) (S : am_S h) (sp : am_I g 349 64 = nI 0) (kx : okD x) (ky : okD y) : ∃ g', am_run (d + 2) 255 [some (.ref 349), some (.double x), none, some (.double y), none, none, none] g (some (.double (midD x y))) g' ∧ MW h g' r dp t σ ∧ AK g g' t ∧ MO h g' r (mid x y) := by
  have Sg := MW_S A S
  have n1 := ok_sub ky kx
  have ie := m_isEndless (d := d + 1) (g := g) n1
  unfold midD mid
  by_cases c : finB (Jvm.FP.dsub y x) = true
  · rw [if_pos c]
    rw [c, Bool.not_true, bI_f] at ie
    have k2 := finB_ok.mp c
    have n2 := ok_mul k2 ok_half
    have n3 := ok_add' kx n2
    obtain ⟨g', r1, A1, K1, O1⟩ := m_giveD (d := d) A S sp n3
    have S1 := MW_S A1 S
    refine ⟨g', fun Q => ?_, A1, K1, O1⟩
    by_cases c2 : finB (Jvm.FP.dadd x (Jvm.FP.dmul (Jvm.FP.dsub y x) 4602678819172646912)) = true
    · have eg : gv (Jvm.FP.dadd x (Jvm.FP.dmul (Jvm.FP.dsub y x) 4602678819172646912)) = .inl (.inr (Jvm.FP.dadd x (Jvm.FP.dmul (Jvm.FP.dsub y x) 4602678819172646912))) := if_pos c2
      rw [eg] at O1 ⊢
      obtain ⟨⟨o1, o2, o3⟩, -⟩ := O1
      simp (disch := first | with_reducible assumption | omega | exact Or.inl rfl | exact Or.inr rfl | exact bI_01 | exact c_cat | exact vt_ref | exact vt_null | rfl | with_reducible repeat (first | assumption | omega | apply S_I | apply S_L | apply S_D | apply ob_I | apply ob_L | apply ob_D | apply ob_R | apply ax_I | apply ax_L | apply ax_D | apply ax_R | apply o303 | apply o307 | apply o302 | apply o301 | apply ax304 | apply ax305 | apply ax306 | apply ax308 | apply ax309 | apply ax310 | apply lt_S | apply ar305 | apply ar308 | apply ar309)) only [g255_0, g255_1, g255_2, g255_3, g255_5, g255_7, g255_10, g255_13, g255_14, g255_15, g255_18, g255_21, g255_22, g255_23, g255_25, g255_28, g255_29, g255_30, g255_33, g255_34, g255_37, g255_40, g255_41, g255_44, g255_45, g255_48, Option.toList, List.nil_append, List.cons_append, va_rf, nI_ltI, nI_leI, nI_eq, nI_add, nI_sub, nI_lt0, nI_e0, nI_m1, m1_nI, Nat.reduceEqDiff, Nat.reduceLT, Nat.reduceLeDiff, Nat.reduceAdd, Nat.reduceSub, Nat.reduceMul, ↓reduceIte, eq_self, ie _, r1 _, o1, o2, vD]
    · have eg : gv (Jvm.FP.dadd x (Jvm.FP.dmul (Jvm.FP.dsub y x) 4602678819172646912)) = .inr (.inl 5) := if_neg c2
      rw [eg] at O1 ⊢
      have o1 := MO_t0 O1
      simp (disch := first | with_reducible assumption | omega | exact Or.inl rfl | exact Or.inr rfl | exact bI_01 | exact c_cat | exact vt_ref | exact vt_null | rfl | with_reducible repeat (first | assumption | omega | apply S_I | apply S_L | apply S_D | apply ob_I | apply ob_L | apply ob_D | apply ob_R | apply ax_I | apply ax_L | apply ax_D | apply ax_R | apply o303 | apply o307 | apply o302 | apply o301 | apply ax304 | apply ax305 | apply ax306 | apply ax308 | apply ax309 | apply ax310 | apply lt_S | apply ar305 | apply ar308 | apply ar309)) only [g255_0, g255_1, g255_2, g255_3, g255_5, g255_7, g255_10, g255_13, g255_14, g255_15, g255_18, g255_21, g255_22, g255_23, g255_25, g255_28, g255_29, g255_30, g255_33, g255_34, g255_37, g255_40, g255_41, g255_44, g255_45, g255_48, Option.toList, List.nil_append, List.cons_append, va_rf, nI_ltI, nI_leI, nI_eq, nI_add, nI_sub, nI_lt0, nI_e0, nI_m1, m1_nI, Nat.reduceEqDiff, Nat.reduceLT, Nat.reduceLeDiff, Nat.reduceAdd, Nat.reduceSub, Nat.reduceMul, ↓reduceIte, eq_self, ie _, r1 _, o1]
  · rw [if_neg c]
    have cf : finB (Jvm.FP.dsub y x) = false := Bool.eq_false_iff.mpr c
    rw [cf, Bool.not_false, bI_t] at ie
    have fl := m_fail (d := d + 1) (k := 5) A S
    have A1 := gFa_W (k := 5) A
    have S1 := MW_S A1 S
    have O1 := gFa_O (h := h) (k := 5) (r := r) (by decide) sp
    have o1 := MO_t0 O1
    refine ⟨gFa g 5 r, fun Q => ?_, A1, gFa_A, O1⟩
    simp (disch := first | with_reducible assumption | omega | exact Or.inl rfl | exact Or.inr rfl | exact bI_01 | exact c_cat | exact vt_ref | exact vt_null | rfl | with_reducible repeat (first | assumption | omega | apply S_I | apply S_L | apply S_D | apply ob_I | apply ob_L | apply ob_D | apply ob_R | apply ax_I | apply ax_L | apply ax_D | apply ax_R | apply o303 | apply o307 | apply o302 | apply o301 | apply ax304 | apply ax305 | apply ax306 | apply ax308 | apply ax309 | apply ax310 | apply lt_S | apply ar305 | apply ar308 | apply ar309)) only [g255_0, g255_1, g255_2, g255_3, g255_5, g255_7, g255_10, g255_13, g255_14, g255_15, g255_18, g255_21, g255_22, g255_23, g255_25, g255_28, g255_29, g255_30, g255_33, g255_34, g255_37, g255_40, g255_41, g255_44, g255_45, g255_48, Option.toList, List.nil_append, List.cons_append, va_rf, nI_ltI, nI_leI, nI_eq, nI_add, nI_sub, nI_lt0, nI_e0, nI_m1, m1_nI, Nat.reduceEqDiff, Nat.reduceLT, Nat.reduceLeDiff, Nat.reduceAdd, Nat.reduceSub, Nat.reduceMul, ↓reduceIte, eq_self, ie _, fl _, o1, oF]
theorem MW_top {t' : Nat} (A : MW h g r dp t σ) : MW h (am_setI g 349 70 (nI t')) r dp t' σ := by
  obtain ⟨a1, a2, a3, a4, a5, a6, a7, a8, a9, a10, a11⟩ := A
  exact ⟨fr_I a1 (Or.inl rfl), fun j hj => by rw [rI_k (by omega)]; exact a2 j hj, a3, by rw [rI_k (by decide)]; exact a4, by rw [rI_k (by decide)]; exact a5, by rw [rI_k (by decide)]; exact a6, a7, rI_eq, fun q => by rw [rI_a (by decide)]; exact ⟨(a9 q).1, fun i h1 h2 => by rw [rI_a (by decide)]; exact (a9 q).2 i h1 h2⟩, fun j hj => by rw [rI_a (by decide)]; exact a10 j hj, fun j hj => by rw [rI_a (by decide)]; exact a11 j hj⟩
theorem MW_arg {P : Nat → Prop} (A : MW h g r dp t σ) (F : am_fr P g g') (hP : ∀ a, P a → 385 ≤ a ∧ a ≤ 389) : MW h g' r dp t σ := by
  obtain ⟨a1, a2, a3, a4, a5, a6, a7, a8, a9, a10, a11⟩ := A
  have n1 : ¬ P 349 := fun q => by have := hP _ q; omega
  have n2 : ¬ P 372 := fun q => by have := hP _ q; omega
  have n3 : ¬ P 373 := fun q => by have := hP _ q; omega
  refine ⟨fr_trans a1 (fr_mono (fun a ha => Or.inr (Or.inr (Or.inr (hP a ha)))) F), fun j hj => by rw [fr_rdI F n1]; exact a2 j hj, a3, by rw [fr_rdI F n1]; exact a4, by rw [fr_rdI F n1]; exact a5, by rw [fr_rdI F n1]; exact a6, a7, by rw [fr_rdI F n1]; exact a8, fun q => by rw [fr_rdI F n3]; exact ⟨(a9 q).1, fun i h1 h2 => by rw [fr_rdI F n2]; exact (a9 q).2 i h1 h2⟩, fun j hj => by rw [fr_rdI F n3]; exact a10 j hj, fun j hj => by rw [fr_rdI F n2]; exact a11 j hj⟩
theorem m_push (A : MW h g r dp t σ) (S : am_S h) (ht : t < 600) (V : rv g v) : ∃ g', am_run d 251 [some (.ref 349)] g none g' ∧ MW h g' r dp (t + 1) σ ∧ AK g g' t ∧ argv g' t v ∧ (∀ k, k ≠ 70 → am_I g' 349 k = am_I g 349 k) := by
  have Sg := MW_S A S
  have e := A.2.2.2.2.2.2.2.1
  have F : am_fr (fun a => a = 385 ∨ a = 386 ∨ a = 387) g (am_setD (am_setL (am_setI g 385 t (am_I g 349 59)) 386 t (am_L g 349 65)) 387 t (am_D g 349 66)) := fr_D (fr_L (fr_I fr_refl (Or.inl rfl)) (Or.inr (Or.inl rfl))) (Or.inr (Or.inr rfl))
  refine ⟨am_setI (am_setD (am_setL (am_setI g 385 t (am_I g 349 59)) 386 t (am_L g 349 65)) 387 t (am_D g 349 66)) 349 70 (nI (t + 1)), fun Q => ?_, MW_top (MW_arg A F (fun a ha => by omega)), fun j hj => ?_, ?_, fun k hk => ?_⟩
  · simp (disch := first | with_reducible assumption | omega | exact Or.inl rfl | exact Or.inr rfl | exact bI_01 | exact c_cat | exact vt_ref | exact vt_null | rfl | with_reducible repeat (first | assumption | omega | apply S_I | apply S_L | apply S_D | apply ob_I | apply ob_L | apply ob_D | apply ob_R | apply ax_I | apply ax_L | apply ax_D | apply ax_R | apply o303 | apply o307 | apply o302 | apply o301 | apply ax304 | apply ax305 | apply ax306 | apply ax308 | apply ax309 | apply ax310 | apply lt_S | apply ar305 | apply ar308 | apply ar309)) only [g251_0, g251_1, g251_4, g251_5, g251_8, g251_9, g251_12, g251_13, g251_14, g251_17, g251_18, g251_21, g251_22, g251_25, g251_26, g251_27, g251_30, g251_31, g251_34, g251_35, g251_38, g251_39, g251_40, g251_41, g251_44, g251_45, g251_46, g251_49, Option.toList, List.nil_append, List.cons_append, va_rf, nI_ltI, nI_leI, nI_eq, nI_add, nI_sub, nI_lt0, nI_e0, nI_m1, m1_nI, Nat.reduceEqDiff, Nat.reduceLT, Nat.reduceLeDiff, Nat.reduceAdd, Nat.reduceSub, Nat.reduceMul, ↓reduceIte, eq_self, hI_I, hI_L, hI_D, hI_R, hL_I, hL_L, hL_D, hL_R, hD_I, hD_L, hD_D, hD_R, hR_I, hR_L, hR_D, ↓reduceIte, Nat.reduceEqDiff, e]
  · refine ⟨?_, ?_, ?_⟩
    · rw [rI_a (by decide), hI_D, hI_L, rI_k (by omega)]
    · rw [hL_I, hL_D, rL_k (by omega)]; rfl
    · rw [hD_I, rD_k (by omega)]; rfl
  · match v, V with
    | .inl a, ⟨e1, e2⟩ =>
      unfold argv
      simp only [hI_I, hI_L, hI_D, hI_R, hL_I, hL_L, hL_D, hL_R, hD_I, hD_L, hD_D, hD_R, hR_I, hR_L, hR_D, ↓reduceIte, Nat.reduceEqDiff]
      exact ⟨e1, e2⟩
    | .inr a, ⟨e1, e2, e3⟩ =>
      unfold argv
      simp only [hI_I, hI_L, hI_D, hI_R, hL_I, hL_L, hL_D, hL_R, hD_I, hD_L, hD_D, hD_R, hR_I, hR_L, hR_D, ↓reduceIte, Nat.reduceEqDiff]
      exact ⟨e1, e2, e3⟩
  · rw [rI_k hk, hI_D, hI_L, rI_a (by decide)]
end MIB

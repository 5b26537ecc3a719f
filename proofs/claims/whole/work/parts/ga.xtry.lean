/-! THE CLASS: try -/
section XTR
variable {h g g' ga : am_H} {o sa dp dp' d e b f s sh nn tm p q n T T1 p2 : Nat} {rr : Option Nat} {v1 v2 v3 : Option Value} {tt : Nat → ntT} {rt : Nat → Nat} {cv : Nat → Option (Option VL)} {cs : Nat → Nat → VL} {as : List VL} {st : List VL} {ts ts' : List (Nat × Nat × Nat)} {σ : SR} {u v : VL} {x : Int32}
/-- TRY: the heap behind it -/
abbrev trH (g : am_H) (t p k m dp : Nat) : am_H := am_setI (am_setI (am_setI (am_setI g 17 t (nI (p + k))) 18 t (nI m)) 19 t (nI dp)) 9 9 (nI (t + 1))
theorem o_try_ {k : Nat} (A : XS h ga o rr sa dp ts σ) (hd : dp < 22) (ea : am_I ga (278 + dp) 1 = nI p) (hp : p < 1000) (hk : k < 256) (N : NS ga st) (ht : ts.length < 210) : am_run (d + 1) 40 [some (.ref 9), some (.ref (278 + dp)), some (.int (nI 18)), some (.long (lN k)), none] ga none (trH ga ts.length p k st.length dp) := fun Q => by
  have S := A.2.1
  have t1 := A.2.2.1.1
  have d1 := A.2.2.2.1
  have O := o278 S hd
  have n1 := N.1
  have h4 : 4 ≤ 278 + dp := by omega
  simp (disch := first | with_reducible assumption | omega | exact Or.inl rfl | exact Or.inr rfl | exact bI_01 | exact c_cat | exact vt_ref | exact vt_null | rfl | with_reducible repeat (first | assumption | omega | apply S_I | apply S_L | apply S_D | apply ob_I | apply ob_L | apply ob_D | apply ob_R | apply ax_I | apply ax_L | apply ax_D | apply ax_R | apply o303 | apply o307 | apply o302 | apply o301 | apply ax304 | apply ax305 | apply ax306 | apply ax308 | apply ax309 | apply ax310 | apply lt_S | apply ar305 | apply ar308 | apply ar309)) only [g40_0, g40_1_18, g40_226, g40_227, g40_228, g40_229, g40_230, g40_231, g40_234, g40_302, g46_0, g46_1, g46_3, g46_6, g46_7, g46_10, g46_13, g46_16, g46_17, g46_20, g46_21, g46_24, g46_25, g46_28, g46_29, g46_30, g46_31, g46_32, g46_35, g46_36, g46_39, g46_40, g46_43, g46_46, g46_47, g46_48, g46_51, g46_52, g46_55, g46_56, g46_59, g46_60, g46_61, g46_62, g46_65, g46_66, g46_67, g46_70, g46_71, g46_72, g46_74, g46_77, g46_78, g46_81, g46_84, g46_85, g46_86, g46_89, g46_90, g46_91, g46_94, g46_95, g46_97, g46_100, g46_101, g46_104, g46_107, g46_110, g46_111, g46_112, g46_115, g46_116, g46_117, g46_120, Option.toList, List.nil_append, List.cons_append, va_rf, nI_ltI, nI_leI, nI_eq, nI_add, nI_sub, nI_lt0, nI_e0, nI_m1, m1_nI, Nat.reduceEqDiff, Nat.reduceLT, Nat.reduceLeDiff, Nat.reduceAdd, Nat.reduceSub, Nat.reduceMul, ↓reduceIte, eq_self, hI_I, hI_L, hI_D, hI_R, hL_I, hL_L, hL_D, hL_R, hD_I, hD_L, hD_D, hD_R, hR_I, hR_L, hR_D, ↓reduceIte, Nat.reduceEqDiff, lN_i8, ea, t1, d1, n1, show ¬ 210 ≤ ts.length by omega]
theorem TS_try {k m : Nat} (A : TS ga ts) : TS (trH ga ts.length p k m dp) (ts ++ [(p + k, m, dp)]) := by
  refine ⟨by rw [rI_eq, List.length_append]; rfl, fun i q hq => ?_⟩
  by_cases c : i < ts.length
  · rw [List.getElem?_append_left c] at hq
    obtain ⟨b1, b2, b3⟩ := A.2 i q hq
    refine ⟨?_, ?_, ?_⟩
    · rw [rI_a (by decide), rI_a (by decide), rI_a (by decide), rI_k (by omega)]; exact b1
    · rw [rI_a (by decide), rI_a (by decide), rI_k (by omega), rI_a (by decide)]; exact b2
    · rw [rI_a (by decide), rI_k (by omega), rI_a (by decide), rI_a (by decide)]; exact b3
  · have hl := (List.getElem?_eq_some_iff.mp hq).1
    rw [List.length_append, List.length_cons, List.length_nil] at hl
    obtain rfl : i = ts.length := by omega
    rw [List.getElem?_append_right (Nat.le_refl _), Nat.sub_self] at hq
    obtain rfl : (p + k, m, dp) = q := Option.some.inj hq
    refine ⟨?_, ?_, ?_⟩
    · rw [rI_a (by decide), rI_a (by decide), rI_a (by decide), rI_eq]
    · rw [rI_a (by decide), rI_a (by decide), rI_eq]
    · rw [rI_a (by decide), rI_eq]
/-- END_TRY -/
theorem o_end_ {k : Nat} {t : Nat × Nat × Nat} (A : XS h ga o rr sa dp (ts ++ [t]) σ) (hd : dp < 22) (ea : am_I ga (278 + dp) 1 = nI p) (hp : p < 1000) (hk : k < 256) (ht : ts.length < 210) : am_run (d + 1) 40 [some (.ref 9), some (.ref (278 + dp)), some (.int (nI 19)), some (.long (lN k)), none] ga none (am_setI (am_setI ga 9 9 (nI ts.length)) (278 + dp) 1 (nI (p + k))) := fun Q => by
  have S := A.2.1
  have t1 : am_I ga 9 9 = nI (ts.length + 1) := by have := A.2.2.1.1; rwa [List.length_append] at this
  have O := o278 S hd
  have h4 : 4 ≤ 278 + dp := by omega
  have ea' : am_I (am_setI ga 9 9 (nI ts.length)) (278 + dp) 1 = nI p := by rw [rI_a (by omega)]; exact ea
  have p0 : (nI (ts.length + 1) ≤ 0) = False := eq_false (by rw [show (0 : Int32) = nI 0 from rfl, nI_leI (by omega) (by omega)]; omega)
  simp (disch := first | with_reducible assumption | omega | exact Or.inl rfl | exact Or.inr rfl | exact bI_01 | exact c_cat | exact vt_ref | exact vt_null | rfl | with_reducible repeat (first | assumption | omega | apply S_I | apply S_L | apply S_D | apply ob_I | apply ob_L | apply ob_D | apply ob_R | apply ax_I | apply ax_L | apply ax_D | apply ax_R | apply o303 | apply o307 | apply o302 | apply o301 | apply ax304 | apply ax305 | apply ax306 | apply ax308 | apply ax309 | apply ax310 | apply lt_S | apply ar305 | apply ar308 | apply ar309)) only [g40_0, g40_1_19, g40_226, g40_227, g40_228, g40_229, g40_230, g40_231, g40_234, g40_302, g46_0, g46_1, g46_3, g46_6, g46_7, g46_10, g46_13, g46_16, g46_17, g46_20, g46_21, g46_24, g46_25, g46_28, g46_29, g46_30, g46_31, g46_32, g46_35, g46_36, g46_39, g46_40, g46_43, g46_46, g46_47, g46_48, g46_51, g46_52, g46_55, g46_56, g46_59, g46_60, g46_61, g46_62, g46_65, g46_66, g46_67, g46_70, g46_71, g46_72, g46_74, g46_77, g46_78, g46_81, g46_84, g46_85, g46_86, g46_89, g46_90, g46_91, g46_94, g46_95, g46_97, g46_100, g46_101, g46_104, g46_107, g46_110, g46_111, g46_112, g46_115, g46_116, g46_117, g46_120, Option.toList, List.nil_append, List.cons_append, va_rf, nI_ltI, nI_leI, nI_eq, nI_add, nI_sub, nI_lt0, nI_e0, nI_m1, m1_nI, Nat.reduceEqDiff, Nat.reduceLT, Nat.reduceLeDiff, Nat.reduceAdd, Nat.reduceSub, Nat.reduceMul, ↓reduceIte, eq_self, lN_i8, t1, p0, show 1 ≤ ts.length + 1 by omega, Nat.add_sub_cancel, ea']
theorem TS_pop {t : Nat × Nat × Nat} (A : TS g (ts ++ [t])) (e9 : am_I g' 9 9 = nI ts.length) (h1 : ∀ i, am_I g' 17 i = am_I g 17 i) (h2 : ∀ i, am_I g' 18 i = am_I g 18 i) (h3 : ∀ i, am_I g' 19 i = am_I g 19 i) : TS g' ts := ⟨e9, fun i q hq => by
  have c := (List.getElem?_eq_some_iff.mp hq).1
  obtain ⟨b1, b2, b3⟩ := A.2 i q (by rw [List.getElem?_append_left c]; exact hq)
  exact ⟨(h1 i).trans b1, (h2 i).trans b2, (h3 i).trans b3⟩⟩
/-- the heap behind a recovery -/
abbrev rcH (g : am_H) (t a m dp : Nat) : am_H := am_setR (am_setI (am_setI (am_setI (am_setI (am_setI g 9 9 (nI t)) 9 10 (nI dp)) 12 3 (nI m)) (278 + dp) 1 (nI a)) 9 13 (nI 0)) 9 14 none
theorem x_recover {a m : Nat} {q : Nat ⊕ Nat} (A : XS h g o rr sa dp' (ts ++ [(a, m, dp)]) σ) (hd : dp < 22) (ht : ts.length < 210) (hm : m < 2000) (L : FLx h g q) (hq : q ≠ .inl 8) : am_run d 54 [some (.ref 9)] g none (rcH g ts.length a m dp) := fun Q => by
  have S := A.2.1
  have TT := A.2.2.1
  have t1 : am_I g 9 9 = nI (ts.length + 1) := by have := TT.1; rwa [List.length_append] at this
  obtain ⟨b1, b2, b3⟩ := TT.2 ts.length (a, m, dp) (by rw [List.getElem?_append_right (Nat.le_refl _), Nat.sub_self]; rfl)
  have O := o278 S hd
  have h4 : 4 ≤ 278 + dp := by omega
  have b1 : am_I g 17 ts.length = nI a := b1
  have b2 : am_I g 18 ts.length = nI m := b2
  have b3 : am_I g 19 ts.length = nI dp := b3
  have n1 : ¬ 278 + dp = 9 := by omega
  have n2 : ¬ 278 + dp = 12 := by omega
  have n3 : ¬ 9 = 278 + dp := by omega
  have n4 : ¬ 17 = 278 + dp := by omega
  match q, L with
  | .inl k, ⟨k1, k2, k3, k4⟩ =>
    have k8 : ¬ k = 8 := fun e => hq (by rw [e])
    simp (disch := first | with_reducible assumption | omega | exact Or.inl rfl | exact Or.inr rfl | exact bI_01 | exact c_cat | exact vt_ref | exact vt_null | rfl | with_reducible repeat (first | assumption | omega | apply S_I | apply S_L | apply S_D | apply ob_I | apply ob_L | apply ob_D | apply ob_R | apply ax_I | apply ax_L | apply ax_D | apply ax_R | apply o303 | apply o307 | apply o302 | apply o301 | apply ax304 | apply ax305 | apply ax306 | apply ax308 | apply ax309 | apply ax310 | apply lt_S | apply ar305 | apply ar308 | apply ar309)) only [g54_0, g54_1, g54_4, g54_5, g54_8, g54_9, g54_12, g54_14, g54_17, g54_18, g54_21, g54_21r, g54_21n, g54_24, g54_25, g54_26, g54_29, g54_30, g54_31, g54_32, g54_35, g54_36, g54_37, g54_40, g54_41, g54_42, g54_45, g54_46, g54_49, g54_50, g54_53, g54_54, g54_57, g54_58, g54_61, g54_62, g54_65, g54_66, g54_69, g54_70, g54_73, g54_74, g54_77, g54_78, g54_79, g54_82, g54_83, g54_86, g54_87, g54_90, g54_91, g54_92, g54_95, g54_96, g54_97, g54_97r, g54_97n, g54_100, Option.toList, List.nil_append, List.cons_append, va_rf, nI_ltI, nI_leI, nI_eq, nI_add, nI_sub, nI_lt0, nI_e0, nI_m1, m1_nI, Nat.reduceEqDiff, Nat.reduceLT, Nat.reduceLeDiff, Nat.reduceAdd, Nat.reduceSub, Nat.reduceMul, ↓reduceIte, eq_self, hI_I, hI_L, hI_D, hI_R, hL_I, hL_L, hL_D, hL_R, hD_I, hD_L, hD_D, hD_R, hR_I, hR_L, hR_D, ↓reduceIte, Nat.reduceEqDiff, t1, show ¬ ts.length + 1 < 1 by omega, k1, k4, k8, Nat.add_sub_cancel, b1, b2, b3, n1, n2, n3, n4, false_and, and_false]
  | .inr c, ⟨k1, k2, k, k3, k4, k5, k6⟩ =>
    by_cases k8 : k = 8
    · subst k8
      simp (disch := first | with_reducible assumption | omega | exact Or.inl rfl | exact Or.inr rfl | exact bI_01 | exact c_cat | exact vt_ref | exact vt_null | rfl | with_reducible repeat (first | assumption | omega | apply S_I | apply S_L | apply S_D | apply ob_I | apply ob_L | apply ob_D | apply ob_R | apply ax_I | apply ax_L | apply ax_D | apply ax_R | apply o303 | apply o307 | apply o302 | apply o301 | apply ax304 | apply ax305 | apply ax306 | apply ax308 | apply ax309 | apply ax310 | apply lt_S | apply ar305 | apply ar308 | apply ar309)) only [g54_0, g54_1, g54_4, g54_5, g54_8, g54_9, g54_12, g54_14, g54_17, g54_18, g54_21, g54_21r, g54_21n, g54_24, g54_25, g54_26, g54_29, g54_30, g54_31, g54_32, g54_35, g54_36, g54_37, g54_40, g54_41, g54_42, g54_45, g54_46, g54_49, g54_50, g54_53, g54_54, g54_57, g54_58, g54_61, g54_62, g54_65, g54_66, g54_69, g54_70, g54_73, g54_74, g54_77, g54_78, g54_79, g54_82, g54_83, g54_86, g54_87, g54_90, g54_91, g54_92, g54_95, g54_96, g54_97, g54_97r, g54_97n, g54_100, Option.toList, List.nil_append, List.cons_append, va_rf, nI_ltI, nI_leI, nI_eq, nI_add, nI_sub, nI_lt0, nI_e0, nI_m1, m1_nI, Nat.reduceEqDiff, Nat.reduceLT, Nat.reduceLeDiff, Nat.reduceAdd, Nat.reduceSub, Nat.reduceMul, ↓reduceIte, eq_self, hI_I, hI_L, hI_D, hI_R, hL_I, hL_L, hL_D, hL_R, hD_I, hD_L, hD_D, hD_R, hR_I, hR_L, hR_D, ↓reduceIte, Nat.reduceEqDiff, t1, show ¬ ts.length + 1 < 1 by omega, k6, k2, Nat.add_sub_cancel, b1, b2, b3, n1, n2, n3, n4, false_and, and_false]
    · simp (disch := first | with_reducible assumption | omega | exact Or.inl rfl | exact Or.inr rfl | exact bI_01 | exact c_cat | exact vt_ref | exact vt_null | rfl | with_reducible repeat (first | assumption | omega | apply S_I | apply S_L | apply S_D | apply ob_I | apply ob_L | apply ob_D | apply ob_R | apply ax_I | apply ax_L | apply ax_D | apply ax_R | apply o303 | apply o307 | apply o302 | apply o301 | apply ax304 | apply ax305 | apply ax306 | apply ax308 | apply ax309 | apply ax310 | apply lt_S | apply ar305 | apply ar308 | apply ar309)) only [g54_0, g54_1, g54_4, g54_5, g54_8, g54_9, g54_12, g54_14, g54_17, g54_18, g54_21, g54_21r, g54_21n, g54_24, g54_25, g54_26, g54_29, g54_30, g54_31, g54_32, g54_35, g54_36, g54_37, g54_40, g54_41, g54_42, g54_45, g54_46, g54_49, g54_50, g54_53, g54_54, g54_57, g54_58, g54_61, g54_62, g54_65, g54_66, g54_69, g54_70, g54_73, g54_74, g54_77, g54_78, g54_79, g54_82, g54_83, g54_86, g54_87, g54_90, g54_91, g54_92, g54_95, g54_96, g54_97, g54_97r, g54_97n, g54_100, Option.toList, List.nil_append, List.cons_append, va_rf, nI_ltI, nI_leI, nI_eq, nI_add, nI_sub, nI_lt0, nI_e0, nI_m1, m1_nI, Nat.reduceEqDiff, Nat.reduceLT, Nat.reduceLeDiff, Nat.reduceAdd, Nat.reduceSub, Nat.reduceMul, ↓reduceIte, eq_self, hI_I, hI_L, hI_D, hI_R, hL_I, hL_L, hL_D, hL_R, hD_I, hD_L, hD_D, hD_R, hR_I, hR_L, hR_D, ↓reduceIte, Nat.reduceEqDiff, t1, show ¬ ts.length + 1 < 1 by omega, k6, k8, Nat.add_sub_cancel, b1, b2, b3, n1, n2, n3, n4, false_and, and_false]
end XTR

/-! THE CLASS: root, its loop and the node -/
section XRP
variable {h g g' gm g2 g3 : am_H} {o sa dp d e e' b f s sh nn tm tmf p n T p2 gf r0 t : Nat} {rr : Option Nat} {v1 v2 v3 : Option Value} {tt : Nat → ntT} {rt : Nat → Nat} {cv : Nat → Option (Option VL)} {cs : Nat → Nat → VL} {as as' : List VL} {st : List VL} {ts : List (Nat × Nat × Nat)} {σ : SR} {u v : VL} {x l hh : UInt64} {D' DD : List (Int32 × Int64)} {bl : Bool}
/-- goOnWithRoot, from its third turn on -/
theorem x_goOn {m : UInt64} (S : am_S g3) (hd : dp < 20) (N : NS g3 (st ++ [v])) (kv : okV v) (hl : st.length < 1024) (et : am_I g3 (278 + (dp + 1)) 3 = nI t) (ht : 3 ≤ t) (ht2 : t < 100) (eb : am_I g3 (278 + (dp + 1)) 7 = bI bl) (em : am_D g3 (278 + (dp + 1)) 6 = m) : (lt0 v = bl → ∀ g', (∀ dd, am_run (dd + 2) 39 [some (.ref 9), some (.ref (278 + (dp + 1))), none, none] (am_setD (am_setI g3 12 3 (nI st.length)) (278 + (dp + 1)) 4 m) none g') → ∀ dd, am_run (dd + 3) 35 [some (.ref 9), some (.ref (278 + (dp + 1))), none, none] g3 none g') ∧ (lt0 v ≠ bl → ∀ g', (∀ dd, am_run (dd + 2) 39 [some (.ref 9), some (.ref (278 + (dp + 1))), none, none] (am_setD (am_setI g3 12 3 (nI st.length)) (278 + (dp + 1)) 5 m) none g') → ∀ dd, am_run (dd + 3) 35 [some (.ref 9), some (.ref (278 + (dp + 1))), none, none] g3 none g') := by
  have h4 : 4 ≤ 278 + (dp + 1) := by omega
  have cl := cm_lt0 kv
  have S1 : am_S (am_setI g3 12 3 (nI st.length)) := S
  have O1 := o278 S1 (show dp + 1 < 22 by omega)
  have et1 : am_I (am_setI g3 12 3 (nI st.length)) (278 + (dp + 1)) 3 = nI t := by rw [rI_a (by omega)]; exact et
  have eb1 : am_I (am_setI g3 12 3 (nI st.length)) (278 + (dp + 1)) 7 = bI bl := by rw [rI_a (by omega)]; exact eb
  have em1 : am_D (am_setI g3 12 3 (nI st.length)) (278 + (dp + 1)) 6 = m := em
  refine ⟨fun q g' R dd Q => ?_, fun q g' R dd Q => ?_⟩
  · obtain ⟨rp, -, -⟩ := x_popD (d := dd + 1) S N hl
    have R := R dd
    cases hv : lt0 v with
    | true =>
      rw [hv] at cl
      obtain rfl : true = bl := hv ▸ q
      rw [bI_t] at eb1
      have cl : (0 ≤ Op.cmpValue (Jvm.FP.dcmp (vD v) Jvm.FP.dconst0) .g) = False := by rw [cl]; exact eq_false Bool.noConfusion
      simp (disch := first | with_reducible assumption | omega | exact Or.inl rfl | exact Or.inr rfl | exact bI_01 | exact c_cat | exact vt_ref | exact vt_null | rfl | with_reducible repeat (first | assumption | omega | apply S_I | apply S_L | apply S_D | apply ob_I | apply ob_L | apply ob_D | apply ob_R | apply ax_I | apply ax_L | apply ax_D | apply ax_R | apply o303 | apply o307 | apply o302 | apply o301 | apply ax304 | apply ax305 | apply ax306 | apply ax308 | apply ax309 | apply ax310 | apply lt_S | apply ar305 | apply ar308 | apply ar309)) only [g35_0, g35_1, g35_4, g35_7, g35_8, g35_9, g35_12, g35_13, g35_16, g35_17, g35_18, g35_19, g35_22, g35_23, g35_26, g35_27, g35_28, g35_31, g35_32, g35_33, g35_34, g35_37, g35_40, g35_41, g35_42, g35_43, g35_46, g35_49, g35_50, g35_53, g35_54, g35_55, g35_56, g35_59, g35_60, g35_63, g35_64, g35_67, g35_68, g35_70, g35_73, g35_74, g35_75, g35_78, g35_79, g35_80, g35_83, g35_86, g35_89, g35_90, g35_91, g35_94, g35_97, g35_98, g35_99, g35_102, Option.toList, List.nil_append, List.cons_append, va_rf, nI_ltI, nI_leI, nI_eq, nI_add, nI_sub, nI_lt0, nI_e0, nI_m1, m1_nI, Nat.reduceEqDiff, Nat.reduceLT, Nat.reduceLeDiff, Nat.reduceAdd, Nat.reduceSub, Nat.reduceMul, ↓reduceIte, eq_self, rp _, cl, et1, show ¬ t = 1 by omega, show ¬ t = 2 by omega, eb1, em1, R _]
    | false =>
      rw [hv] at cl
      obtain rfl : false = bl := hv ▸ q
      rw [bI_f] at eb1
      have cl : (0 ≤ Op.cmpValue (Jvm.FP.dcmp (vD v) Jvm.FP.dconst0) .g) = True := by rw [cl]; exact eq_true rfl
      simp (disch := first | with_reducible assumption | omega | exact Or.inl rfl | exact Or.inr rfl | exact bI_01 | exact c_cat | exact vt_ref | exact vt_null | rfl | with_reducible repeat (first | assumption | omega | apply S_I | apply S_L | apply S_D | apply ob_I | apply ob_L | apply ob_D | apply ob_R | apply ax_I | apply ax_L | apply ax_D | apply ax_R | apply o303 | apply o307 | apply o302 | apply o301 | apply ax304 | apply ax305 | apply ax306 | apply ax308 | apply ax309 | apply ax310 | apply lt_S | apply ar305 | apply ar308 | apply ar309)) only [g35_0, g35_1, g35_4, g35_7, g35_8, g35_9, g35_12, g35_13, g35_16, g35_17, g35_18, g35_19, g35_22, g35_23, g35_26, g35_27, g35_28, g35_31, g35_32, g35_33, g35_34, g35_37, g35_40, g35_41, g35_42, g35_43, g35_46, g35_49, g35_50, g35_53, g35_54, g35_55, g35_56, g35_59, g35_60, g35_63, g35_64, g35_67, g35_68, g35_70, g35_73, g35_74, g35_75, g35_78, g35_79, g35_80, g35_83, g35_86, g35_89, g35_90, g35_91, g35_94, g35_97, g35_98, g35_99, g35_102, Option.toList, List.nil_append, List.cons_append, va_rf, nI_ltI, nI_leI, nI_eq, nI_add, nI_sub, nI_lt0, nI_e0, nI_m1, m1_nI, Nat.reduceEqDiff, Nat.reduceLT, Nat.reduceLeDiff, Nat.reduceAdd, Nat.reduceSub, Nat.reduceMul, ↓reduceIte, eq_self, rp _, cl, et1, show ¬ t = 1 by omega, show ¬ t = 2 by omega, eb1, em1, R _]
  · obtain ⟨rp, -, -⟩ := x_popD (d := dd + 1) S N hl
    have R := R dd
    cases hv : lt0 v with
    | true =>
      rw [hv] at cl q
      obtain rfl : bl = false := by cases bl; rfl; exact absurd rfl q
      rw [bI_f] at eb1
      have cl : (0 ≤ Op.cmpValue (Jvm.FP.dcmp (vD v) Jvm.FP.dconst0) .g) = False := by rw [cl]; exact eq_false Bool.noConfusion
      simp (disch := first | with_reducible assumption | omega | exact Or.inl rfl | exact Or.inr rfl | exact bI_01 | exact c_cat | exact vt_ref | exact vt_null | rfl | with_reducible repeat (first | assumption | omega | apply S_I | apply S_L | apply S_D | apply ob_I | apply ob_L | apply ob_D | apply ob_R | apply ax_I | apply ax_L | apply ax_D | apply ax_R | apply o303 | apply o307 | apply o302 | apply o301 | apply ax304 | apply ax305 | apply ax306 | apply ax308 | apply ax309 | apply ax310 | apply lt_S | apply ar305 | apply ar308 | apply ar309)) only [g35_0, g35_1, g35_4, g35_7, g35_8, g35_9, g35_12, g35_13, g35_16, g35_17, g35_18, g35_19, g35_22, g35_23, g35_26, g35_27, g35_28, g35_31, g35_32, g35_33, g35_34, g35_37, g35_40, g35_41, g35_42, g35_43, g35_46, g35_49, g35_50, g35_53, g35_54, g35_55, g35_56, g35_59, g35_60, g35_63, g35_64, g35_67, g35_68, g35_70, g35_73, g35_74, g35_75, g35_78, g35_79, g35_80, g35_83, g35_86, g35_89, g35_90, g35_91, g35_94, g35_97, g35_98, g35_99, g35_102, Option.toList, List.nil_append, List.cons_append, va_rf, nI_ltI, nI_leI, nI_eq, nI_add, nI_sub, nI_lt0, nI_e0, nI_m1, m1_nI, Nat.reduceEqDiff, Nat.reduceLT, Nat.reduceLeDiff, Nat.reduceAdd, Nat.reduceSub, Nat.reduceMul, ↓reduceIte, eq_self, rp _, cl, et1, show ¬ t = 1 by omega, show ¬ t = 2 by omega, eb1, em1, R _]
    | false =>
      rw [hv] at cl q
      obtain rfl : bl = true := by cases bl; exact absurd rfl q; rfl
      rw [bI_t] at eb1
      have cl : (0 ≤ Op.cmpValue (Jvm.FP.dcmp (vD v) Jvm.FP.dconst0) .g) = True := by rw [cl]; exact eq_true rfl
      simp (disch := first | with_reducible assumption | omega | exact Or.inl rfl | exact Or.inr rfl | exact bI_01 | exact c_cat | exact vt_ref | exact vt_null | rfl | with_reducible repeat (first | assumption | omega | apply S_I | apply S_L | apply S_D | apply ob_I | apply ob_L | apply ob_D | apply ob_R | apply ax_I | apply ax_L | apply ax_D | apply ax_R | apply o303 | apply o307 | apply o302 | apply o301 | apply ax304 | apply ax305 | apply ax306 | apply ax308 | apply ax309 | apply ax310 | apply lt_S | apply ar305 | apply ar308 | apply ar309)) only [g35_0, g35_1, g35_4, g35_7, g35_8, g35_9, g35_12, g35_13, g35_16, g35_17, g35_18, g35_19, g35_22, g35_23, g35_26, g35_27, g35_28, g35_31, g35_32, g35_33, g35_34, g35_37, g35_40, g35_41, g35_42, g35_43, g35_46, g35_49, g35_50, g35_53, g35_54, g35_55, g35_56, g35_59, g35_60, g35_63, g35_64, g35_67, g35_68, g35_70, g35_73, g35_74, g35_75, g35_78, g35_79, g35_80, g35_83, g35_86, g35_89, g35_90, g35_91, g35_94, g35_97, g35_98, g35_99, g35_102, Option.toList, List.nil_append, List.cons_append, va_rf, nI_ltI, nI_leI, nI_eq, nI_add, nI_sub, nI_lt0, nI_e0, nI_m1, m1_nI, Nat.reduceEqDiff, Nat.reduceLT, Nat.reduceLeDiff, Nat.reduceAdd, Nat.reduceSub, Nat.reduceMul, ↓reduceIte, eq_self, rp _, cl, et1, show ¬ t = 1 by omega, show ¬ t = 2 by omega, eb1, em1, R _]
theorem x_goOn2 (S : am_S g3) (hd : dp < 20) (N : NS g3 (st ++ [v])) (kv : okV v) (hl : st.length < 1024) (et : am_I g3 (278 + (dp + 1)) 3 = nI 2) (eb : am_I g3 (278 + (dp + 1)) 7 = bI bl) : (lt0 v = bl → ∀ dd, am_run (dd + 3) 35 [some (.ref 9), some (.ref (278 + (dp + 1))), none, none] g3 none (am_setI (am_setI g3 12 3 (nI st.length)) 9 13 (nI 6))) ∧ (lt0 v ≠ bl → ∀ g', (∀ dd, am_run (dd + 2) 39 [some (.ref 9), some (.ref (278 + (dp + 1))), none, none] (am_setI g3 12 3 (nI st.length)) none g') → ∀ dd, am_run (dd + 3) 35 [some (.ref 9), some (.ref (278 + (dp + 1))), none, none] g3 none g') := by
  have h4 : 4 ≤ 278 + (dp + 1) := by omega
  have cl := cm_lt0 kv
  have S1 : am_S (am_setI g3 12 3 (nI st.length)) := S
  have O1 := o278 S1 (show dp + 1 < 22 by omega)
  have et1 : am_I (am_setI g3 12 3 (nI st.length)) (278 + (dp + 1)) 3 = nI 2 := by rw [rI_a (by omega)]; exact et
  have eb1 : am_I (am_setI g3 12 3 (nI st.length)) (278 + (dp + 1)) 7 = bI bl := by rw [rI_a (by omega)]; exact eb
  refine ⟨fun q dd Q => ?_, fun q g' R dd Q => ?_⟩
  · obtain ⟨rp, -, -⟩ := x_popD (d := dd + 1) S N hl
    cases hv : lt0 v with
    | true =>
      rw [hv] at cl
      obtain rfl : true = bl := hv ▸ q
      rw [bI_t] at eb1
      have cl : (0 ≤ Op.cmpValue (Jvm.FP.dcmp (vD v) Jvm.FP.dconst0) .g) = False := by rw [cl]; exact eq_false Bool.noConfusion
      simp (disch := first | with_reducible assumption | omega | exact Or.inl rfl | exact Or.inr rfl | exact bI_01 | exact c_cat | exact vt_ref | exact vt_null | rfl | with_reducible repeat (first | assumption | omega | apply S_I | apply S_L | apply S_D | apply ob_I | apply ob_L | apply ob_D | apply ob_R | apply ax_I | apply ax_L | apply ax_D | apply ax_R | apply o303 | apply o307 | apply o302 | apply o301 | apply ax304 | apply ax305 | apply ax306 | apply ax308 | apply ax309 | apply ax310 | apply lt_S | apply ar305 | apply ar308 | apply ar309)) only [g35_0, g35_1, g35_4, g35_7, g35_8, g35_9, g35_12, g35_13, g35_16, g35_17, g35_18, g35_19, g35_22, g35_23, g35_26, g35_27, g35_28, g35_31, g35_32, g35_33, g35_34, g35_37, g35_40, g35_41, g35_42, g35_43, g35_46, g35_49, g35_50, g35_53, g35_54, g35_55, g35_56, g35_59, g35_60, g35_63, g35_64, g35_67, g35_68, g35_70, g35_73, g35_74, g35_75, g35_78, g35_79, g35_80, g35_83, g35_86, g35_89, g35_90, g35_91, g35_94, g35_97, g35_98, g35_99, g35_102, Option.toList, List.nil_append, List.cons_append, va_rf, nI_ltI, nI_leI, nI_eq, nI_add, nI_sub, nI_lt0, nI_e0, nI_m1, m1_nI, Nat.reduceEqDiff, Nat.reduceLT, Nat.reduceLeDiff, Nat.reduceAdd, Nat.reduceSub, Nat.reduceMul, ↓reduceIte, eq_self, rp _, cl, et1, eb1]
    | false =>
      rw [hv] at cl
      obtain rfl : false = bl := hv ▸ q
      rw [bI_f] at eb1
      have cl : (0 ≤ Op.cmpValue (Jvm.FP.dcmp (vD v) Jvm.FP.dconst0) .g) = True := by rw [cl]; exact eq_true rfl
      simp (disch := first | with_reducible assumption | omega | exact Or.inl rfl | exact Or.inr rfl | exact bI_01 | exact c_cat | exact vt_ref | exact vt_null | rfl | with_reducible repeat (first | assumption | omega | apply S_I | apply S_L | apply S_D | apply ob_I | apply ob_L | apply ob_D | apply ob_R | apply ax_I | apply ax_L | apply ax_D | apply ax_R | apply o303 | apply o307 | apply o302 | apply o301 | apply ax304 | apply ax305 | apply ax306 | apply ax308 | apply ax309 | apply ax310 | apply lt_S | apply ar305 | apply ar308 | apply ar309)) only [g35_0, g35_1, g35_4, g35_7, g35_8, g35_9, g35_12, g35_13, g35_16, g35_17, g35_18, g35_19, g35_22, g35_23, g35_26, g35_27, g35_28, g35_31, g35_32, g35_33, g35_34, g35_37, g35_40, g35_41, g35_42, g35_43, g35_46, g35_49, g35_50, g35_53, g35_54, g35_55, g35_56, g35_59, g35_60, g35_63, g35_64, g35_67, g35_68, g35_70, g35_73, g35_74, g35_75, g35_78, g35_79, g35_80, g35_83, g35_86, g35_89, g35_90, g35_91, g35_94, g35_97, g35_98, g35_99, g35_102, Option.toList, List.nil_append, List.cons_append, va_rf, nI_ltI, nI_leI, nI_eq, nI_add, nI_sub, nI_lt0, nI_e0, nI_m1, m1_nI, Nat.reduceEqDiff, Nat.reduceLT, Nat.reduceLeDiff, Nat.reduceAdd, Nat.reduceSub, Nat.reduceMul, ↓reduceIte, eq_self, rp _, cl, et1, eb1]
  · obtain ⟨rp, -, -⟩ := x_popD (d := dd + 1) S N hl
    have R := R dd
    cases hv : lt0 v with
    | true =>
      rw [hv] at cl q
      obtain rfl : bl = false := by cases bl; rfl; exact absurd rfl q
      rw [bI_f] at eb1
      have cl : (0 ≤ Op.cmpValue (Jvm.FP.dcmp (vD v) Jvm.FP.dconst0) .g) = False := by rw [cl]; exact eq_false Bool.noConfusion
      simp (disch := first | with_reducible assumption | omega | exact Or.inl rfl | exact Or.inr rfl | exact bI_01 | exact c_cat | exact vt_ref | exact vt_null | rfl | with_reducible repeat (first | assumption | omega | apply S_I | apply S_L | apply S_D | apply ob_I | apply ob_L | apply ob_D | apply ob_R | apply ax_I | apply ax_L | apply ax_D | apply ax_R | apply o303 | apply o307 | apply o302 | apply o301 | apply ax304 | apply ax305 | apply ax306 | apply ax308 | apply ax309 | apply ax310 | apply lt_S | apply ar305 | apply ar308 | apply ar309)) only [g35_0, g35_1, g35_4, g35_7, g35_8, g35_9, g35_12, g35_13, g35_16, g35_17, g35_18, g35_19, g35_22, g35_23, g35_26, g35_27, g35_28, g35_31, g35_32, g35_33, g35_34, g35_37, g35_40, g35_41, g35_42, g35_43, g35_46, g35_49, g35_50, g35_53, g35_54, g35_55, g35_56, g35_59, g35_60, g35_63, g35_64, g35_67, g35_68, g35_70, g35_73, g35_74, g35_75, g35_78, g35_79, g35_80, g35_83, g35_86, g35_89, g35_90, g35_91, g35_94, g35_97, g35_98, g35_99, g35_102, Option.toList, List.nil_append, List.cons_append, va_rf, nI_ltI, nI_leI, nI_eq, nI_add, nI_sub, nI_lt0, nI_e0, nI_m1, m1_nI, Nat.reduceEqDiff, Nat.reduceLT, Nat.reduceLeDiff, Nat.reduceAdd, Nat.reduceSub, Nat.reduceMul, ↓reduceIte, eq_self, rp _, cl, et1, eb1, R _]
    | false =>
      rw [hv] at cl q
      obtain rfl : bl = true := by cases bl; exact absurd rfl q; rfl
      rw [bI_t] at eb1
      have cl : (0 ≤ Op.cmpValue (Jvm.FP.dcmp (vD v) Jvm.FP.dconst0) .g) = True := by rw [cl]; exact eq_true rfl
      simp (disch := first | with_reducible assumption | omega | exact Or.inl rfl | exact Or.inr rfl | exact bI_01 | exact c_cat | exact vt_ref | exact vt_null | rfl | with_reducible repeat (first | assumption | omega | apply S_I | apply S_L | apply S_D | apply ob_I | apply ob_L | apply ob_D | apply ob_R | apply ax_I | apply ax_L | apply ax_D | apply ax_R | apply o303 | apply o307 | apply o302 | apply o301 | apply ax304 | apply ax305 | apply ax306 | apply ax308 | apply ax309 | apply ax310 | apply lt_S | apply ar305 | apply ar308 | apply ar309)) only [g35_0, g35_1, g35_4, g35_7, g35_8, g35_9, g35_12, g35_13, g35_16, g35_17, g35_18, g35_19, g35_22, g35_23, g35_26, g35_27, g35_28, g35_31, g35_32, g35_33, g35_34, g35_37, g35_40, g35_41, g35_42, g35_43, g35_46, g35_49, g35_50, g35_53, g35_54, g35_55, g35_56, g35_59, g35_60, g35_63, g35_64, g35_67, g35_68, g35_70, g35_73, g35_74, g35_75, g35_78, g35_79, g35_80, g35_83, g35_86, g35_89, g35_90, g35_91, g35_94, g35_97, g35_98, g35_99, g35_102, Option.toList, List.nil_append, List.cons_append, va_rf, nI_ltI, nI_leI, nI_eq, nI_add, nI_sub, nI_lt0, nI_e0, nI_m1, m1_nI, Nat.reduceEqDiff, Nat.reduceLT, Nat.reduceLeDiff, Nat.reduceAdd, Nat.reduceSub, Nat.reduceMul, ↓reduceIte, eq_self, rp _, cl, et1, eb1, R _]
theorem x_goOn1 (S : am_S g3) (hd : dp < 20) (N : NS g3 (st ++ [v])) (kv : okV v) (hl : st.length < 1024) (et : am_I g3 (278 + (dp + 1)) 3 = nI 1) (eh : am_D g3 (278 + (dp + 1)) 5 = hh) : ∀ g', (∀ dd, am_run (dd + 1) 36 [some (.ref 9), some (.ref (278 + (dp + 1))), some (.double hh), none] (am_setI (am_setI g3 12 3 (nI st.length)) (278 + (dp + 1)) 7 (bI (lt0 v))) none g') → ∀ dd, am_run (dd + 3) 35 [some (.ref 9), some (.ref (278 + (dp + 1))), none, none] g3 none g' := by
  have h4 : 4 ≤ 278 + (dp + 1) := by omega
  have cl := cm_lt0 kv
  have S1 : am_S (am_setI g3 12 3 (nI st.length)) := S
  have O1 := o278 S1 (show dp + 1 < 22 by omega)
  have et1 : am_I (am_setI g3 12 3 (nI st.length)) (278 + (dp + 1)) 3 = nI 1 := by rw [rI_a (by omega)]; exact et
  intro g' R dd Q
  obtain ⟨rp, -, -⟩ := x_popD (d := dd + 1) S N hl
  have R := R (dd + 1)
  have eh1 : ∀ x : Int32, am_D (am_setI (am_setI g3 12 3 (nI st.length)) (278 + (dp + 1)) 7 x) (278 + (dp + 1)) 5 = hh := fun x => eh
  cases hv : lt0 v with
  | true =>
    rw [hv] at cl
    rw [hv, bI_t] at R
    have cl : (0 ≤ Op.cmpValue (Jvm.FP.dcmp (vD v) Jvm.FP.dconst0) .g) = False := by rw [cl]; exact eq_false Bool.noConfusion
    simp (disch := first | with_reducible assumption | omega | exact Or.inl rfl | exact Or.inr rfl | exact bI_01 | exact c_cat | exact vt_ref | exact vt_null | rfl | with_reducible repeat (first | assumption | omega | apply S_I | apply S_L | apply S_D | apply ob_I | apply ob_L | apply ob_D | apply ob_R | apply ax_I | apply ax_L | apply ax_D | apply ax_R | apply o303 | apply o307 | apply o302 | apply o301 | apply ax304 | apply ax305 | apply ax306 | apply ax308 | apply ax309 | apply ax310 | apply lt_S | apply ar305 | apply ar308 | apply ar309)) only [g35_0, g35_1, g35_4, g35_7, g35_8, g35_9, g35_12, g35_13, g35_16, g35_17, g35_18, g35_19, g35_22, g35_23, g35_26, g35_27, g35_28, g35_31, g35_32, g35_33, g35_34, g35_37, g35_40, g35_41, g35_42, g35_43, g35_46, g35_49, g35_50, g35_53, g35_54, g35_55, g35_56, g35_59, g35_60, g35_63, g35_64, g35_67, g35_68, g35_70, g35_73, g35_74, g35_75, g35_78, g35_79, g35_80, g35_83, g35_86, g35_89, g35_90, g35_91, g35_94, g35_97, g35_98, g35_99, g35_102, Option.toList, List.nil_append, List.cons_append, va_rf, nI_ltI, nI_leI, nI_eq, nI_add, nI_sub, nI_lt0, nI_e0, nI_m1, m1_nI, Nat.reduceEqDiff, Nat.reduceLT, Nat.reduceLeDiff, Nat.reduceAdd, Nat.reduceSub, Nat.reduceMul, ↓reduceIte, eq_self, rp _, cl, et1, eh1, R _]
  | false =>
    rw [hv] at cl
    rw [hv, bI_f] at R
    have cl : (0 ≤ Op.cmpValue (Jvm.FP.dcmp (vD v) Jvm.FP.dconst0) .g) = True := by rw [cl]; exact eq_true rfl
    simp (disch := first | with_reducible assumption | omega | exact Or.inl rfl | exact Or.inr rfl | exact bI_01 | exact c_cat | exact vt_ref | exact vt_null | rfl | with_reducible repeat (first | assumption | omega | apply S_I | apply S_L | apply S_D | apply ob_I | apply ob_L | apply ob_D | apply ob_R | apply ax_I | apply ax_L | apply ax_D | apply ax_R | apply o303 | apply o307 | apply o302 | apply o301 | apply ax304 | apply ax305 | apply ax306 | apply ax308 | apply ax309 | apply ax310 | apply lt_S | apply ar305 | apply ar308 | apply ar309)) only [g35_0, g35_1, g35_4, g35_7, g35_8, g35_9, g35_12, g35_13, g35_16, g35_17, g35_18, g35_19, g35_22, g35_23, g35_26, g35_27, g35_28, g35_31, g35_32, g35_33, g35_34, g35_37, g35_40, g35_41, g35_42, g35_43, g35_46, g35_49, g35_50, g35_53, g35_54, g35_55, g35_56, g35_59, g35_60, g35_63, g35_64, g35_67, g35_68, g35_70, g35_73, g35_74, g35_75, g35_78, g35_79, g35_80, g35_83, g35_86, g35_89, g35_90, g35_91, g35_94, g35_97, g35_98, g35_99, g35_102, Option.toList, List.nil_append, List.cons_append, va_rf, nI_ltI, nI_leI, nI_eq, nI_add, nI_sub, nI_lt0, nI_e0, nI_m1, m1_nI, Nat.reduceEqDiff, Nat.reduceLT, Nat.reduceLeDiff, Nat.reduceAdd, Nat.reduceSub, Nat.reduceMul, ↓reduceIte, eq_self, rp _, cl, et1, eh1, R _]
/-- from a halving on -/
theorem c_halve (h4 : 402 ≤ h.1) (ho : o < 278 ∨ 299 < o) (ho2 : o < 402) (hd : dp < 20) (hre' : ∀ a, rr = some a → a < e' ∨ e' + 7 ≤ a) (C' : cdK h e' D') (htm : ts.length ≤ tmf) (hT2 : T < 900000) (WF : ∀ x, CWk h o rr sa (d + 5) v1 v2 v3 f (ev tt rt cv cs f (48 + gf) [.inr x] 0 (dp + 1) (rt (48 + gf))) (dp + 1) e' st.length [.inr x] D' tmf) :
    ∀ k t l hh σ g gm n, t + k = 62 → 2 ≤ t → XS h gm o rr sa dp ts σ → KZ gm → NS gm st → RF gm (dp + 1) e' t l hh bl → okD l → okD hh → FK g gm dp → am_I gm (278 + dp) 1 = nI p → σ.1 < f + 1 → st.length + σ.1 ≤ 1000 → n + 1 + 6 * σ.1 ≤ T →
      (∀ g', (∀ dd, am_run (dd + 2) 39 [some (.ref 9), some (.ref (278 + (dp + 1))), none, none] gm none g') → am_S g' → am_I g' 9 13 = nI 0 → GR (d + 5) v1 v2 v3 g n g' (n + 1)) → (∀ g', (∀ dd, am_run (dd + 2) 39 [some (.ref 9), some (.ref (278 + (dp + 1))), none, none] gm none g') → am_S g' → BR (d + 5) v1 v2 v3 g n g' n) →
      CP h o rr sa (d + 5) v1 v2 v3 T g dp ts st p n (evRootL (apX tt rt cv cs f dp gf) bl k l hh σ) := by
  intro k
  induction k with
  | zero =>
    intro t l hh σ g gm n htk ht A Z N R kl kh Fm am hf hl hT hG hB
    obtain ⟨e1, e2, e3, e4, e5⟩ := R
    show CP h o rr sa (d + 5) v1 v2 v3 T g dp ts st p n (mid l hh, σ)
    match hm : mid l hh with
    | .inr q =>
      obtain ⟨g', r1, O1, F1, a1⟩ := x_halveN A ho hd Z N e3 e4 kl kh hm
      exact CP_O O1 (fun z => hG g' r1 O1.1.2.1 z) (hB g' r1 O1.1.2.1) (FK_trans Fm F1) (a1.trans am) hT
    | .inl m =>
      obtain ⟨y, rfl, ky, -, B⟩ := x_halveM A.2.1 hd e2 (by omega) e3 e4 kl kh hm
      have A1 := XS_fD (x := y) (k := 6) A (show dp + 1 < 22 by omega)
      have N1 := NS_fD (x := y) (k := 6) N (show dp + 1 < 22 by omega)
      obtain ⟨g', r1, N2, F2⟩ := x_pushD (d := 0) (x := y) A1.2.1 N1 (by omega) ky
      have r39 := B (by omega) g' (fun dd => am_runD r1 (Nat.zero_le dd))
      have A2 := XS_num A1 F2
      have Z2 := KZ_fr F2 (by decide) (Z : KZ (am_setD gm (278 + (dp + 1)) 6 y))
      have O2 : OPx h g' o rr sa dp ts st (.inl (.inr y), σ) := ⟨A2, Z2, N2, ky⟩
      exact CP_O O2 (fun z => hG g' r39 A2.2.1 z) (hB g' r39 A2.2.1) (FK_trans Fm (FK_trans (FK_fD (by omega)) (FK_fr F2 (fun a q => by omega) (by omega)))) (by rw [fr_rdI F2 (by omega)]; exact am) hT
  | succ k ih =>
    intro t l hh σ g gm n htk ht A Z N R kl kh Fm am hf hl hT hG hB
    obtain ⟨e1, e2, e3, e4, e5⟩ := R
    match hm : mid l hh with
    | .inr q =>
      rw [evRootL, hm]
      obtain ⟨g', r1, O1, F1, a1⟩ := x_halveN A ho hd Z N e3 e4 kl kh hm
      exact CP_O O1 (fun z => hG g' r1 O1.1.2.1 z) (hB g' r1 O1.1.2.1) (FK_trans Fm F1) (a1.trans am) hT
    | .inl m =>
      rw [evRootL_eq _ _ _ _ _ m _ hm]
      obtain ⟨y, rfl, ky, B, -⟩ := x_halveM A.2.1 hd e2 (by omega) e3 e4 kl kh hm
      have B := B (by omega)
      have A1 := XS_fD (x := y) (k := 6) A (show dp + 1 < 22 by omega)
      have N1 := NS_fD (x := y) (k := 6) N (show dp + 1 < 22 by omega)
      have Z1 : KZ (am_setD gm (278 + (dp + 1)) 6 y) := Z
      show CP h o rr sa (d + 5) v1 v2 v3 T g dp ts st p n (andThen (wo (apX tt rt cv cs f dp gf) y σ) _)
      refine c_ask (d := d + 2) (gm := am_setD gm (278 + (dp + 1)) 6 y) (t := t) h4 ho ho2 (by omega) hre' C' A1 Z1 N1 ky e1 e2 (by omega) (FK_trans Fm (FK_fD (by omega))) am hf hl htm (by omega) hT2 (fun g' R36 S' z' => hG g' (B g' R36) S' z') (fun g' R36 S' => hB g' (B g' R36) S') (fun _ => WF y) (fun _ v σ' g2 n2 a1 a2 a3 a4 a5 a6 a7 a8 a9 a10 a11 => ?_)
      have C2 := cd_kp a1.1 ho2 hre' C'
      obtain ⟨g3, L3, A3, Z3, N3, FA3⟩ := x_leaveR (d := d + 2) (v1 := v1) (v2 := v2) (v3 := v3) (n := n2) a1 ho (by omega) C2 a5 a6 (by omega) (by omega) a2 a3 (by show st.length + 1 < 1024; omega) (by omega)
      have fI := fun k => (FA3 (278 + (dp + 1)) (by omega) (by omega) k).1
      have fD := fun k => (FA3 (278 + (dp + 1)) (by omega) (by omega) k).2.1
      have fR := fun k => (FA3 (278 + (dp + 1)) (by omega) (by omega) k).2.2
      have t3 : am_I g3 (278 + (dp + 1)) 3 = nI (t + 1) := (fI 3).trans a6
      have b3 : am_I g3 (278 + (dp + 1)) 7 = bI bl := (fI 7).trans (a7.trans e5)
      have m3 : am_D g3 (278 + (dp + 1)) 6 = y := (fD 6).trans ((a8 6).trans rD_eq)
      have l3 : am_D g3 (278 + (dp + 1)) 4 = l := (fD 4).trans ((a8 4).trans (by rw [rD_k (by decide)]; exact e3))
      have h3 : am_D g3 (278 + (dp + 1)) 5 = hh := (fD 5).trans ((a8 5).trans (by rw [rD_k (by decide)]; exact e4))
      have c3 : am_R g3 (278 + (dp + 1)) 0 = some e' := (fR 0).trans a5.1
      have p3 : am_I g3 (278 + dp) 1 = nI p := (FA3 (278 + dp) (by omega) (by omega) 1).1.trans a9
      have FK3 : FK g2 g3 dp := FA_K FA3 (by omega)
      obtain ⟨-, N4, F4⟩ := x_popD (d := 0) A3.2.1 N3 (by omega)
      have A4 := XS_num A3 F4
      have Z4 := KZ_fr F4 (by decide) Z3
      have t4 : am_I (am_setI g3 12 3 (nI st.length)) (278 + (dp + 1)) 3 = nI (t + 1) := by rw [rI_a (by omega)]; exact t3
      have b4 : am_I (am_setI g3 12 3 (nI st.length)) (278 + (dp + 1)) 7 = bI bl := by rw [rI_a (by omega)]; exact b3
      have p4 : am_I (am_setI g3 12 3 (nI st.length)) (278 + dp) 1 = nI p := by rw [rI_a (by omega)]; exact p3
      have FK4 : FK g2 (am_setI g3 12 3 (nI st.length)) dp := FK_trans FK3 (FA_K (FA_I (by omega)) (by omega))
      obtain ⟨G1, G2⟩ := x_goOn (bl := bl) A3.2.1 hd N3 a4 (by omega) t3 (by omega) (by omega) b3 m3
      by_cases c : lt0 v = bl
      · rw [if_pos c]
        have G1 := G1 c
        refine ih (t + 1) y hh σ' g2 (am_setD (am_setI g3 12 3 (nI st.length)) (278 + (dp + 1)) 4 y) n2 (by omega) (by omega) (XS_fD A4 (by omega)) Z4 (NS_fD N4 (by omega)) ⟨c3, t4, rD_eq, by rw [rD_k (by decide)]; exact h3, b4⟩ ky kh (FK_trans FK4 (FK_fD (by omega))) p4 (by omega) (by omega) (by omega) (fun g' R39 S' z' => ?_) (fun g' R39 S' => ?_)
        · exact (L3 g' (G1 g' R39 d) S').1 z'
        · exact (L3 g' (G1 g' R39 d) S').2
      · rw [if_neg c]
        have G2 := G2 c
        refine ih (t + 1) l y σ' g2 (am_setD (am_setI g3 12 3 (nI st.length)) (278 + (dp + 1)) 5 y) n2 (by omega) (by omega) (XS_fD A4 (by omega)) Z4 (NS_fD N4 (by omega)) ⟨c3, t4, by rw [rD_k (by decide)]; exact l3, rD_eq, b4⟩ kl ky (FK_trans FK4 (FK_fD (by omega))) p4 (by omega) (by omega) (by omega) (fun g' R39 S' z' => ?_) (fun g' R39 S' => ?_)
        · exact (L3 g' (G2 g' R39 d) S').1 z'
        · exact (L3 g' (G2 g' R39 d) S').2
end XRP

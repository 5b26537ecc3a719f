/-! THE CLASS: area; the nodes of line and area -/
section XAR
variable {h g g' ga : am_H} {o sa dp d q a b a' b' e f s sh nn tm : Nat} {rr : Option Nat} {cv : Nat → Option (Option VL)} {st : List VL} {ts : List (Nat × Nat × Nat)} {σ : SR} {u v : VL} {P : Nat → Prop} {x : UInt64} {la lb : List UInt64} {v1 v2 v3 : Option Value} {tt : Nat → ntT} {rt : Nat → Nat} {cs : Nat → Nat → VL} {as : List VL}
abbrev Az (r1 r2 : Int32) (n : Nat) (s : UInt64) (i : Nat) (v7 v8 v9 v10 v11 v12 : Option Value) : am_Lo := [some (.ref 9), some (.int r1), some (.int r2), some (.int (nI n)), some (.double s), none, some (.int (nI i)), v7, v8, v9, v10, v11, v12]
theorem x_areaLoop {r1 r2 : Int32} (A : XS h g o rr sa dp ts σ) (ho : o < 278 ∨ 299 < o) (Z : KZ g) (N : NS g st) (hl0 : st.length < 1024) (D1 : dA g 20 la) (D2 : dA g 21 lb) (hl : la.length = lb.length) (h64 : la.length ≤ 64) :
    ∀ k i s v7 v8 v9 v10 v11 v12, la.length - i = k → 1 ≤ i → i ≤ la.length → okD s → ∃ g', (∀ Q, am_J (d + 2) 53 34 (Az r1 r2 la.length s i v7 v8 v9 v10 v11 v12) [] g Q ↔ Q none g') ∧ OPx h g' o rr sa dp ts st (arV la lb k i s, σ) ∧ FA g g' := by
  have S := A.2.1
  have z1 := Z.1
  have k5 : am_I (am_setI g 9 13 (nI 5)) 9 13 = nI 5 := rI_eq
  have S5 : am_S (am_setI g 9 13 (nI 5)) := S
  have O5 : OPx h (am_setI g 9 13 (nI 5)) o rr sa dp ts st (oF 5, σ) := OPx_F A ho Z N.2 (by decide) (by decide)
  have F5 : FA g (am_setI g 9 13 (nI 5)) := FA_I (by omega)
  have bad : ∀ Q i s v7 v8 v9 v10 v11 v12, i ≤ 64 → (am_J (d + 2) 53 34 (Az r1 r2 la.length s i v7 v8 v9 v10 v11 v12) [] (am_setI g 9 13 (nI 5)) Q ↔ Q none (am_setI g 9 13 (nI 5))) := fun Q i s v7 v8 v9 v10 v11 v12 hi => by
    rw [g53_34]
    by_cases c : la.length ≤ i
    · simp (disch := first | with_reducible assumption | omega | exact Or.inl rfl | exact Or.inr rfl | exact bI_01 | exact c_cat | exact vt_ref | exact vt_null | rfl | with_reducible repeat (first | assumption | omega | apply S_I | apply S_L | apply S_D | apply ob_I | apply ob_L | apply ob_D | apply ob_R | apply ax_I | apply ax_L | apply ax_D | apply ax_R | apply o303 | apply o307 | apply o302 | apply o301 | apply ax304 | apply ax305 | apply ax306 | apply ax308 | apply ax309 | apply ax310 | apply lt_S | apply ar305 | apply ar308 | apply ar309)) only [g53_36, g53_37, g53_40, g53_41, g53_44, g53_157, g53_158, g53_161, g53_164, g53_165, g53_168, g53_170, g53_173, Option.toList, List.nil_append, List.cons_append, va_rf, nI_ltI, nI_leI, nI_eq, nI_add, nI_sub, nI_lt0, nI_e0, nI_m1, m1_nI, Nat.reduceEqDiff, Nat.reduceLT, Nat.reduceLeDiff, Nat.reduceAdd, Nat.reduceSub, Nat.reduceMul, ↓reduceIte, eq_self, c, k5]
    · simp (disch := first | with_reducible assumption | omega | exact Or.inl rfl | exact Or.inr rfl | exact bI_01 | exact c_cat | exact vt_ref | exact vt_null | rfl | with_reducible repeat (first | assumption | omega | apply S_I | apply S_L | apply S_D | apply ob_I | apply ob_L | apply ob_D | apply ob_R | apply ax_I | apply ax_L | apply ax_D | apply ax_R | apply o303 | apply o307 | apply o302 | apply o301 | apply ax304 | apply ax305 | apply ax306 | apply ax308 | apply ax309 | apply ax310 | apply lt_S | apply ar305 | apply ar308 | apply ar309)) only [g53_36, g53_37, g53_40, g53_41, g53_44, g53_157, g53_158, g53_161, g53_164, g53_165, g53_168, g53_170, g53_173, Option.toList, List.nil_append, List.cons_append, va_rf, nI_ltI, nI_leI, nI_eq, nI_add, nI_sub, nI_lt0, nI_e0, nI_m1, m1_nI, Nat.reduceEqDiff, Nat.reduceLT, Nat.reduceLeDiff, Nat.reduceAdd, Nat.reduceSub, Nat.reduceMul, ↓reduceIte, eq_self, c, k5]
  intro k
  induction k with
  | zero =>
    intro i s v7 v8 v9 v10 v11 v12 hk hi hi2 ks
    obtain rfl : i = la.length := by omega
    obtain ⟨g', q1, N1, F1⟩ := x_pushD (d := d + 1) S N hl0 ks
    refine ⟨g', fun Q => ?_, ⟨XS_num A F1, KZ_fr F1 (by decide) Z, N1, ks⟩, FA_fr F1 (fun a q => by omega)⟩
    rw [g53_34]
    simp (disch := first | with_reducible assumption | omega | exact Or.inl rfl | exact Or.inr rfl | exact bI_01 | exact c_cat | exact vt_ref | exact vt_null | rfl | with_reducible repeat (first | assumption | omega | apply S_I | apply S_L | apply S_D | apply ob_I | apply ob_L | apply ob_D | apply ob_R | apply ax_I | apply ax_L | apply ax_D | apply ax_R | apply o303 | apply o307 | apply o302 | apply o301 | apply ax304 | apply ax305 | apply ax306 | apply ax308 | apply ax309 | apply ax310 | apply lt_S | apply ar305 | apply ar308 | apply ar309)) only [g53_36, g53_37, g53_40, g53_41, g53_44, g53_157, g53_158, g53_161, g53_164, g53_165, g53_168, g53_170, g53_173, Option.toList, List.nil_append, List.cons_append, va_rf, nI_ltI, nI_leI, nI_eq, nI_add, nI_sub, nI_lt0, nI_e0, nI_m1, m1_nI, Nat.reduceEqDiff, Nat.reduceLT, Nat.reduceLeDiff, Nat.reduceAdd, Nat.reduceSub, Nat.reduceMul, ↓reduceIte, eq_self, Nat.le_refl, z1, q1 _]
  | succ k ih =>
    intro i s v7 v8 v9 v10 v11 v12 hk hi hi2 ks
    obtain ⟨u1, ku1⟩ := dA_at D1 (show i - 1 < la.length by omega)
    obtain ⟨u2, ku2⟩ := dA_at D1 (show i < la.length by omega)
    obtain ⟨w1, kw1⟩ := dA_at D2 (show i - 1 < lb.length by omega)
    obtain ⟨w2, kw2⟩ := dA_at D2 (show i < lb.length by omega)
    have n1 := ok_sub ku2 ku1
    have n2 := ok_add kw1 kw2
    have ie1 := x_isInfinite (d := d + 1) (g := g) n1
    have ie2 := x_isInfinite (d := d + 1) (g := g) n2
    show ∃ g', _ ∧ OPx h g' o rr sa dp ts st ((if finB (Jvm.FP.dsub (la.getD i 0) (la.getD (i - 1) 0)) = true ∧ finB (Jvm.FP.dadd (lb.getD (i - 1) 0) (lb.getD i 0)) = true then
      (if finB (Jvm.FP.dmul (Jvm.FP.dsub (la.getD i 0) (la.getD (i - 1) 0)) (Jvm.FP.dadd (lb.getD (i - 1) 0) (lb.getD i 0))) = true then
        (if finB (Jvm.FP.dadd s (Jvm.FP.ddiv (Jvm.FP.dmul (Jvm.FP.dsub (la.getD i 0) (la.getD (i - 1) 0)) (Jvm.FP.dadd (lb.getD (i - 1) 0) (lb.getD i 0))) 4611686018427387904)) = true then
          arV la lb k (i + 1) (Jvm.FP.dadd s (Jvm.FP.ddiv (Jvm.FP.dmul (Jvm.FP.dsub (la.getD i 0) (la.getD (i - 1) 0)) (Jvm.FP.dadd (lb.getD (i - 1) 0) (lb.getD i 0))) 4611686018427387904))
        else oF 5) else oF 5) else oF 5), σ) ∧ _
    by_cases f1 : finB (Jvm.FP.dsub (la.getD i 0) (la.getD (i - 1) 0)) = true
    · rw [f1, Bool.not_true, bI_f] at ie1
      by_cases f2 : finB (Jvm.FP.dadd (lb.getD (i - 1) 0) (lb.getD i 0)) = true
      · rw [f2, Bool.not_true, bI_f] at ie2
        rw [if_pos ⟨f1, f2⟩]
        have n3 := ok_mul (finB_ok.mp f1) (finB_ok.mp f2)
        have ie3 := x_isInfinite (d := d + 1) (g := g) n3
        by_cases f3 : finB (Jvm.FP.dmul (Jvm.FP.dsub (la.getD i 0) (la.getD (i - 1) 0)) (Jvm.FP.dadd (lb.getD (i - 1) 0) (lb.getD i 0))) = true
        · rw [f3, Bool.not_true, bI_f] at ie3
          rw [if_pos f3]
          have n4 := ok_div (finB_ok.mp f3) ok_two two_nz
          have n5 := ok_add' ks n4
          have ie4 := x_isInfinite (d := d + 1) (g := g) n5
          by_cases f4 : finB (Jvm.FP.dadd s (Jvm.FP.ddiv (Jvm.FP.dmul (Jvm.FP.dsub (la.getD i 0) (la.getD (i - 1) 0)) (Jvm.FP.dadd (lb.getD (i - 1) 0) (lb.getD i 0))) 4611686018427387904)) = true
          · rw [f4, Bool.not_true, bI_f] at ie4
            rw [if_pos f4]
            obtain ⟨g', q1, O1, F1⟩ := ih (i + 1) (Jvm.FP.dadd s (Jvm.FP.ddiv (Jvm.FP.dmul (Jvm.FP.dsub (la.getD i 0) (la.getD (i - 1) 0)) (Jvm.FP.dadd (lb.getD (i - 1) 0) (lb.getD i 0))) 4611686018427387904)) (some (.double (Jvm.FP.dsub (la.getD i 0) (la.getD (i - 1) 0)))) none (some (.double (Jvm.FP.dadd (lb.getD (i - 1) 0) (lb.getD i 0)))) none (some (.double (Jvm.FP.dmul (Jvm.FP.dsub (la.getD i 0) (la.getD (i - 1) 0)) (Jvm.FP.dadd (lb.getD (i - 1) 0) (lb.getD i 0))))) none (by omega) (by omega) (by omega) (finB_ok.mp f4)
            refine ⟨g', fun Q => ?_, O1, F1⟩
            rw [← q1 Q, g53_34]
            simp (disch := first | with_reducible assumption | omega | exact Or.inl rfl | exact Or.inr rfl | exact bI_01 | exact c_cat | exact vt_ref | exact vt_null | rfl | with_reducible repeat (first | assumption | omega | apply S_I | apply S_L | apply S_D | apply ob_I | apply ob_L | apply ob_D | apply ob_R | apply ax_I | apply ax_L | apply ax_D | apply ax_R | apply o303 | apply o307 | apply o302 | apply o301 | apply ax304 | apply ax305 | apply ax306 | apply ax308 | apply ax309 | apply ax310 | apply lt_S | apply ar305 | apply ar308 | apply ar309)) only [g53_36, g53_37, g53_40, g53_41, g53_44, g53_47, g53_48, g53_51, g53_53, g53_54, g53_55, g53_58, g53_60, g53_61, g53_62, g53_63, g53_64, g53_66, g53_67, g53_70, g53_72, g53_73, g53_74, g53_75, g53_76, g53_79, g53_81, g53_82, g53_83, g53_85, g53_87, g53_90, g53_93, g53_95, g53_98, g53_101, g53_102, g53_103, g53_106, g53_107, g53_109, g53_111, g53_112, g53_114, g53_116, g53_119, g53_122, g53_124, g53_127, g53_129, g53_131, g53_134, g53_135, g53_136, g53_138, g53_140, g53_143, g53_146, g53_147, g53_148, g53_151, g53_154, Option.toList, List.nil_append, List.cons_append, va_rf, nI_ltI, nI_leI, nI_eq, nI_add, nI_sub, nI_lt0, nI_e0, nI_m1, m1_nI, Nat.reduceEqDiff, Nat.reduceLT, Nat.reduceLeDiff, Nat.reduceAdd, Nat.reduceSub, Nat.reduceMul, ↓reduceIte, eq_self, show ¬ la.length ≤ i by omega, z1, u1, u2, w1, w2, ie1 _, ie2 _, ie3 _, ie4 _]
          · rw [show finB (Jvm.FP.dadd s (Jvm.FP.ddiv (Jvm.FP.dmul (Jvm.FP.dsub (la.getD i 0) (la.getD (i - 1) 0)) (Jvm.FP.dadd (lb.getD (i - 1) 0) (lb.getD i 0))) 4611686018427387904)) = false from Bool.eq_false_iff.mpr f4, Bool.not_false, bI_t] at ie4
            rw [if_neg f4]
            refine ⟨_, fun Q => ?_, O5, F5⟩
            rw [← bad Q (i + 1) (Jvm.FP.dadd s (Jvm.FP.ddiv (Jvm.FP.dmul (Jvm.FP.dsub (la.getD i 0) (la.getD (i - 1) 0)) (Jvm.FP.dadd (lb.getD (i - 1) 0) (lb.getD i 0))) 4611686018427387904)) (some (.double (Jvm.FP.dsub (la.getD i 0) (la.getD (i - 1) 0)))) none (some (.double (Jvm.FP.dadd (lb.getD (i - 1) 0) (lb.getD i 0)))) none (some (.double (Jvm.FP.dmul (Jvm.FP.dsub (la.getD i 0) (la.getD (i - 1) 0)) (Jvm.FP.dadd (lb.getD (i - 1) 0) (lb.getD i 0))))) none (by omega), g53_34]
            simp (disch := first | with_reducible assumption | omega | exact Or.inl rfl | exact Or.inr rfl | exact bI_01 | exact c_cat | exact vt_ref | exact vt_null | rfl | with_reducible repeat (first | assumption | omega | apply S_I | apply S_L | apply S_D | apply ob_I | apply ob_L | apply ob_D | apply ob_R | apply ax_I | apply ax_L | apply ax_D | apply ax_R | apply o303 | apply o307 | apply o302 | apply o301 | apply ax304 | apply ax305 | apply ax306 | apply ax308 | apply ax309 | apply ax310 | apply lt_S | apply ar305 | apply ar308 | apply ar309)) only [g53_36, g53_37, g53_40, g53_41, g53_44, g53_47, g53_48, g53_51, g53_53, g53_54, g53_55, g53_58, g53_60, g53_61, g53_62, g53_63, g53_64, g53_66, g53_67, g53_70, g53_72, g53_73, g53_74, g53_75, g53_76, g53_79, g53_81, g53_82, g53_83, g53_85, g53_87, g53_90, g53_93, g53_95, g53_98, g53_101, g53_102, g53_103, g53_106, g53_107, g53_109, g53_111, g53_112, g53_114, g53_116, g53_119, g53_122, g53_124, g53_127, g53_129, g53_131, g53_134, g53_135, g53_136, g53_138, g53_140, g53_143, g53_146, g53_147, g53_148, g53_151, g53_154, Option.toList, List.nil_append, List.cons_append, va_rf, nI_ltI, nI_leI, nI_eq, nI_add, nI_sub, nI_lt0, nI_e0, nI_m1, m1_nI, Nat.reduceEqDiff, Nat.reduceLT, Nat.reduceLeDiff, Nat.reduceAdd, Nat.reduceSub, Nat.reduceMul, ↓reduceIte, eq_self, show ¬ la.length ≤ i by omega, z1, u1, u2, w1, w2, ie1 _, ie2 _, ie3 _, ie4 _]
        · rw [show finB (Jvm.FP.dmul (Jvm.FP.dsub (la.getD i 0) (la.getD (i - 1) 0)) (Jvm.FP.dadd (lb.getD (i - 1) 0) (lb.getD i 0))) = false from Bool.eq_false_iff.mpr f3, Bool.not_false, bI_t] at ie3
          rw [if_neg f3]
          refine ⟨_, fun Q => ?_, O5, F5⟩
          rw [← bad Q (i + 1) (Jvm.FP.dmul (Jvm.FP.dsub (la.getD i 0) (la.getD (i - 1) 0)) (Jvm.FP.dadd (lb.getD (i - 1) 0) (lb.getD i 0))) (some (.double (Jvm.FP.dsub (la.getD i 0) (la.getD (i - 1) 0)))) none (some (.double (Jvm.FP.dadd (lb.getD (i - 1) 0) (lb.getD i 0)))) none (some (.double (Jvm.FP.dmul (Jvm.FP.dsub (la.getD i 0) (la.getD (i - 1) 0)) (Jvm.FP.dadd (lb.getD (i - 1) 0) (lb.getD i 0))))) none (by omega), g53_34]
          simp (disch := first | with_reducible assumption | omega | exact Or.inl rfl | exact Or.inr rfl | exact bI_01 | exact c_cat | exact vt_ref | exact vt_null | rfl | with_reducible repeat (first | assumption | omega | apply S_I | apply S_L | apply S_D | apply ob_I | apply ob_L | apply ob_D | apply ob_R | apply ax_I | apply ax_L | apply ax_D | apply ax_R | apply o303 | apply o307 | apply o302 | apply o301 | apply ax304 | apply ax305 | apply ax306 | apply ax308 | apply ax309 | apply ax310 | apply lt_S | apply ar305 | apply ar308 | apply ar309)) only [g53_36, g53_37, g53_40, g53_41, g53_44, g53_47, g53_48, g53_51, g53_53, g53_54, g53_55, g53_58, g53_60, g53_61, g53_62, g53_63, g53_64, g53_66, g53_67, g53_70, g53_72, g53_73, g53_74, g53_75, g53_76, g53_79, g53_81, g53_82, g53_83, g53_85, g53_87, g53_90, g53_93, g53_95, g53_98, g53_101, g53_102, g53_103, g53_106, g53_107, g53_109, g53_111, g53_112, g53_114, g53_116, g53_119, g53_122, g53_124, g53_127, g53_129, g53_131, g53_134, g53_135, g53_136, g53_138, g53_140, g53_143, g53_146, g53_147, g53_148, g53_151, g53_154, Option.toList, List.nil_append, List.cons_append, va_rf, nI_ltI, nI_leI, nI_eq, nI_add, nI_sub, nI_lt0, nI_e0, nI_m1, m1_nI, Nat.reduceEqDiff, Nat.reduceLT, Nat.reduceLeDiff, Nat.reduceAdd, Nat.reduceSub, Nat.reduceMul, ↓reduceIte, eq_self, show ¬ la.length ≤ i by omega, z1, u1, u2, w1, w2, ie1 _, ie2 _, ie3 _]
      · rw [show finB (Jvm.FP.dadd (lb.getD (i - 1) 0) (lb.getD i 0)) = false from Bool.eq_false_iff.mpr f2, Bool.not_false, bI_t] at ie2
        rw [if_neg (fun q => f2 q.2)]
        refine ⟨_, fun Q => ?_, O5, F5⟩
        rw [g53_34]
        simp (disch := first | with_reducible assumption | omega | exact Or.inl rfl | exact Or.inr rfl | exact bI_01 | exact c_cat | exact vt_ref | exact vt_null | rfl | with_reducible repeat (first | assumption | omega | apply S_I | apply S_L | apply S_D | apply ob_I | apply ob_L | apply ob_D | apply ob_R | apply ax_I | apply ax_L | apply ax_D | apply ax_R | apply o303 | apply o307 | apply o302 | apply o301 | apply ax304 | apply ax305 | apply ax306 | apply ax308 | apply ax309 | apply ax310 | apply lt_S | apply ar305 | apply ar308 | apply ar309)) only [g53_36, g53_37, g53_40, g53_41, g53_44, g53_47, g53_48, g53_51, g53_53, g53_54, g53_55, g53_58, g53_60, g53_61, g53_62, g53_63, g53_64, g53_66, g53_67, g53_70, g53_72, g53_73, g53_74, g53_75, g53_76, g53_79, g53_81, g53_82, g53_83, g53_85, g53_87, g53_90, g53_93, g53_95, g53_98, g53_101, g53_102, g53_103, g53_106, g53_107, g53_109, g53_111, g53_112, g53_114, g53_116, g53_119, g53_122, g53_124, g53_127, g53_129, g53_131, g53_134, g53_135, g53_136, g53_138, g53_140, g53_143, g53_146, g53_147, g53_148, g53_151, g53_154, Option.toList, List.nil_append, List.cons_append, va_rf, nI_ltI, nI_leI, nI_eq, nI_add, nI_sub, nI_lt0, nI_e0, nI_m1, m1_nI, Nat.reduceEqDiff, Nat.reduceLT, Nat.reduceLeDiff, Nat.reduceAdd, Nat.reduceSub, Nat.reduceMul, ↓reduceIte, eq_self, show ¬ la.length ≤ i by omega, z1, u1, u2, w1, w2, ie1 _, ie2 _]
    · rw [show finB (Jvm.FP.dsub (la.getD i 0) (la.getD (i - 1) 0)) = false from Bool.eq_false_iff.mpr f1, Bool.not_false, bI_t] at ie1
      rw [if_neg (fun q => f1 q.1)]
      refine ⟨_, fun Q => ?_, O5, F5⟩
      rw [g53_34]
      simp (disch := first | with_reducible assumption | omega | exact Or.inl rfl | exact Or.inr rfl | exact bI_01 | exact c_cat | exact vt_ref | exact vt_null | rfl | with_reducible repeat (first | assumption | omega | apply S_I | apply S_L | apply S_D | apply ob_I | apply ob_L | apply ob_D | apply ob_R | apply ax_I | apply ax_L | apply ax_D | apply ax_R | apply o303 | apply o307 | apply o302 | apply o301 | apply ax304 | apply ax305 | apply ax306 | apply ax308 | apply ax309 | apply ax310 | apply lt_S | apply ar305 | apply ar308 | apply ar309)) only [g53_36, g53_37, g53_40, g53_41, g53_44, g53_47, g53_48, g53_51, g53_53, g53_54, g53_55, g53_58, g53_60, g53_61, g53_62, g53_63, g53_64, g53_66, g53_67, g53_70, g53_72, g53_73, g53_74, g53_75, g53_76, g53_79, g53_81, g53_82, g53_83, g53_85, g53_87, g53_90, g53_93, g53_95, g53_98, g53_101, g53_102, g53_103, g53_106, g53_107, g53_109, g53_111, g53_112, g53_114, g53_116, g53_119, g53_122, g53_124, g53_127, g53_129, g53_131, g53_134, g53_135, g53_136, g53_138, g53_140, g53_143, g53_146, g53_147, g53_148, g53_151, g53_154, Option.toList, List.nil_append, List.cons_append, va_rf, nI_ltI, nI_leI, nI_eq, nI_add, nI_sub, nI_lt0, nI_e0, nI_m1, m1_nI, Nat.reduceEqDiff, Nat.reduceLT, Nat.reduceLeDiff, Nat.reduceAdd, Nat.reduceSub, Nat.reduceMul, ↓reduceIte, eq_self, show ¬ la.length ≤ i by omega, z1, u1, u2, w1, w2, ie1 _]
/-- both rows are read: what comes of it -/
theorem x_area {l m : List Nat} (h4 : 402 ≤ h.1) (ho : o < 278 ∨ 299 < o) (C : cvX h cv P) (ha : a < 256) (hb : b < 256) (sd : rgS a b = true) (hP : ∀ j, j < rgN a b → P (rgC a b j)) (ha' : a' < 256) (hb' : b' < 256) (sd' : rgS a' b' = true) (hP' : ∀ j, j < rgN a' b' → P (rgC a' b' j)) (hl : st.length + 2 < 1024) (A : XS h g o rr sa dp ts σ) (Z : KZ g) (N : NS g st) :
    ∃ g', am_run (d + 4) 53 [some (.ref 9), some (.int (nI (a + 256 * b))), some (.int (nI (a' + 256 * b'))), none, none, none, none, none, none, none, none, none, none] g none g' ∧ OPx h g' o rr sa dp ts st (evRows cv 8 Jvm.FP.dconst0 (rgL a b) (rgL a' b') σ) ∧ FA g g' := by
  have S := A.2.1
  have r64 := rgN_le sd
  have r64' := rgN_le sd'
  obtain ⟨g1, r1, A1, X1, FA1, M1⟩ := x_fill (d := d) h4 ho (Or.inl rfl : (20 = 20 ∨ 20 = 21)) C ha hb sd hP hl A Z N
  unfold evRows
  have S1 := A1.2.1
  match hv : evTab cv (rgL a b) [] σ, A1, M1 with
  | (.inr q, σ1), A1, ⟨L1, n1⟩ =>
    have fn := x_fillNo (d := d) S1 (Or.inr rfl : (21 = 20 ∨ 21 = 21)) L1 ha' hb' sd'
    have tb_ := x_tabBad (d := d + 3) (n := rgN a b) (m := rgN a' b') S1 L1
    refine ⟨g1, fun Q => ?_, ⟨A1, L1, n1⟩, FA1⟩
    simp (disch := first | with_reducible assumption | omega | exact Or.inl rfl | exact Or.inr rfl | exact bI_01 | exact c_cat | exact vt_ref | exact vt_null | rfl | with_reducible repeat (first | assumption | omega | apply S_I | apply S_L | apply S_D | apply ob_I | apply ob_L | apply ob_D | apply ob_R | apply ax_I | apply ax_L | apply ax_D | apply ax_R | apply o303 | apply o307 | apply o302 | apply o301 | apply ax304 | apply ax305 | apply ax306 | apply ax308 | apply ax309 | apply ax310 | apply lt_S | apply ar305 | apply ar308 | apply ar309)) only [g53_0, g53_1, g53_2, g53_5, g53_6, g53_9, g53_10, g53_11, g53_12, g53_13, g53_14, g53_17, g53_18, g53_21, g53_24, g53_27, Option.toList, List.nil_append, List.cons_append, va_rf, nI_ltI, nI_leI, nI_eq, nI_add, nI_sub, nI_lt0, nI_e0, nI_m1, m1_nI, Nat.reduceEqDiff, Nat.reduceLT, Nat.reduceLeDiff, Nat.reduceAdd, Nat.reduceSub, Nat.reduceMul, ↓reduceIte, eq_self, r1 _, fn _, tb_ _]
  | (.inl la, σ1), A1, ⟨Z1, N1, D1⟩ =>
    have len1 := evTab_len _ _ _ _ _ hv
    rw [rgL_len, List.length_nil, Nat.zero_add] at len1
    obtain ⟨g2, r2, A2, X2, FA2, M2⟩ := x_fill (d := d) h4 ho (Or.inr rfl : (21 = 20 ∨ 21 = 21)) C ha' hb' sd' hP' hl A1 Z1 N1
    have S2 := A2.2.1
    have FA12 := FA_trans FA1 FA2
    show ∃ g', _ ∧ OPx h g' o rr sa dp ts st (match evTab cv (rgL a' b') [] σ1 with
      | (.inr f, σ) => (.inr f, σ)
      | (.inl b, σ) => (tabV 8 Jvm.FP.dconst0 la b, σ)) ∧ _
    match hv2 : evTab cv (rgL a' b') [] σ1, A2, M2 with
    | (.inr q, σ2), A2, ⟨L2, n2⟩ =>
      have tb_ := x_tabBad (d := d + 3) (n := rgN a b) (m := rgN a' b') S2 L2
      refine ⟨g2, fun Q => ?_, ⟨A2, L2, n2⟩, FA12⟩
      simp (disch := first | with_reducible assumption | omega | exact Or.inl rfl | exact Or.inr rfl | exact bI_01 | exact c_cat | exact vt_ref | exact vt_null | rfl | with_reducible repeat (first | assumption | omega | apply S_I | apply S_L | apply S_D | apply ob_I | apply ob_L | apply ob_D | apply ob_R | apply ax_I | apply ax_L | apply ax_D | apply ax_R | apply o303 | apply o307 | apply o302 | apply o301 | apply ax304 | apply ax305 | apply ax306 | apply ax308 | apply ax309 | apply ax310 | apply lt_S | apply ar305 | apply ar308 | apply ar309)) only [g53_0, g53_1, g53_2, g53_5, g53_6, g53_9, g53_10, g53_11, g53_12, g53_13, g53_14, g53_17, g53_18, g53_21, g53_24, g53_27, Option.toList, List.nil_append, List.cons_append, va_rf, nI_ltI, nI_leI, nI_eq, nI_add, nI_sub, nI_lt0, nI_e0, nI_m1, m1_nI, Nat.reduceEqDiff, Nat.reduceLT, Nat.reduceLeDiff, Nat.reduceAdd, Nat.reduceSub, Nat.reduceMul, ↓reduceIte, eq_self, r1 _, r2 _, tb_ _]
    | (.inl lb, σ2), A2, ⟨Z2, N2, D2⟩ =>
      have len2 := evTab_len _ _ _ _ _ hv2
      rw [rgL_len, List.length_nil, Nat.zero_add] at len2
      have D1' : dA g2 20 la := fun j v hv => ⟨(X2 20 (Or.inl rfl) (by decide) j).trans (D1 j v hv).1, (D1 j v hv).2⟩
      show ∃ g', _ ∧ OPx h g' o rr sa dp ts st (tabV 8 Jvm.FP.dconst0 la lb, σ2) ∧ _
      unfold tabV
      by_cases c : la.length = lb.length ∧ 1 < la.length
      · rw [if_pos ⟨c.1, c.2, fun q => by cases q⟩, if_neg (by decide)]
        have ty := x_tabYes (d := d + 3) (n := rgN a b) S2 Z2 (by omega) r64
        obtain ⟨g', q1, O1, F1⟩ := x_areaLoop (d := d + 2) (r1 := nI (a + 256 * b)) (r2 := nI (a' + 256 * b')) A2 ho Z2 N2 (by omega) D1' D2 c.1 (by omega) (la.length - 1) 1 Jvm.FP.dconst0 none none none none none none rfl (Nat.le_refl _) (by omega) (uV_ok unit0)
        refine ⟨g', fun Q => ?_, O1, FA_trans FA12 F1⟩
        rw [len1] at q1
        have e12 : rgN a' b' = rgN a b := by omega
        rw [e12] at r2
        rw [← q1 Q]
        simp (disch := first | with_reducible assumption | omega | exact Or.inl rfl | exact Or.inr rfl | exact bI_01 | exact c_cat | exact vt_ref | exact vt_null | rfl | with_reducible repeat (first | assumption | omega | apply S_I | apply S_L | apply S_D | apply ob_I | apply ob_L | apply ob_D | apply ob_R | apply ax_I | apply ax_L | apply ax_D | apply ax_R | apply o303 | apply o307 | apply o302 | apply o301 | apply ax304 | apply ax305 | apply ax306 | apply ax308 | apply ax309 | apply ax310 | apply lt_S | apply ar305 | apply ar308 | apply ar309)) only [g53_0, g53_1, g53_2, g53_5, g53_6, g53_9, g53_10, g53_11, g53_12, g53_13, g53_14, g53_17, g53_18, g53_21, g53_24, g53_27, g53_28, g53_29, g53_31, g53_32, Option.toList, List.nil_append, List.cons_append, va_rf, nI_ltI, nI_leI, nI_eq, nI_add, nI_sub, nI_lt0, nI_e0, nI_m1, m1_nI, Nat.reduceEqDiff, Nat.reduceLT, Nat.reduceLeDiff, Nat.reduceAdd, Nat.reduceSub, Nat.reduceMul, ↓reduceIte, eq_self, r1 _, r2 _, ty _]
      · rw [if_neg (fun q => c ⟨q.1, q.2.1⟩)]
        have tn := x_tabNo (d := d + 3) (n := rgN a b) (m := rgN a' b') S2 Z2 r64 r64' (by rw [← len1, ← len2]; exact c)
        refine ⟨_, fun Q => ?_, OPx_F A2 ho Z2 N2.2 (by decide) (by decide), FA_trans FA12 (FA_I (by omega))⟩
        simp (disch := first | with_reducible assumption | omega | exact Or.inl rfl | exact Or.inr rfl | exact bI_01 | exact c_cat | exact vt_ref | exact vt_null | rfl | with_reducible repeat (first | assumption | omega | apply S_I | apply S_L | apply S_D | apply ob_I | apply ob_L | apply ob_D | apply ob_R | apply ax_I | apply ax_L | apply ax_D | apply ax_R | apply o303 | apply o307 | apply o302 | apply o301 | apply ax304 | apply ax305 | apply ax306 | apply ax308 | apply ax309 | apply ax310 | apply lt_S | apply ar305 | apply ar308 | apply ar309)) only [g53_0, g53_1, g53_2, g53_5, g53_6, g53_9, g53_10, g53_11, g53_12, g53_13, g53_14, g53_17, g53_18, g53_21, g53_24, g53_27, Option.toList, List.nil_append, List.cons_append, va_rf, nI_ltI, nI_leI, nI_eq, nI_add, nI_sub, nI_lt0, nI_e0, nI_m1, m1_nI, Nat.reduceEqDiff, Nat.reduceLT, Nat.reduceLeDiff, Nat.reduceAdd, Nat.reduceSub, Nat.reduceMul, ↓reduceIte, eq_self, r1 _, r2 _, tn _]
theorem x_line (h4 : 402 ≤ h.1) (ho : o < 278 ∨ 299 < o) (C : cvX h cv P) (ha : a < 256) (hb : b < 256) (sd : rgS a b = true) (hP : ∀ j, j < rgN a b → P (rgC a b j)) (ha' : a' < 256) (hb' : b' < 256) (sd' : rgS a' b' = true) (hP' : ∀ j, j < rgN a' b' → P (rgC a' b' j)) (hl : st.length + 2 < 1024) (A0 : XS h g o rr sa dp ts σ) (Z0 : KZ g) (N0 : NS g (st ++ [v])) (kv : okV v) :
    ∃ g', am_run (d + 4) 49 [some (.ref 9), some (.int (nI (a + 256 * b))), some (.int (nI (a' + 256 * b'))), none, none, none, none] g none g' ∧ OPx h g' o rr sa dp ts st (evRows cv 7 (vD v) (rgL a b) (rgL a' b') σ) ∧ FA g g' := by
  obtain ⟨rp, N, Fp⟩ := x_popD (d := d + 2) A0.2.1 N0 (by omega)
  have A := XS_num A0 Fp
  have Z := KZ_fr Fp (by decide) Z0
  have FA0 : FA g (am_setI g 12 3 (nI st.length)) := FA_I (by omega)
  have S0 := A0.2.1
  have S := A.2.1
  have r64 := rgN_le sd
  have r64' := rgN_le sd'
  obtain ⟨g1, r1, A1, X1, FA1, M1⟩ := x_fill (d := d) h4 ho (Or.inl rfl : (20 = 20 ∨ 20 = 21)) C ha hb sd hP hl A Z N
  unfold evRows
  have S1 := A1.2.1
  match hv : evTab cv (rgL a b) [] σ, A1, M1 with
  | (.inr q, σ1), A1, ⟨L1, n1⟩ =>
    have fn := x_fillNo (d := d) S1 (Or.inr rfl : (21 = 20 ∨ 21 = 21)) L1 ha' hb' sd'
    have tb_ := x_tabBad (d := d + 3) (n := rgN a b) (m := rgN a' b') S1 L1
    refine ⟨g1, fun Q => ?_, ⟨A1, L1, n1⟩, FA_trans FA0 FA1⟩
    simp (disch := first | with_reducible assumption | omega | exact Or.inl rfl | exact Or.inr rfl | exact bI_01 | exact c_cat | exact vt_ref | exact vt_null | rfl | with_reducible repeat (first | assumption | omega | apply S_I | apply S_L | apply S_D | apply ob_I | apply ob_L | apply ob_D | apply ob_R | apply ax_I | apply ax_L | apply ax_D | apply ax_R | apply o303 | apply o307 | apply o302 | apply o301 | apply ax304 | apply ax305 | apply ax306 | apply ax308 | apply ax309 | apply ax310 | apply lt_S | apply ar305 | apply ar308 | apply ar309)) only [g49_0, g49_1, g49_4, g49_7, g49_8, g49_9, g49_10, g49_13, g49_14, g49_17, g49_19, g49_20, g49_22, g49_23, g49_24, g49_27, g49_28, g49_31, g49_34, g49_37, Option.toList, List.nil_append, List.cons_append, va_rf, nI_ltI, nI_leI, nI_eq, nI_add, nI_sub, nI_lt0, nI_e0, nI_m1, m1_nI, Nat.reduceEqDiff, Nat.reduceLT, Nat.reduceLeDiff, Nat.reduceAdd, Nat.reduceSub, Nat.reduceMul, ↓reduceIte, eq_self, rp _, r1 _, fn _, tb_ _]
  | (.inl la, σ1), A1, ⟨Z1, N1, D1⟩ =>
    have len1 := evTab_len _ _ _ _ _ hv
    rw [rgL_len, List.length_nil, Nat.zero_add] at len1
    obtain ⟨g2, r2, A2, X2, FA2, M2⟩ := x_fill (d := d) h4 ho (Or.inr rfl : (21 = 20 ∨ 21 = 21)) C ha' hb' sd' hP' hl A1 Z1 N1
    have S2 := A2.2.1
    have FA12 := FA_trans FA0 (FA_trans FA1 FA2)
    show ∃ g', _ ∧ OPx h g' o rr sa dp ts st (match evTab cv (rgL a' b') [] σ1 with
      | (.inr f, σ) => (.inr f, σ)
      | (.inl b, σ) => (tabV 7 (vD v) la b, σ)) ∧ _
    match hv2 : evTab cv (rgL a' b') [] σ1, A2, M2 with
    | (.inr q, σ2), A2, ⟨L2, n2⟩ =>
      have tb_ := x_tabBad (d := d + 3) (n := rgN a b) (m := rgN a' b') S2 L2
      refine ⟨g2, fun Q => ?_, ⟨A2, L2, n2⟩, FA12⟩
      simp (disch := first | with_reducible assumption | omega | exact Or.inl rfl | exact Or.inr rfl | exact bI_01 | exact c_cat | exact vt_ref | exact vt_null | rfl | with_reducible repeat (first | assumption | omega | apply S_I | apply S_L | apply S_D | apply ob_I | apply ob_L | apply ob_D | apply ob_R | apply ax_I | apply ax_L | apply ax_D | apply ax_R | apply o303 | apply o307 | apply o302 | apply o301 | apply ax304 | apply ax305 | apply ax306 | apply ax308 | apply ax309 | apply ax310 | apply lt_S | apply ar305 | apply ar308 | apply ar309)) only [g49_0, g49_1, g49_4, g49_7, g49_8, g49_9, g49_10, g49_13, g49_14, g49_17, g49_19, g49_20, g49_22, g49_23, g49_24, g49_27, g49_28, g49_31, g49_34, g49_37, Option.toList, List.nil_append, List.cons_append, va_rf, nI_ltI, nI_leI, nI_eq, nI_add, nI_sub, nI_lt0, nI_e0, nI_m1, m1_nI, Nat.reduceEqDiff, Nat.reduceLT, Nat.reduceLeDiff, Nat.reduceAdd, Nat.reduceSub, Nat.reduceMul, ↓reduceIte, eq_self, rp _, r1 _, r2 _, tb_ _]
    | (.inl lb, σ2), A2, ⟨Z2, N2, D2⟩ =>
      have len2 := evTab_len _ _ _ _ _ hv2
      rw [rgL_len, List.length_nil, Nat.zero_add] at len2
      have D1' : dA g2 20 la := fun j v hv => ⟨(X2 20 (Or.inl rfl) (by decide) j).trans (D1 j v hv).1, (D1 j v hv).2⟩
      show ∃ g', _ ∧ OPx h g' o rr sa dp ts st (tabV 7 (vD v) la lb, σ2) ∧ _
      unfold tabV
      by_cases c : la.length = lb.length ∧ 1 < la.length
      · have ty := x_tabYes (d := d + 3) (n := rgN a b) S2 Z2 (by omega) r64
        have e12 : rgN a' b' = rgN a b := by omega
        rw [e12] at r2
        have l0 : 0 < la.length := by omega
        have rs1 : rising la 1 = true := by rw [rising_s]; rfl
        obtain ⟨B1, B2⟩ := x_riseLoop (d := d + 4) (x := vD v) (r1 := nI (a + 256 * b)) (r2 := nI (a' + 256 * b')) S2 D1' (by omega) (la.length - 1) 1 rfl (Nat.le_refl _) (by omega) rs1
        cases hr : rising la la.length with
        | true =>
          rw [if_pos ⟨c.1, c.2, fun _ => rfl⟩, if_pos rfl]
          obtain ⟨g', q1, O1, F1⟩ := x_lineEnd (d := d + 1) (ra := nI (a + 256 * b)) (rb := nI (a' + 256 * b')) (v6 := some (.int (nI la.length))) A2 ho Z2 N2 (by omega) (ok_vD kv) D1' D2 c.1 c.2 (by omega) hr
          have B1 := B1 hr
          refine ⟨g', fun Q => ?_, O1, FA_trans FA12 F1⟩
          rw [← q1 Q, ← B1 Q, len1]
          simp (disch := first | with_reducible assumption | omega | exact Or.inl rfl | exact Or.inr rfl | exact bI_01 | exact c_cat | exact vt_ref | exact vt_null | rfl | with_reducible repeat (first | assumption | omega | apply S_I | apply S_L | apply S_D | apply ob_I | apply ob_L | apply ob_D | apply ob_R | apply ax_I | apply ax_L | apply ax_D | apply ax_R | apply o303 | apply o307 | apply o302 | apply o301 | apply ax304 | apply ax305 | apply ax306 | apply ax308 | apply ax309 | apply ax310 | apply lt_S | apply ar305 | apply ar308 | apply ar309)) only [g49_0, g49_1, g49_4, g49_7, g49_8, g49_9, g49_10, g49_13, g49_14, g49_17, g49_19, g49_20, g49_22, g49_23, g49_24, g49_27, g49_28, g49_31, g49_34, g49_37, g49_38, g49_39, Option.toList, List.nil_append, List.cons_append, va_rf, nI_ltI, nI_leI, nI_eq, nI_add, nI_sub, nI_lt0, nI_e0, nI_m1, m1_nI, Nat.reduceEqDiff, Nat.reduceLT, Nat.reduceLeDiff, Nat.reduceAdd, Nat.reduceSub, Nat.reduceMul, ↓reduceIte, eq_self, rp _, r1 _, r2 _, ty _]
        | false =>
          rw [if_neg (fun q => by have := q.2.2 rfl; cases this)]
          have B2 := B2 hr
          refine ⟨_, fun Q => ?_, OPx_F A2 ho Z2 N2.2 (by decide) (by decide), FA_trans FA12 (FA_I (by omega))⟩
          rw [← B2 Q, len1]
          simp (disch := first | with_reducible assumption | omega | exact Or.inl rfl | exact Or.inr rfl | exact bI_01 | exact c_cat | exact vt_ref | exact vt_null | rfl | with_reducible repeat (first | assumption | omega | apply S_I | apply S_L | apply S_D | apply ob_I | apply ob_L | apply ob_D | apply ob_R | apply ax_I | apply ax_L | apply ax_D | apply ax_R | apply o303 | apply o307 | apply o302 | apply o301 | apply ax304 | apply ax305 | apply ax306 | apply ax308 | apply ax309 | apply ax310 | apply lt_S | apply ar305 | apply ar308 | apply ar309)) only [g49_0, g49_1, g49_4, g49_7, g49_8, g49_9, g49_10, g49_13, g49_14, g49_17, g49_19, g49_20, g49_22, g49_23, g49_24, g49_27, g49_28, g49_31, g49_34, g49_37, g49_38, g49_39, Option.toList, List.nil_append, List.cons_append, va_rf, nI_ltI, nI_leI, nI_eq, nI_add, nI_sub, nI_lt0, nI_e0, nI_m1, m1_nI, Nat.reduceEqDiff, Nat.reduceLT, Nat.reduceLeDiff, Nat.reduceAdd, Nat.reduceSub, Nat.reduceMul, ↓reduceIte, eq_self, rp _, r1 _, r2 _, ty _]
      · rw [if_neg (fun q => c ⟨q.1, q.2.1⟩)]
        have tn := x_tabNo (d := d + 3) (n := rgN a b) (m := rgN a' b') S2 Z2 r64 r64' (by rw [← len1, ← len2]; exact c)
        refine ⟨_, fun Q => ?_, OPx_F A2 ho Z2 N2.2 (by decide) (by decide), FA_trans FA12 (FA_I (by omega))⟩
        simp (disch := first | with_reducible assumption | omega | exact Or.inl rfl | exact Or.inr rfl | exact bI_01 | exact c_cat | exact vt_ref | exact vt_null | rfl | with_reducible repeat (first | assumption | omega | apply S_I | apply S_L | apply S_D | apply ob_I | apply ob_L | apply ob_D | apply ob_R | apply ax_I | apply ax_L | apply ax_D | apply ax_R | apply o303 | apply o307 | apply o302 | apply o301 | apply ax304 | apply ax305 | apply ax306 | apply ax308 | apply ax309 | apply ax310 | apply lt_S | apply ar305 | apply ar308 | apply ar309)) only [g49_0, g49_1, g49_4, g49_7, g49_8, g49_9, g49_10, g49_13, g49_14, g49_17, g49_19, g49_20, g49_22, g49_23, g49_24, g49_27, g49_28, g49_31, g49_34, g49_37, Option.toList, List.nil_append, List.cons_append, va_rf, nI_ltI, nI_leI, nI_eq, nI_add, nI_sub, nI_lt0, nI_e0, nI_m1, m1_nI, Nat.reduceEqDiff, Nat.reduceLT, Nat.reduceLeDiff, Nat.reduceAdd, Nat.reduceSub, Nat.reduceMul, ↓reduceIte, eq_self, rp _, r1 _, r2 _, tn _]
end XAR

/-! THE MODEL'S LEXER: signs, next -/
section LEXM2
variable {d : Nat} {h : am_H} {Q : Option Value → am_H → Prop} {v0 v1 v2 v3 : Option Value} {t : Nat → Nat} {n p q : Nat}
/-- a fault of signs -/
theorem m_signsB (S : am_S h) (T : mT h t n) (N : am_I h 349 17 = nI q) (P : am_I h 349 19 = nI q) (hq : q < n) (hs : lx_sg (t q) = false) (F : am_I h 349 22 = nI 0) (hK : lx_K t n q = 263) : ∃ h', am_run (d + 2) 199 [some (.ref 349), some (.int (nI (t q))), none] h none h' ∧ am_fr (fun a => a = 349) h h' ∧ MA h h' t n q := by
  have h240 := T.2.1
  have tq := T.2.2 q hq
  have hm : ¬ t q ∈ [37, 40, 41, 42, 43, 44, 45, 47, 58, 60, 61] := of_decide_eq_false hs
  simp only [List.mem_cons, List.not_mem_nil, or_false, not_or] at hm
  obtain ⟨n1, n2, n3, n4, n5, n6, n7, n8, n9, n10, n11⟩ := hm
  by_cases c : t q = 76 ∨ t q = 78
  · rcases c with c | c
    all_goals
      apply Exists.intro
      refine ⟨fun Q => ?_, ?_, ?_⟩
      · simp (disch := first | with_reducible assumption | omega | exact Or.inl rfl | exact Or.inr rfl | exact bI_01 | exact c_cat | rfl | with_reducible repeat (first | assumption | apply S_I | apply S_L | apply S_D | apply ob_I | apply ob_L | apply ob_D | apply ob_R | apply ax_I | apply ax_L | apply ax_D | apply ax_R)) only [g199_0, g199_1, g199_2, g199_5, g199_6, g199_7, g199_10, g199_11, g199_12, g199_15, g199_16, g199_17, g199_20, g199_21, g199_23, g199_26, g199_27, g199_28, g199_31, g199_34, g199_36, g199_39, g199_40, g199_42, g199_45, g199_48, g199_49, g199_51, g199_54, g199_55, g199_56, g199_59, g199_62, g199_64, g199_67, g199_68, g199_70, g199_73, g199_74, g199_77, g199_79, g199_82, g199_83, g199_86, g199_88, g199_91, g199_92, g199_93, g199_96, g199_97, g199_98, g199_101, g199_102, g199_104, g199_107, g199_108, g199_110, g199_113, g199_114, g199_116, g199_119, g199_120, g199_122, g199_125, g199_126, g199_128, g199_131, g199_132, g199_134, g199_137, g199_138, g199_140, g199_143, g199_144, g199_146, g199_149, g199_150, g199_152, g199_155, g199_156, g199_158, g199_161, g199_162, g199_164, g199_167, g199_168, g199_171, g199_172, g199_173, g199_174, g199_177, g199_178, g199_179, g199_180, g199_183, g199_186, g196_0, g196_1, g196_4, g196_7, g196_8, g196_9, g196_10, g196_13, g196_14, g196_15, g196_18, N, P, F, hI_I, hI_L, hI_D, hI_R, hL_I, hL_L, hL_D, hL_R, hD_I, hD_L, hD_D, hD_R, hR_I, hR_L, hR_D, ↓reduceIte, Nat.reduceEqDiff, Option.toList, List.nil_append, List.cons_append, va_rf, nI_add, nI_eq, nI_e0, Nat.reduceEqDiff, ↓reduceIte, c]
        exact Iff.rfl
      · exact fr_I (fr_I (fr_I (fr_I (fr_I (fr_I fr_refl rfl) rfl) rfl) rfl) rfl) rfl
      · refine ⟨fun q => absurd hK q, fun _ => ?_, ?_, fun _ => rfl⟩
        · simp only [MB, hI_I, hI_L, hI_D, hI_R, hL_I, hL_L, hL_D, hL_R, hD_I, hD_L, hD_D, hD_R, hR_I, hR_L, hR_D, ↓reduceIte, Nat.reduceEqDiff, P, true_and]
          exact ⟨q, _, 5, by omega, rfl, by omega, show q + 1 + 1 ≤ n + 1 by omega, rfl, by decide, rfl, by omega⟩
        · exact MA_k (MA_k (MA_k (MA_k (MA_k (MA_k (fun _ _ _ _ => rfl) (by omega)) (by omega)) (by omega)) (by omega)) (by omega)) (by omega)
  · rw [not_or] at c
    obtain ⟨c1, c2⟩ := c
    apply Exists.intro
    refine ⟨fun Q => ?_, ?_, ?_⟩
    · simp (disch := first | with_reducible assumption | omega | exact Or.inl rfl | exact Or.inr rfl | exact bI_01 | exact c_cat | rfl | with_reducible repeat (first | assumption | apply S_I | apply S_L | apply S_D | apply ob_I | apply ob_L | apply ob_D | apply ob_R | apply ax_I | apply ax_L | apply ax_D | apply ax_R)) only [g199_0, g199_1, g199_2, g199_5, g199_6, g199_7, g199_10, g199_11, g199_12, g199_15, g199_16, g199_17, g199_20, g199_21, g199_23, g199_26, g199_27, g199_28, g199_31, g199_34, g199_36, g199_39, g199_40, g199_42, g199_45, g199_48, g199_49, g199_51, g199_54, g199_55, g199_56, g199_59, g199_62, g199_64, g199_67, g199_68, g199_70, g199_73, g199_74, g199_77, g199_79, g199_82, g199_83, g199_86, g199_88, g199_91, g199_92, g199_93, g199_96, g199_97, g199_98, g199_101, g199_102, g199_104, g199_107, g199_108, g199_110, g199_113, g199_114, g199_116, g199_119, g199_120, g199_122, g199_125, g199_126, g199_128, g199_131, g199_132, g199_134, g199_137, g199_138, g199_140, g199_143, g199_144, g199_146, g199_149, g199_150, g199_152, g199_155, g199_156, g199_158, g199_161, g199_162, g199_164, g199_167, g199_168, g199_171, g199_172, g199_173, g199_174, g199_177, g199_178, g199_179, g199_180, g199_183, g199_186, g196_0, g196_1, g196_4, g196_7, g196_8, g196_9, g196_10, g196_13, g196_14, g196_15, g196_18, N, P, F, hI_I, hI_L, hI_D, hI_R, hL_I, hL_L, hL_D, hL_R, hD_I, hD_L, hD_D, hD_R, hR_I, hR_L, hR_D, ↓reduceIte, Nat.reduceEqDiff, Option.toList, List.nil_append, List.cons_append, va_rf, nI_add, nI_eq, nI_e0, Nat.reduceEqDiff, ↓reduceIte, n1, n2, n3, n4, n5, n6, n7, n8, n9, n10, n11, c1, c2]
      exact Iff.rfl
    · exact fr_I (fr_I (fr_I (fr_I (fr_I fr_refl rfl) rfl) rfl) rfl) rfl
    · refine ⟨fun q => absurd hK q, fun _ => ?_, ?_, fun _ => rfl⟩
      · simp only [MB, hI_I, hI_L, hI_D, hI_R, hL_I, hL_L, hL_D, hL_R, hD_I, hD_L, hD_D, hD_R, hR_I, hR_L, hR_D, ↓reduceIte, Nat.reduceEqDiff, P, true_and]
        exact ⟨q, _, 5, by omega, rfl, by omega, show q + 1 ≤ n + 1 by omega, rfl, by decide, rfl, by omega⟩
      · exact MA_k (MA_k (MA_k (MA_k (MA_k (fun _ _ _ _ => rfl) (by omega)) (by omega)) (by omega)) (by omega)) (by omega)
theorem m_signs (S : am_S h) (T : mT h t n) (N : am_I h 349 17 = nI q) (P : am_I h 349 19 = nI q) (hq : q < n) (hl : isL (t q) = false) (hg : isG (t q) = false) (hA : ¬ (65 ≤ t q ∧ t q ≤ 68)) (F : am_I h 349 22 = nI 0) : ∃ h', am_run (d + 2) 199 [some (.ref 349), some (.int (nI (t q))), none] h none h' ∧ am_fr (fun a => a = 349) h h' ∧ MA h h' t n q := by
  have h240 := T.2.1
  have hKq : ¬ n ≤ q := by omega
  have tq := T.2.2 q hq
  have b1 := mA_256 T (q + 1)
  have T1 : mT (am_setI (am_setI (am_setI h 349 18 (nI 5)) 349 20 (nI (t q))) 349 17 (nI (q + 1))) t n := mT_I (mT_I (mT_I T (by decide)) (by decide)) (by decide)
  by_cases h60 : t q = 60
  · rw [h60] at T1
    by_cases h61 : q + 1 < n ∧ t (q + 1) = 61
    · have hK : lx_K t n q = 256 := by simp only [lx_K, hKq, hl, hg, hA, h60, h61, and_self, ↓reduceIte, Bool.false_eq_true]; rfl
      have hE : lx_E t n q = q + 2 := by simp only [lx_E, hKq, hl, hg, hA, h60, h61, and_self, ↓reduceIte, Bool.false_eq_true, true_or]; rfl
      apply Exists.intro
      refine ⟨fun Q => ?_, ?_, ?_⟩
      · simp (disch := first | with_reducible assumption | omega | exact Or.inl rfl | exact Or.inr rfl | exact bI_01 | exact c_cat | rfl | with_reducible repeat (first | assumption | apply S_I | apply S_L | apply S_D | apply ob_I | apply ob_L | apply ob_D | apply ob_R | apply ax_I | apply ax_L | apply ax_D | apply ax_R)) only [g199_0, g199_1, g199_2, g199_5, g199_6, g199_7, g199_10, g199_11, g199_12, g199_15, g199_16, g199_17, g199_20, g199_21, g199_23, g199_26, g199_27, g199_28, g199_31, g199_34, g199_36, g199_39, g199_40, g199_42, g199_45, g199_48, g199_49, g199_51, g199_54, g199_55, g199_56, g199_59, g199_62, g199_64, g199_67, g199_68, g199_70, g199_73, g199_74, g199_77, g199_79, g199_82, g199_83, g199_86, g199_88, g199_91, g199_92, g199_93, g199_96, g199_97, g199_98, g199_101, g199_102, g199_104, g199_107, g199_108, g199_110, g199_113, g199_114, g199_116, g199_119, g199_120, g199_122, g199_125, g199_126, g199_128, g199_131, g199_132, g199_134, g199_137, g199_138, g199_140, g199_143, g199_144, g199_146, g199_149, g199_150, g199_152, g199_155, g199_156, g199_158, g199_161, g199_162, g199_164, g199_167, g199_168, g199_171, g199_172, g199_173, g199_174, g199_177, g199_178, g199_179, g199_180, g199_183, g199_186, N, P, F, hI_I, hI_L, hI_D, hI_R, hL_I, hL_L, hL_D, hL_R, hD_I, hD_L, hD_D, hD_R, hR_I, hR_L, hR_D, ↓reduceIte, Nat.reduceEqDiff, Option.toList, List.nil_append, List.cons_append, va_rf, m_byteAt, T1, nI_ltI, nI_leI, nI_eq, nI_add, nI_sub, nI_lt0, nI_e0, nI_m1, m1_nI, Nat.reduceEqDiff, Nat.reduceLT, Nat.reduceLeDiff, Nat.reduceAdd, Nat.reduceSub, Nat.reduceMul, ↓reduceIte, eq_self, h60, mA_lt h61.1, h61.2]
        exact Iff.rfl
      · exact fr_I (fr_I (fr_I (fr_I (fr_I fr_refl rfl) rfl) rfl) rfl) rfl
      · refine ⟨fun _ => ?_, fun q => absurd (hK.symm.trans q) (by decide), MA_k (MA_k (MA_k (MA_k (MA_k (fun _ _ _ _ => rfl) (by omega)) (by omega)) (by omega)) (by omega)) (by omega), fun _ => rfl⟩
        simp only [LM, hI_I, hI_L, hI_D, hI_R, hL_I, hL_L, hL_D, hL_R, hD_I, hD_L, hD_D, hD_R, hR_I, hR_L, hR_D, ↓reduceIte, Nat.reduceEqDiff, hK, hE, P, F, mtok, msgn, true_and, true_implies, and_true, Nat.reduceEqDiff, Nat.add_assoc, Nat.reduceAdd]
    · by_cases h62 : q + 1 < n ∧ t (q + 1) = 62
      · have hK : lx_K t n q = 257 := by simp only [lx_K, hKq, hl, hg, hA, h60, h62, and_self, ↓reduceIte, Bool.false_eq_true, Nat.reduceEqDiff, and_false]; rfl
        have hE : lx_E t n q = q + 2 := by simp only [lx_E, hKq, hl, hg, hA, h60, h62, and_self, ↓reduceIte, Bool.false_eq_true, or_true]; rfl
        apply Exists.intro
        refine ⟨fun Q => ?_, ?_, ?_⟩
        · simp (disch := first | with_reducible assumption | omega | exact Or.inl rfl | exact Or.inr rfl | exact bI_01 | exact c_cat | rfl | with_reducible repeat (first | assumption | apply S_I | apply S_L | apply S_D | apply ob_I | apply ob_L | apply ob_D | apply ob_R | apply ax_I | apply ax_L | apply ax_D | apply ax_R)) only [g199_0, g199_1, g199_2, g199_5, g199_6, g199_7, g199_10, g199_11, g199_12, g199_15, g199_16, g199_17, g199_20, g199_21, g199_23, g199_26, g199_27, g199_28, g199_31, g199_34, g199_36, g199_39, g199_40, g199_42, g199_45, g199_48, g199_49, g199_51, g199_54, g199_55, g199_56, g199_59, g199_62, g199_64, g199_67, g199_68, g199_70, g199_73, g199_74, g199_77, g199_79, g199_82, g199_83, g199_86, g199_88, g199_91, g199_92, g199_93, g199_96, g199_97, g199_98, g199_101, g199_102, g199_104, g199_107, g199_108, g199_110, g199_113, g199_114, g199_116, g199_119, g199_120, g199_122, g199_125, g199_126, g199_128, g199_131, g199_132, g199_134, g199_137, g199_138, g199_140, g199_143, g199_144, g199_146, g199_149, g199_150, g199_152, g199_155, g199_156, g199_158, g199_161, g199_162, g199_164, g199_167, g199_168, g199_171, g199_172, g199_173, g199_174, g199_177, g199_178, g199_179, g199_180, g199_183, g199_186, N, P, F, hI_I, hI_L, hI_D, hI_R, hL_I, hL_L, hL_D, hL_R, hD_I, hD_L, hD_D, hD_R, hR_I, hR_L, hR_D, ↓reduceIte, Nat.reduceEqDiff, Option.toList, List.nil_append, List.cons_append, va_rf, m_byteAt, T1, nI_ltI, nI_leI, nI_eq, nI_add, nI_sub, nI_lt0, nI_e0, nI_m1, m1_nI, Nat.reduceEqDiff, Nat.reduceLT, Nat.reduceLeDiff, Nat.reduceAdd, Nat.reduceSub, Nat.reduceMul, ↓reduceIte, eq_self, h60, mA_lt h62.1, h62.2]
          exact Iff.rfl
        · exact fr_I (fr_I (fr_I (fr_I (fr_I fr_refl rfl) rfl) rfl) rfl) rfl
        · refine ⟨fun _ => ?_, fun q => absurd (hK.symm.trans q) (by decide), MA_k (MA_k (MA_k (MA_k (MA_k (fun _ _ _ _ => rfl) (by omega)) (by omega)) (by omega)) (by omega)) (by omega), fun _ => rfl⟩
          simp only [LM, hI_I, hI_L, hI_D, hI_R, hL_I, hL_L, hL_D, hL_R, hD_I, hD_L, hD_D, hD_R, hR_I, hR_L, hR_D, ↓reduceIte, Nat.reduceEqDiff, hK, hE, P, F, mtok, msgn, true_and, true_implies, and_true, Nat.reduceEqDiff, Nat.add_assoc, Nat.reduceAdd]
      · have hK : lx_K t n q = 60 := by simp only [lx_K, hKq, hl, hg, hA, h60, h61, h62, and_false, ↓reduceIte, Bool.false_eq_true]; rfl
        have hE : lx_E t n q = q + 1 := by
          have : ¬ (q + 1 < n ∧ (t (q + 1) = 61 ∨ t (q + 1) = 62)) := fun x => x.2.elim (fun y => h61 ⟨x.1, y⟩) (fun y => h62 ⟨x.1, y⟩)
          simp only [lx_E, hKq, hl, hg, hA, h60, this, and_false, ↓reduceIte, Bool.false_eq_true]; rfl
        have f1 : ¬ mA t n (q + 1) = 61 := fun e => by
          by_cases c : q + 1 < n
          · rw [mA_lt c] at e; exact h61 ⟨c, e⟩
          · rw [mA_ge (by omega)] at e; exact absurd e (by decide)
        have f2 : ¬ mA t n (q + 1) = 62 := fun e => by
          by_cases c : q + 1 < n
          · rw [mA_lt c] at e; exact h62 ⟨c, e⟩
          · rw [mA_ge (by omega)] at e; exact absurd e (by decide)
        apply Exists.intro
        refine ⟨fun Q => ?_, ?_, ?_⟩
        · simp (disch := first | with_reducible assumption | omega | exact Or.inl rfl | exact Or.inr rfl | exact bI_01 | exact c_cat | rfl | with_reducible repeat (first | assumption | apply S_I | apply S_L | apply S_D | apply ob_I | apply ob_L | apply ob_D | apply ob_R | apply ax_I | apply ax_L | apply ax_D | apply ax_R)) only [g199_0, g199_1, g199_2, g199_5, g199_6, g199_7, g199_10, g199_11, g199_12, g199_15, g199_16, g199_17, g199_20, g199_21, g199_23, g199_26, g199_27, g199_28, g199_31, g199_34, g199_36, g199_39, g199_40, g199_42, g199_45, g199_48, g199_49, g199_51, g199_54, g199_55, g199_56, g199_59, g199_62, g199_64, g199_67, g199_68, g199_70, g199_73, g199_74, g199_77, g199_79, g199_82, g199_83, g199_86, g199_88, g199_91, g199_92, g199_93, g199_96, g199_97, g199_98, g199_101, g199_102, g199_104, g199_107, g199_108, g199_110, g199_113, g199_114, g199_116, g199_119, g199_120, g199_122, g199_125, g199_126, g199_128, g199_131, g199_132, g199_134, g199_137, g199_138, g199_140, g199_143, g199_144, g199_146, g199_149, g199_150, g199_152, g199_155, g199_156, g199_158, g199_161, g199_162, g199_164, g199_167, g199_168, g199_171, g199_172, g199_173, g199_174, g199_177, g199_178, g199_179, g199_180, g199_183, g199_186, N, P, F, hI_I, hI_L, hI_D, hI_R, hL_I, hL_L, hL_D, hL_R, hD_I, hD_L, hD_D, hD_R, hR_I, hR_L, hR_D, ↓reduceIte, Nat.reduceEqDiff, Option.toList, List.nil_append, List.cons_append, va_rf, m_byteAt, T1, nI_ltI, nI_leI, nI_eq, nI_add, nI_sub, nI_lt0, nI_e0, nI_m1, m1_nI, Nat.reduceEqDiff, Nat.reduceLT, Nat.reduceLeDiff, Nat.reduceAdd, Nat.reduceSub, Nat.reduceMul, ↓reduceIte, eq_self, h60, f1, f2]
          exact Iff.rfl
        · exact fr_I (fr_I (fr_I fr_refl rfl) rfl) rfl
        · refine ⟨fun _ => ?_, fun q => absurd (hK.symm.trans q) (by decide), MA_k (MA_k (MA_k (fun _ _ _ _ => rfl) (by omega)) (by omega)) (by omega), fun _ => rfl⟩
          simp only [LM, hI_I, hI_L, hI_D, hI_R, hL_I, hL_L, hL_D, hL_R, hD_I, hD_L, hD_D, hD_R, hR_I, hR_L, hR_D, ↓reduceIte, Nat.reduceEqDiff, hK, hE, P, F, mtok, msgn, true_and, true_implies, and_true, Nat.reduceEqDiff]
  · have hE : lx_E t n q = q + 1 := by simp only [lx_E, hKq, hl, hg, hA, h60, false_and, ↓reduceIte, Bool.false_eq_true]
    have hK : lx_K t n q = if lx_sg (t q) = true then t q else 263 := by simp only [lx_K, hKq, hl, hg, hA, h60, false_and, ↓reduceIte, Bool.false_eq_true]
    cases hs : lx_sg (t q) with
    | true =>
      rw [hs, if_pos rfl] at hK
      have hm : t q ∈ [37, 40, 41, 42, 43, 44, 45, 47, 58, 60, 61] := of_decide_eq_true hs
      simp only [List.mem_cons, List.not_mem_nil, or_false] at hm
      refine ⟨am_setI (am_setI (am_setI h 349 18 (nI 5)) 349 20 (nI (t q))) 349 17 (nI (q + 1)), fun Q => ?_, ?_, ?_⟩
      · rcases hm with e | e | e | e | e | e | e | e | e | e | e <;> simp (disch := first | with_reducible assumption | omega | exact Or.inl rfl | exact Or.inr rfl | exact bI_01 | exact c_cat | rfl | with_reducible repeat (first | assumption | apply S_I | apply S_L | apply S_D | apply ob_I | apply ob_L | apply ob_D | apply ob_R | apply ax_I | apply ax_L | apply ax_D | apply ax_R)) only [g199_0, g199_1, g199_2, g199_5, g199_6, g199_7, g199_10, g199_11, g199_12, g199_15, g199_16, g199_17, g199_20, g199_21, g199_23, g199_26, g199_27, g199_28, g199_31, g199_34, g199_36, g199_39, g199_40, g199_42, g199_45, g199_48, g199_49, g199_51, g199_54, g199_55, g199_56, g199_59, g199_62, g199_64, g199_67, g199_68, g199_70, g199_73, g199_74, g199_77, g199_79, g199_82, g199_83, g199_86, g199_88, g199_91, g199_92, g199_93, g199_96, g199_97, g199_98, g199_101, g199_102, g199_104, g199_107, g199_108, g199_110, g199_113, g199_114, g199_116, g199_119, g199_120, g199_122, g199_125, g199_126, g199_128, g199_131, g199_132, g199_134, g199_137, g199_138, g199_140, g199_143, g199_144, g199_146, g199_149, g199_150, g199_152, g199_155, g199_156, g199_158, g199_161, g199_162, g199_164, g199_167, g199_168, g199_171, g199_172, g199_173, g199_174, g199_177, g199_178, g199_179, g199_180, g199_183, g199_186, N, P, F, hI_I, hI_L, hI_D, hI_R, hL_I, hL_L, hL_D, hL_R, hD_I, hD_L, hD_D, hD_R, hR_I, hR_L, hR_D, ↓reduceIte, Nat.reduceEqDiff, Option.toList, List.nil_append, List.cons_append, va_rf, nI_ltI, nI_leI, nI_eq, nI_add, nI_sub, nI_lt0, nI_e0, nI_m1, m1_nI, Nat.reduceEqDiff, Nat.reduceLT, Nat.reduceLeDiff, Nat.reduceAdd, Nat.reduceSub, Nat.reduceMul, ↓reduceIte, eq_self, e]
        omega
      · exact fr_I (fr_I (fr_I fr_refl rfl) rfl) rfl
      · refine ⟨fun _ => ?_, fun q => absurd (hK.symm.trans q) (by omega), MA_k (MA_k (MA_k (fun _ _ _ _ => rfl) (by omega)) (by omega)) (by omega), fun _ => rfl⟩
        have e5 : mtok (t q) = 5 := by simp only [mtok, show t q ≠ 262 by omega, show t q ≠ 258 by omega, show t q ≠ 259 by omega, show t q ≠ 260 by omega, show t q ≠ 261 by omega, ↓reduceIte]
        have es : msgn (t q) = t q := by simp only [msgn, show t q ≠ 256 by omega, show t q ≠ 257 by omega, ↓reduceIte]
        simp only [LM, hI_I, hI_L, hI_D, hI_R, hL_I, hL_L, hL_D, hL_R, hD_I, hD_L, hD_D, hD_R, hR_I, hR_L, hR_D, ↓reduceIte, Nat.reduceEqDiff, hK, hE, P, F, e5, es, true_and, true_implies, and_true, Nat.reduceEqDiff]
    | false =>
      rw [hs] at hK
      simp only [Bool.false_eq_true, ↓reduceIte] at hK
      exact m_signsB S T N P hq hs F hK
theorem MA_h {h0 h' : am_H} (h22 : am_I h 349 22 = am_I h0 349 22) (h4 : am_I h 349 4 = am_I h0 349 4) (hk : ∀ k, k ≠ 4 → (k < 17 ∨ 20 < k) → k ≠ 22 → am_I h 349 k = am_I h0 349 k) (hL : ∀ k, am_L h 349 k = am_L h0 349 k) (A : MA h h' t n q) : MA h0 h' t n q := ⟨fun k => by rw [← h22, ← h4]; exact A.1 k, A.2.1, fun k a b c => (A.2.2.1 k a b c).trans (hk k a b c), fun k => (A.2.2.2 k).trans (hL k)⟩
theorem m_next (S : am_S h) (T : mT h t n) (N : am_I h 349 17 = nI p) (hp : p ≤ n) (F : am_I h 349 22 = nI 0) : ∃ h', am_run (d + 3) 193 [some (.ref 349), v1] h none h' ∧ am_fr (fun a => a = 349) h h' ∧ MA h h' t n (lx_q t n p) := by
  have h240 := T.2.1
  have l2 : lx_q t n p ≤ n := scan_le hp
  have hL := T.1
  have T1 : mT (am_setI (am_setI h 349 17 (nI (lx_q t n p))) 349 19 (nI (lx_q t n p))) t n := mT_I (mT_I T (by decide)) (by decide)
  have S1 : am_S (am_setI (am_setI h 349 17 (nI (lx_q t n p))) 349 19 (nI (lx_q t n p))) := S_I (S_I S)
  have F1 : am_fr (fun a => a = 349) h (am_setI (am_setI h 349 17 (nI (lx_q t n p))) 349 19 (nI (lx_q t n p))) := fr_I (fr_I fr_refl rfl) rfl
  have k1 : ∀ k, k ≠ 4 → (k < 17 ∨ 20 < k) → k ≠ 22 → am_I (am_setI (am_setI h 349 17 (nI (lx_q t n p))) 349 19 (nI (lx_q t n p))) 349 k = am_I h 349 k := MA_k (MA_k (fun _ _ _ _ => rfl) (by omega)) (by omega)
  have N1 : am_I (am_setI (am_setI h 349 17 (nI (lx_q t n p))) 349 19 (nI (lx_q t n p))) 349 17 = nI (lx_q t n p) := by simp only [hI_I, hI_L, hI_D, hI_R, hL_I, hL_L, hL_D, hL_R, hD_I, hD_L, hD_D, hD_R, hR_I, hR_L, hR_D, ↓reduceIte, Nat.reduceEqDiff]
  have P1 : am_I (am_setI (am_setI h 349 17 (nI (lx_q t n p))) 349 19 (nI (lx_q t n p))) 349 19 = nI (lx_q t n p) := by simp only [hI_I, hI_L, hI_D, hI_R, hL_I, hL_L, hL_D, hL_R, hD_I, hD_L, hD_D, hD_R, hR_I, hR_L, hR_D, ↓reduceIte, Nat.reduceEqDiff]
  have L1 : am_I (am_setI (am_setI h 349 17 (nI (lx_q t n p))) 349 19 (nI (lx_q t n p))) 349 21 = nI n := by simp only [hI_I, hI_L, hI_D, hI_R, hL_I, hL_L, hL_D, hL_R, hD_I, hD_L, hD_D, hD_R, hR_I, hR_L, hR_D, ↓reduceIte, Nat.reduceEqDiff, hL]
  have E22 : am_I (am_setI (am_setI h 349 17 (nI (lx_q t n p))) 349 19 (nI (lx_q t n p))) 349 22 = am_I h 349 22 := by simp only [hI_I, hI_L, hI_D, hI_R, hL_I, hL_L, hL_D, hL_R, hD_I, hD_L, hD_D, hD_R, hR_I, hR_L, hR_D, ↓reduceIte, Nat.reduceEqDiff]
  have E4 : am_I (am_setI (am_setI h 349 17 (nI (lx_q t n p))) 349 19 (nI (lx_q t n p))) 349 4 = am_I h 349 4 := by simp only [hI_I, hI_L, hI_D, hI_R, hL_I, hL_L, hL_D, hL_R, hD_I, hD_L, hD_D, hD_R, hR_I, hR_L, hR_D, ↓reduceIte, Nat.reduceEqDiff]
  have kL : ∀ k, am_L (am_setI (am_setI h 349 17 (nI (lx_q t n p))) 349 19 (nI (lx_q t n p))) 349 k = am_L h 349 k := fun _ => rfl
  have F8 := E22.trans F
  have b0 := mA_256 T (lx_q t n p)
  have W : ∀ Q, am_J (d + 3) 193 0 [some (.ref 349), v1] [] h Q ↔ am_J (d + 3) 193 51 [some (.ref 349), some (.int (nI (mA t n (lx_q t n p))))] [] (am_setI (am_setI h 349 17 (nI (lx_q t n p))) 349 19 (nI (lx_q t n p))) Q := by
    intro Q
    have W : am_J (d + 3) 193 0 [some (.ref 349), v1] [] h Q ↔ am_J (d + 3) 193 8 [some (.ref 349), v1] [] h Q := by
      simp (disch := first | with_reducible assumption | omega | exact Or.inl rfl | exact Or.inr rfl | exact bI_01 | exact c_cat | rfl | with_reducible repeat (first | assumption | apply S_I | apply S_L | apply S_D | apply ob_I | apply ob_L | apply ob_D | apply ob_R | apply ax_I | apply ax_L | apply ax_D | apply ax_R)) only [g193_0, g193_1, g193_4, g193_7, F, nI_ltI, nI_leI, nI_eq, nI_add, nI_sub, nI_lt0, nI_e0, nI_m1, m1_nI, Nat.reduceEqDiff, Nat.reduceLT, Nat.reduceLeDiff, Nat.reduceAdd, Nat.reduceSub, Nat.reduceMul, ↓reduceIte, eq_self]
    rw [W, m_skip _ p h rfl hp S T N]
    simp (disch := first | with_reducible assumption | omega | exact Or.inl rfl | exact Or.inr rfl | exact bI_01 | exact c_cat | rfl | with_reducible repeat (first | assumption | apply S_I | apply S_L | apply S_D | apply ob_I | apply ob_L | apply ob_D | apply ob_R | apply ax_I | apply ax_L | apply ax_D | apply ax_R)) only [g193_34, g193_35, g193_36, g193_39, g193_42, g193_43, g193_44, g193_47, g193_50, Option.toList, List.nil_append, List.cons_append, va_rf, hI_I, hI_L, hI_D, hI_R, hL_I, hL_L, hL_D, hL_R, hD_I, hD_L, hD_D, hD_R, hR_I, hR_L, hR_D, ↓reduceIte, Nat.reduceEqDiff, m_byteAt, T1]
  generalize hq : lx_q t n p = q at *
  generalize am_setI (am_setI h 349 17 (nI q)) 349 19 (nI q) = g at *
  by_cases hn : n ≤ q
  · have hK : lx_K t n q = 262 := if_pos hn
    have hE : lx_E t n q = q := if_pos hn
    apply Exists.intro
    refine ⟨fun Q => ?_, ?_, ?_⟩
    · rw [W]
      simp (disch := first | with_reducible assumption | omega | exact Or.inl rfl | exact Or.inr rfl | exact bI_01 | exact c_cat | rfl | with_reducible repeat (first | assumption | apply S_I | apply S_L | apply S_D | apply ob_I | apply ob_L | apply ob_D | apply ob_R | apply ax_I | apply ax_L | apply ax_D | apply ax_R)) only [g193_51, g193_52, g193_55, g193_56, g193_59, g193_62, g193_63, g193_64, g193_67, g193_244, N1, L1, nI_ltI, nI_leI, nI_eq, nI_add, nI_sub, nI_lt0, nI_e0, nI_m1, m1_nI, Nat.reduceEqDiff, Nat.reduceLT, Nat.reduceLeDiff, Nat.reduceAdd, Nat.reduceSub, Nat.reduceMul, ↓reduceIte, eq_self, show ¬ q < n by omega]
      exact Iff.rfl
    · exact fr_I F1 rfl
    · refine ⟨fun _ => ?_, fun q => absurd (hK.symm.trans q) (by decide), MA_k k1 (by omega), kL⟩
      simp only [LM, hI_I, hI_L, hI_D, hI_R, hL_I, hL_L, hL_D, hL_R, hD_I, hD_L, hD_D, hD_R, hR_I, hR_L, hR_D, ↓reduceIte, Nat.reduceEqDiff, hK, hE, N1, P1, E22, E4, mtok, true_and, false_implies, and_true, Nat.reduceEqDiff]
  · have hqn : q < n := by omega
    have tq := T.2.2 q hqn
    rw [mA_lt hqn] at W b0
    cases hl : isL (t q) with
    | true =>
      have l1 : q ≤ lx_L t n q := scan_ge
      have l2 : lx_L t n q ≤ n := scan_le (by omega)
      have hK : lx_K t n q = if 8 < lx_L t n q - q then 263 else 258 := by simp only [lx_K, hn, hl, ↓reduceIte]
      have hE : lx_E t n q = lx_L t n q := by simp only [lx_E, hn, hl, ↓reduceIte]
      have W2 : ∀ Q, am_J (d + 3) 193 0 [some (.ref 349), v1] [] h Q ↔ am_J (d + 3) 193 109 [some (.ref 349), some (.int (nI (t q)))] [] (am_setI (am_setI g 349 18 (nI 1)) 349 17 (nI (lx_L t n q))) Q := by
        intro Q
        rw [W]
        simp (disch := first | with_reducible assumption | omega | exact Or.inl rfl | exact Or.inr rfl | exact bI_01 | exact c_cat | rfl | with_reducible repeat (first | assumption | apply S_I | apply S_L | apply S_D | apply ob_I | apply ob_L | apply ob_D | apply ob_R | apply ax_I | apply ax_L | apply ax_D | apply ax_R)) only [g193_51, g193_52, g193_55, g193_56, g193_59, g193_62, g193_63, g193_64, g193_67, g193_70, g193_71, g193_74, g193_77, g193_78, g193_79, N1, L1, nI_ltI, nI_leI, nI_eq, nI_add, nI_sub, nI_lt0, nI_e0, nI_m1, m1_nI, Nat.reduceEqDiff, Nat.reduceLT, Nat.reduceLeDiff, Nat.reduceAdd, Nat.reduceSub, Nat.reduceMul, ↓reduceIte, eq_self, hqn, m_isL, hl, bI_t, Option.toList, List.nil_append, List.cons_append, va_rf]
        rw [m_letters _ q _ rfl (by omega) (S_I S1) (mT_I T1 (by decide)) (by simp only [hI_I, hI_L, hI_D, hI_R, hL_I, hL_L, hL_D, hL_R, hD_I, hD_L, hD_D, hD_R, hR_I, hR_L, hR_D, ↓reduceIte, Nat.reduceEqDiff, N1])]
      by_cases h8 : 8 < lx_L t n q - q
      · rw [if_pos h8] at hK
        apply Exists.intro
        refine ⟨fun Q => ?_, ?_, ?_⟩
        · rw [W2]
          simp (disch := first | with_reducible assumption | omega | exact Or.inl rfl | exact Or.inr rfl | exact bI_01 | exact c_cat | rfl | with_reducible repeat (first | assumption | apply S_I | apply S_L | apply S_D | apply ob_I | apply ob_L | apply ob_D | apply ob_R | apply ax_I | apply ax_L | apply ax_D | apply ax_R)) only [g193_109, g193_110, g193_113, g193_114, g193_117, g193_118, g193_120, g193_123, g193_124, g193_125, g193_126, g193_129, g193_132, g193_244, g196_0, g196_1, g196_4, g196_7, g196_8, g196_9, g196_10, g196_13, g196_14, g196_15, g196_18, Option.toList, List.nil_append, List.cons_append, va_rf, nI_ltI, nI_leI, nI_eq, nI_add, nI_sub, nI_lt0, nI_e0, nI_m1, m1_nI, Nat.reduceEqDiff, Nat.reduceLT, Nat.reduceLeDiff, Nat.reduceAdd, Nat.reduceSub, Nat.reduceMul, ↓reduceIte, eq_self, hI_I, hI_L, hI_D, hI_R, hL_I, hL_L, hL_D, hL_R, hD_I, hD_L, hD_D, hD_R, hR_I, hR_L, hR_D, ↓reduceIte, Nat.reduceEqDiff, P1, F8, show ¬ lx_L t n q - q ≤ 8 by omega]
          exact Iff.rfl
        · exact fr_I (fr_I (fr_I (fr_I F1 rfl) rfl) rfl) rfl
        · refine ⟨fun q => absurd hK q, fun _ => ?_, MA_k (MA_k (MA_k (MA_k k1 (by omega)) (by omega)) (by omega)) (by omega), kL⟩
          simp only [MB, hI_I, hI_L, hI_D, hI_R, hL_I, hL_L, hL_D, hL_R, hD_I, hD_L, hD_D, hD_R, hR_I, hR_L, hR_D, ↓reduceIte, Nat.reduceEqDiff, P1, true_and]
          exact ⟨q, _, 1, by omega, rfl, by omega, by omega, rfl, by decide, rfl, fun _ => l2⟩
      · rw [if_neg h8] at hK
        apply Exists.intro
        refine ⟨fun Q => ?_, ?_, ?_⟩
        · rw [W2]
          simp (disch := first | with_reducible assumption | omega | exact Or.inl rfl | exact Or.inr rfl | exact bI_01 | exact c_cat | rfl | with_reducible repeat (first | assumption | apply S_I | apply S_L | apply S_D | apply ob_I | apply ob_L | apply ob_D | apply ob_R | apply ax_I | apply ax_L | apply ax_D | apply ax_R)) only [g193_109, g193_110, g193_113, g193_114, g193_117, g193_118, g193_120, g193_123, g193_124, g193_125, g193_126, g193_129, g193_132, g193_244, g196_0, g196_1, g196_4, g196_7, g196_8, g196_9, g196_10, g196_13, g196_14, g196_15, g196_18, Option.toList, List.nil_append, List.cons_append, va_rf, nI_ltI, nI_leI, nI_eq, nI_add, nI_sub, nI_lt0, nI_e0, nI_m1, m1_nI, Nat.reduceEqDiff, Nat.reduceLT, Nat.reduceLeDiff, Nat.reduceAdd, Nat.reduceSub, Nat.reduceMul, ↓reduceIte, eq_self, hI_I, hI_L, hI_D, hI_R, hL_I, hL_L, hL_D, hL_R, hD_I, hD_L, hD_D, hD_R, hR_I, hR_L, hR_D, ↓reduceIte, Nat.reduceEqDiff, P1, F8, show lx_L t n q - q ≤ 8 by omega]
          exact Iff.rfl
        · exact fr_I (fr_I F1 rfl) rfl
        · refine ⟨fun _ => ?_, fun q => absurd (hK.symm.trans q) (by decide), MA_k (MA_k k1 (by omega)) (by omega), kL⟩
          simp only [LM, hI_I, hI_L, hI_D, hI_R, hL_I, hL_L, hL_D, hL_R, hD_I, hD_L, hD_D, hD_R, hR_I, hR_L, hR_D, ↓reduceIte, Nat.reduceEqDiff, hK, hE, P1, E22, E4, mtok, true_and, false_implies, and_true, Nat.reduceEqDiff]
    | false =>
      have W2 : ∀ Q, am_J (d + 3) 193 0 [some (.ref 349), v1] [] h Q ↔ am_J (d + 3) 193 135 [some (.ref 349), some (.int (nI (t q)))] [] g Q := by
        intro Q
        rw [W]
        simp (disch := first | with_reducible assumption | omega | exact Or.inl rfl | exact Or.inr rfl | exact bI_01 | exact c_cat | rfl | with_reducible repeat (first | assumption | apply S_I | apply S_L | apply S_D | apply ob_I | apply ob_L | apply ob_D | apply ob_R | apply ax_I | apply ax_L | apply ax_D | apply ax_R)) only [g193_51, g193_52, g193_55, g193_56, g193_59, g193_62, g193_63, g193_64, g193_67, g193_70, g193_71, g193_74, N1, L1, nI_ltI, nI_leI, nI_eq, nI_add, nI_sub, nI_lt0, nI_e0, nI_m1, m1_nI, Nat.reduceEqDiff, Nat.reduceLT, Nat.reduceLeDiff, Nat.reduceAdd, Nat.reduceSub, Nat.reduceMul, ↓reduceIte, eq_self, hqn, m_isL, hl, bI_f, Option.toList, List.nil_append, List.cons_append, va_rf]
      by_cases hA : 65 ≤ t q ∧ t q ≤ 68
      · have hg : isG (t q) = false := by simp [isG]; omega
        have hK : lx_K t n q = if lx_rf t n q = true then 259 else 263 := by simp only [lx_K, hn, hl, hg, hA, and_self, ↓reduceIte, Bool.false_eq_true]
        have hE : lx_E t n q = q + 3 := by simp only [lx_E, hn, hl, hg, hA, and_self, ↓reduceIte, Bool.false_eq_true]
        have c1 := mA_256 T (q + 1)
        have c2 := mA_256 T (q + 2)
        cases hr : lx_rf t n q with
        | true =>
          rw [hr, if_pos rfl] at hK
          have hrf : (((q + 2 < n ∧ 97 ≤ t (q + 1)) ∧ t (q + 1) ≤ 104) ∧ 48 ≤ t (q + 2)) ∧ t (q + 2) ≤ 55 := by simpa only [lx_rf, Bool.and_eq_true, decide_eq_true_eq] using hr
          obtain ⟨⟨⟨⟨r1, r2⟩, r3⟩, r4⟩, r5⟩ := hrf
          apply Exists.intro
          refine ⟨fun Q => ?_, ?_, ?_⟩
          · rw [W2]
            simp (disch := first | with_reducible assumption | omega | exact Or.inl rfl | exact Or.inr rfl | exact bI_01 | exact c_cat | rfl | with_reducible repeat (first | assumption | apply S_I | apply S_L | apply S_D | apply ob_I | apply ob_L | apply ob_D | apply ob_R | apply ax_I | apply ax_L | apply ax_D | apply ax_R)) only [g193_135, g193_136, g193_138, g193_141, g193_142, g193_144, g193_147, g193_148, g193_149, g193_152, g193_153, g193_154, g193_157, g193_159, g193_162, g193_163, g193_164, g193_167, g193_168, g193_169, g193_172, g193_174, g193_177, g193_178, g193_179, g193_182, g193_183, g193_184, g193_187, g193_189, g193_192, g193_193, g193_194, g193_197, g193_198, g193_199, g193_202, g193_204, g193_207, g193_208, g193_209, g193_212, g193_213, g193_214, g193_217, g193_218, g193_219, g193_222, g193_244, N1, Option.toList, List.nil_append, List.cons_append, va_rf, hI_I, hI_L, hI_D, hI_R, hL_I, hL_L, hL_D, hL_R, hD_I, hD_L, hD_D, hD_R, hR_I, hR_L, hR_D, ↓reduceIte, Nat.reduceEqDiff, m_byteAt, T1, nI_ltI, nI_leI, nI_eq, nI_add, nI_sub, nI_lt0, nI_e0, nI_m1, m1_nI, Nat.reduceEqDiff, Nat.reduceLT, Nat.reduceLeDiff, Nat.reduceAdd, Nat.reduceSub, Nat.reduceMul, ↓reduceIte, eq_self, mA_lt (show q + 1 < n by omega), mA_lt r1, show ¬ t q < 65 by omega, show ¬ 68 < t q by omega, show ¬ t (q + 1) < 97 by omega, show ¬ 104 < t (q + 1) by omega, show ¬ t (q + 2) < 48 by omega, show ¬ 55 < t (q + 2) by omega]
            exact Iff.rfl
          · exact fr_I (fr_I F1 rfl) rfl
          · refine ⟨fun _ => ?_, fun q => absurd (hK.symm.trans q) (by decide), MA_k (MA_k k1 (by omega)) (by omega), kL⟩
            simp only [LM, hI_I, hI_L, hI_D, hI_R, hL_I, hL_L, hL_D, hL_R, hD_I, hD_L, hD_D, hD_R, hR_I, hR_L, hR_D, ↓reduceIte, Nat.reduceEqDiff, hK, hE, P1, E22, E4, mtok, true_and, false_implies, and_true, Nat.reduceEqDiff]
        | false =>
          rw [hr] at hK
          simp only [Bool.false_eq_true, ↓reduceIte] at hK
          have hs : lx_sg (t q) = false := decide_eq_false (by simp only [List.mem_cons, List.not_mem_nil, or_false]; omega)
          obtain ⟨g', R, Fg, A⟩ := m_signsB (d := d) S1 T1 N1 P1 hqn hs F8 hK
          refine ⟨g', fun Q => ?_, fr_trans F1 Fg, MA_h E22 E4 k1 kL A⟩
          rw [W2]
          have W3 : am_J (d + 3) 193 135 [some (.ref 349), some (.int (nI (t q)))] [] g Q ↔ am_J (d + 3) 193 225 [some (.ref 349), some (.int (nI (t q)))] [] g Q := by
            by_cases d1 : mA t n (q + 1) < 97
            · simp (disch := first | with_reducible assumption | omega | exact Or.inl rfl | exact Or.inr rfl | exact bI_01 | exact c_cat | rfl | with_reducible repeat (first | assumption | apply S_I | apply S_L | apply S_D | apply ob_I | apply ob_L | apply ob_D | apply ob_R | apply ax_I | apply ax_L | apply ax_D | apply ax_R)) only [g193_135, g193_136, g193_138, g193_141, g193_142, g193_144, g193_147, g193_148, g193_149, g193_152, g193_153, g193_154, g193_157, g193_159, g193_162, g193_163, g193_164, g193_167, g193_168, g193_169, g193_172, g193_174, g193_177, g193_178, g193_179, g193_182, g193_183, g193_184, g193_187, g193_189, g193_192, g193_193, g193_194, g193_197, g193_198, g193_199, g193_202, g193_204, N1, Option.toList, List.nil_append, List.cons_append, va_rf, hI_I, hI_L, hI_D, hI_R, hL_I, hL_L, hL_D, hL_R, hD_I, hD_L, hD_D, hD_R, hR_I, hR_L, hR_D, ↓reduceIte, Nat.reduceEqDiff, m_byteAt, T1, nI_ltI, nI_leI, nI_eq, nI_add, nI_sub, nI_lt0, nI_e0, nI_m1, m1_nI, Nat.reduceEqDiff, Nat.reduceLT, Nat.reduceLeDiff, Nat.reduceAdd, Nat.reduceSub, Nat.reduceMul, ↓reduceIte, eq_self, show ¬ t q < 65 by omega, show ¬ 68 < t q by omega, d1]
            · by_cases d2 : 104 < mA t n (q + 1)
              · simp (disch := first | with_reducible assumption | omega | exact Or.inl rfl | exact Or.inr rfl | exact bI_01 | exact c_cat | rfl | with_reducible repeat (first | assumption | apply S_I | apply S_L | apply S_D | apply ob_I | apply ob_L | apply ob_D | apply ob_R | apply ax_I | apply ax_L | apply ax_D | apply ax_R)) only [g193_135, g193_136, g193_138, g193_141, g193_142, g193_144, g193_147, g193_148, g193_149, g193_152, g193_153, g193_154, g193_157, g193_159, g193_162, g193_163, g193_164, g193_167, g193_168, g193_169, g193_172, g193_174, g193_177, g193_178, g193_179, g193_182, g193_183, g193_184, g193_187, g193_189, g193_192, g193_193, g193_194, g193_197, g193_198, g193_199, g193_202, g193_204, N1, Option.toList, List.nil_append, List.cons_append, va_rf, hI_I, hI_L, hI_D, hI_R, hL_I, hL_L, hL_D, hL_R, hD_I, hD_L, hD_D, hD_R, hR_I, hR_L, hR_D, ↓reduceIte, Nat.reduceEqDiff, m_byteAt, T1, nI_ltI, nI_leI, nI_eq, nI_add, nI_sub, nI_lt0, nI_e0, nI_m1, m1_nI, Nat.reduceEqDiff, Nat.reduceLT, Nat.reduceLeDiff, Nat.reduceAdd, Nat.reduceSub, Nat.reduceMul, ↓reduceIte, eq_self, show ¬ t q < 65 by omega, show ¬ 68 < t q by omega, d1, d2]
              · by_cases d3 : mA t n (q + 2) < 48
                · simp (disch := first | with_reducible assumption | omega | exact Or.inl rfl | exact Or.inr rfl | exact bI_01 | exact c_cat | rfl | with_reducible repeat (first | assumption | apply S_I | apply S_L | apply S_D | apply ob_I | apply ob_L | apply ob_D | apply ob_R | apply ax_I | apply ax_L | apply ax_D | apply ax_R)) only [g193_135, g193_136, g193_138, g193_141, g193_142, g193_144, g193_147, g193_148, g193_149, g193_152, g193_153, g193_154, g193_157, g193_159, g193_162, g193_163, g193_164, g193_167, g193_168, g193_169, g193_172, g193_174, g193_177, g193_178, g193_179, g193_182, g193_183, g193_184, g193_187, g193_189, g193_192, g193_193, g193_194, g193_197, g193_198, g193_199, g193_202, g193_204, N1, Option.toList, List.nil_append, List.cons_append, va_rf, hI_I, hI_L, hI_D, hI_R, hL_I, hL_L, hL_D, hL_R, hD_I, hD_L, hD_D, hD_R, hR_I, hR_L, hR_D, ↓reduceIte, Nat.reduceEqDiff, m_byteAt, T1, nI_ltI, nI_leI, nI_eq, nI_add, nI_sub, nI_lt0, nI_e0, nI_m1, m1_nI, Nat.reduceEqDiff, Nat.reduceLT, Nat.reduceLeDiff, Nat.reduceAdd, Nat.reduceSub, Nat.reduceMul, ↓reduceIte, eq_self, show ¬ t q < 65 by omega, show ¬ 68 < t q by omega, d1, d2, d3]
                · by_cases d4 : 55 < mA t n (q + 2)
                  · simp (disch := first | with_reducible assumption | omega | exact Or.inl rfl | exact Or.inr rfl | exact bI_01 | exact c_cat | rfl | with_reducible repeat (first | assumption | apply S_I | apply S_L | apply S_D | apply ob_I | apply ob_L | apply ob_D | apply ob_R | apply ax_I | apply ax_L | apply ax_D | apply ax_R)) only [g193_135, g193_136, g193_138, g193_141, g193_142, g193_144, g193_147, g193_148, g193_149, g193_152, g193_153, g193_154, g193_157, g193_159, g193_162, g193_163, g193_164, g193_167, g193_168, g193_169, g193_172, g193_174, g193_177, g193_178, g193_179, g193_182, g193_183, g193_184, g193_187, g193_189, g193_192, g193_193, g193_194, g193_197, g193_198, g193_199, g193_202, g193_204, N1, Option.toList, List.nil_append, List.cons_append, va_rf, hI_I, hI_L, hI_D, hI_R, hL_I, hL_L, hL_D, hL_R, hD_I, hD_L, hD_D, hD_R, hR_I, hR_L, hR_D, ↓reduceIte, Nat.reduceEqDiff, m_byteAt, T1, nI_ltI, nI_leI, nI_eq, nI_add, nI_sub, nI_lt0, nI_e0, nI_m1, m1_nI, Nat.reduceEqDiff, Nat.reduceLT, Nat.reduceLeDiff, Nat.reduceAdd, Nat.reduceSub, Nat.reduceMul, ↓reduceIte, eq_self, show ¬ t q < 65 by omega, show ¬ 68 < t q by omega, d1, d2, d3, d4]
                  · exfalso
                    have e2 : q + 2 < n := Nat.lt_of_not_le (fun x => by rw [mA_ge x] at d3; omega)
                    rw [mA_lt e2] at d3 d4
                    rw [mA_lt (show q + 1 < n by omega)] at d1 d2
                    rw [show lx_rf t n q = true by simp only [lx_rf, Bool.and_eq_true, decide_eq_true_eq]; omega] at hr
                    cases hr
          rw [W3]
          simp (disch := first | with_reducible assumption | omega | exact Or.inl rfl | exact Or.inr rfl | exact bI_01 | exact c_cat | rfl | with_reducible repeat (first | assumption | apply S_I | apply S_L | apply S_D | apply ob_I | apply ob_L | apply ob_D | apply ob_R | apply ax_I | apply ax_L | apply ax_D | apply ax_R)) only [g193_225, g193_226, g193_229, g193_232, g193_233, g193_236, g193_239, g193_240, g193_241, g193_244, nI_ltI, nI_leI, nI_eq, nI_add, nI_sub, nI_lt0, nI_e0, nI_m1, m1_nI, Nat.reduceEqDiff, Nat.reduceLT, Nat.reduceLeDiff, Nat.reduceAdd, Nat.reduceSub, Nat.reduceMul, ↓reduceIte, eq_self, m_isG, hg, bI_f, Option.toList, List.nil_append, List.cons_append, va_rf, R _]
      · have W3 : ∀ Q, am_J (d + 3) 193 135 [some (.ref 349), some (.int (nI (t q)))] [] g Q ↔ am_J (d + 3) 193 225 [some (.ref 349), some (.int (nI (t q)))] [] g Q := by
          intro Q
          by_cases h65 : t q < 65
          · simp (disch := first | with_reducible assumption | omega | exact Or.inl rfl | exact Or.inr rfl | exact bI_01 | exact c_cat | rfl | with_reducible repeat (first | assumption | apply S_I | apply S_L | apply S_D | apply ob_I | apply ob_L | apply ob_D | apply ob_R | apply ax_I | apply ax_L | apply ax_D | apply ax_R)) only [g193_135, g193_136, g193_138, g193_141, g193_142, g193_144, nI_ltI, nI_leI, nI_eq, nI_add, nI_sub, nI_lt0, nI_e0, nI_m1, m1_nI, Nat.reduceEqDiff, Nat.reduceLT, Nat.reduceLeDiff, Nat.reduceAdd, Nat.reduceSub, Nat.reduceMul, ↓reduceIte, eq_self, h65]
          · simp (disch := first | with_reducible assumption | omega | exact Or.inl rfl | exact Or.inr rfl | exact bI_01 | exact c_cat | rfl | with_reducible repeat (first | assumption | apply S_I | apply S_L | apply S_D | apply ob_I | apply ob_L | apply ob_D | apply ob_R | apply ax_I | apply ax_L | apply ax_D | apply ax_R)) only [g193_135, g193_136, g193_138, g193_141, g193_142, g193_144, nI_ltI, nI_leI, nI_eq, nI_add, nI_sub, nI_lt0, nI_e0, nI_m1, m1_nI, Nat.reduceEqDiff, Nat.reduceLT, Nat.reduceLeDiff, Nat.reduceAdd, Nat.reduceSub, Nat.reduceMul, ↓reduceIte, eq_self, h65, show 68 < t q by omega]
        cases hg : isG (t q) with
        | true =>
          obtain ⟨g', R, Fg, A⟩ := m_number (d := d) S1 T1 N1 P1 hqn hg hl F8
          refine ⟨g', fun Q => ?_, fr_trans F1 Fg, MA_h E22 E4 k1 kL A⟩
          rw [W2, W3]
          simp (disch := first | with_reducible assumption | omega | exact Or.inl rfl | exact Or.inr rfl | exact bI_01 | exact c_cat | rfl | with_reducible repeat (first | assumption | apply S_I | apply S_L | apply S_D | apply ob_I | apply ob_L | apply ob_D | apply ob_R | apply ax_I | apply ax_L | apply ax_D | apply ax_R)) only [g193_225, g193_226, g193_229, g193_232, g193_233, g193_236, g193_239, g193_240, g193_241, g193_244, nI_ltI, nI_leI, nI_eq, nI_add, nI_sub, nI_lt0, nI_e0, nI_m1, m1_nI, Nat.reduceEqDiff, Nat.reduceLT, Nat.reduceLeDiff, Nat.reduceAdd, Nat.reduceSub, Nat.reduceMul, ↓reduceIte, eq_self, m_isG, hg, bI_t, Option.toList, List.nil_append, List.cons_append, va_rf, R _]
        | false =>
          obtain ⟨g', R, Fg, A⟩ := m_signs (d := d) S1 T1 N1 P1 hqn hl hg hA F8
          refine ⟨g', fun Q => ?_, fr_trans F1 Fg, MA_h E22 E4 k1 kL A⟩
          rw [W2, W3]
          simp (disch := first | with_reducible assumption | omega | exact Or.inl rfl | exact Or.inr rfl | exact bI_01 | exact c_cat | rfl | with_reducible repeat (first | assumption | apply S_I | apply S_L | apply S_D | apply ob_I | apply ob_L | apply ob_D | apply ob_R | apply ax_I | apply ax_L | apply ax_D | apply ax_R)) only [g193_225, g193_226, g193_229, g193_232, g193_233, g193_236, g193_239, g193_240, g193_241, g193_244, nI_ltI, nI_leI, nI_eq, nI_add, nI_sub, nI_lt0, nI_e0, nI_m1, m1_nI, Nat.reduceEqDiff, Nat.reduceLT, Nat.reduceLeDiff, Nat.reduceAdd, Nat.reduceSub, Nat.reduceMul, ↓reduceIte, eq_self, m_isG, hg, bI_f, Option.toList, List.nil_append, List.cons_append, va_rf, R _]
/-- next, behind a fault -/
theorem m_nextB (S : am_S h) {f : Nat} (F : am_I h 349 22 = nI f) (hf : f ≠ 0) (hf2 : f < 100) : am_J d 193 0 [some (.ref 349), v1] [] h Q ↔ Q none h := by
  simp (disch := first | with_reducible assumption | omega | exact Or.inl rfl | exact Or.inr rfl | exact bI_01 | exact c_cat | rfl | with_reducible repeat (first | assumption | apply S_I | apply S_L | apply S_D | apply ob_I | apply ob_L | apply ob_D | apply ob_R | apply ax_I | apply ax_L | apply ax_D | apply ax_R)) only [g193_0, g193_1, g193_4, g193_7, F, nI_ltI, nI_leI, nI_eq, nI_add, nI_sub, nI_lt0, nI_e0, nI_m1, m1_nI, Nat.reduceEqDiff, Nat.reduceLT, Nat.reduceLeDiff, Nat.reduceAdd, Nat.reduceSub, Nat.reduceMul, ↓reduceIte, eq_self, hf]
end LEXM2

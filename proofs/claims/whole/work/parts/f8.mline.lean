/-! THE MODEL: line, area -/
theorem rising_s (a : List UInt64) (n : Nat) : rising a (n + 1) = (rising a n && (decide (n = 0) || dlt (a.getD (n - 1) 0) (a.getD n 0))) := rfl
theorem rising_le {a : List UInt64} : ∀ {n m : Nat}, m ≤ n → rising a n = true → rising a m = true := by
  intro n
  induction n with
  | zero =>
    intro m hm h
    obtain rfl : m = 0 := by omega
    exact h
  | succ n ih =>
    intro m hm h
    by_cases c : m = n + 1
    · rw [c]; exact h
    · rw [rising_s, Bool.and_eq_true] at h
      exact ih (by omega) h.1
theorem rising_at {a : List UInt64} {n i : Nat} (h : rising a n = true) (hi : i + 1 < n) : dlt (a.getD i 0) (a.getD (i + 1) 0) = true := by
  have h2 := rising_le (show i + 2 ≤ n by omega) h
  rw [rising_s, Bool.and_eq_true, Bool.or_eq_true] at h2
  rcases h2.2 with q | q
  · exact absurd (of_decide_eq_true q) (by omega)
  · exact q
theorem dA_at {g : am_H} {q : Nat} {l : List UInt64} (D : dA g q l) {j : Nat} (hj : j < l.length) : am_D g q j = l.getD j 0 ∧ okD (l.getD j 0) := by
  have e : l[j]? = some (l.getD j 0) := by rw [List.getD_eq_getElem?_getD, List.getElem?_eq_getElem hj]; rfl
  exact D j _ e
section MLN
variable {h g g' : am_H} {r dp t d : Nat} {σ : SR} {x s : UInt64} {la lb : List UInt64}
theorem m_lineLoop {v5 v6 v7 v8 v9 v10 v11 v12 : Option Value} (S : am_S g) (kx : okD x) (D1 : dA g 388 la) (h64 : la.length ≤ 64) (hx : dle (la.getD (la.length - 1) 0) x = false) :
    ∀ f i, i + 1 < la.length → la.length - 1 - i ≤ f → zv (la.getD i 0) ≤ zv x → lnAt la x f i + 1 < la.length ∧ zv (la.getD (lnAt la x f i) 0) ≤ zv x ∧ zv x < zv (la.getD (lnAt la x f i + 1) 0) ∧
      ∀ Q, am_J d 263 51 [some (.ref 349), some (.double x), none, some (.int (nI la.length)), some (.int (nI i)), v5, v6, v7, v8, v9, v10, v11, v12] [] g Q ↔ am_J d 263 71 [some (.ref 349), some (.double x), none, some (.int (nI la.length)), some (.int (nI (lnAt la x f i))), v5, v6, v7, v8, v9, v10, v11, v12] [] g Q := by
  intro f
  induction f with
  | zero => intro i h1 h2; omega
  | succ f ih =>
    intro i h1 h2 h3
    obtain ⟨d1, k1⟩ := dA_at D1 h1
    have cz := zv_le k1 kx
    have ck := dle_key (okD_nn k1) (okD_nn kx)
    have cr := cm_g (okD_nn k1) (okD_nn kx) .g
    cases c : dle (la.getD (i + 1) 0) x with
    | true =>
      have e : lnAt la x (f + 1) i = lnAt la x f (i + 1) := if_pos c
      rw [c] at cz ck
      have cz := of_decide_eq_true cz.symm
      have ck := of_decide_eq_true ck.symm
      have h4 : i + 1 + 1 < la.length := by
        apply Nat.lt_of_le_of_ne h1
        intro q
        rw [show i + 1 = la.length - 1 by omega, hx] at c
        cases c
      obtain ⟨b1, b2, b3, b4⟩ := ih (i + 1) h4 (by omega) cz
      rw [e]
      refine ⟨b1, b2, b3, fun Q => ?_⟩
      rw [← b4 Q, g263_51]
      simp (disch := first | with_reducible assumption | omega | exact Or.inl rfl | exact Or.inr rfl | exact bI_01 | exact c_cat | exact vt_ref | exact vt_null | rfl | with_reducible repeat (first | assumption | omega | apply S_I | apply S_L | apply S_D | apply ob_I | apply ob_L | apply ob_D | apply ob_R | apply ax_I | apply ax_L | apply ax_D | apply ax_R | apply o303 | apply o307 | apply o302 | apply o301 | apply ax304 | apply ax305 | apply ax306 | apply ax308 | apply ax309 | apply ax310 | apply lt_S | apply ar305 | apply ar308 | apply ar309)) only [g263_52, g263_55, g263_57, g263_58, g263_59, g263_60, g263_61, g263_62, g263_65, g263_68, Option.toList, List.nil_append, List.cons_append, va_rf, nI_ltI, nI_leI, nI_eq, nI_add, nI_sub, nI_lt0, nI_e0, nI_m1, m1_nI, Nat.reduceEqDiff, Nat.reduceLT, Nat.reduceLeDiff, Nat.reduceAdd, Nat.reduceSub, Nat.reduceMul, ↓reduceIte, eq_self, d1, cr, eq_false (show ¬ Jvm.FP.Core.dkey x < Jvm.FP.Core.dkey (la.getD (i + 1) 0) by omega)]
    | false =>
      have e : lnAt la x (f + 1) i = i := if_neg (by rw [c]; exact Bool.false_ne_true)
      rw [c] at cz ck
      have cz := of_decide_eq_false cz.symm
      have ck := of_decide_eq_false ck.symm
      rw [e]
      refine ⟨h1, h3, by omega, fun Q => ?_⟩
      rw [g263_51]
      simp (disch := first | with_reducible assumption | omega | exact Or.inl rfl | exact Or.inr rfl | exact bI_01 | exact c_cat | exact vt_ref | exact vt_null | rfl | with_reducible repeat (first | assumption | omega | apply S_I | apply S_L | apply S_D | apply ob_I | apply ob_L | apply ob_D | apply ob_R | apply ax_I | apply ax_L | apply ax_D | apply ax_R | apply o303 | apply o307 | apply o302 | apply o301 | apply ax304 | apply ax305 | apply ax306 | apply ax308 | apply ax309 | apply ax310 | apply lt_S | apply ar305 | apply ar308 | apply ar309)) only [g263_52, g263_55, g263_57, g263_58, g263_59, g263_60, g263_61, g263_62, g263_65, g263_68, Option.toList, List.nil_append, List.cons_append, va_rf, nI_ltI, nI_leI, nI_eq, nI_add, nI_sub, nI_lt0, nI_e0, nI_m1, m1_nI, Nat.reduceEqDiff, Nat.reduceLT, Nat.reduceLeDiff, Nat.reduceAdd, Nat.reduceSub, Nat.reduceMul, ↓reduceIte, eq_self, d1, cr, eq_true (show Jvm.FP.Core.dkey x < Jvm.FP.Core.dkey (la.getD (i + 1) 0) by omega)]
theorem m_line (A : MW h g r dp t σ) (S : am_S h) (sp : am_I g 349 64 = nI 0) (kx : okD x) (D1 : dA g 388 la) (D2 : dA g 389 lb) (hl : la.length = lb.length) (hn : 1 < la.length) (h64 : la.length ≤ 64) (hr : rising la la.length = true) :
    ∃ g', am_run (d + 2) 263 [some (.ref 349), some (.double x), none, some (.int (nI la.length)), none, none, none, none, none, none, none, none, none] g none g' ∧ MW h g' r dp t σ ∧ AK g g' t ∧ MO h g' r (lnV x la lb) := by
  have Sg := MW_S A S
  obtain ⟨a0, k0⟩ := dA_at D1 (show 0 < la.length by omega)
  obtain ⟨an, kn⟩ := dA_at D1 (show la.length - 1 < la.length by omega)
  obtain ⟨b0, kb0⟩ := dA_at D2 (show 0 < lb.length by omega)
  obtain ⟨bn, kbn⟩ := dA_at D2 (show la.length - 1 < lb.length by omega)
  have c1 := dle_key (okD_nn kx) (okD_nn k0)
  have r1 := cm_g (okD_nn kx) (okD_nn k0) .g
  have c2 := dle_key (okD_nn kn) (okD_nn kx)
  have r2 := cm_l (okD_nn kx) (okD_nn kn) .l
  unfold lnV
  cases e1 : dle x (la.getD 0 0) with
  | true =>
    rw [e1] at c1
    have c1 := of_decide_eq_true c1.symm
    rw [if_pos rfl]
    obtain ⟨g', q1, A1, K1, O1⟩ := m_giveD (d := d) A S sp (okD_nn kb0)
    rw [show gv (lb.getD 0 0) = .inl (.inr (lb.getD 0 0)) from if_pos (finB_ok.mpr kb0)] at O1
    refine ⟨g', fun Q => ?_, A1, K1, O1⟩
    simp (disch := first | with_reducible assumption | omega | exact Or.inl rfl | exact Or.inr rfl | exact bI_01 | exact c_cat | exact vt_ref | exact vt_null | rfl | with_reducible repeat (first | assumption | omega | apply S_I | apply S_L | apply S_D | apply ob_I | apply ob_L | apply ob_D | apply ob_R | apply ax_I | apply ax_L | apply ax_D | apply ax_R | apply o303 | apply o307 | apply o302 | apply o301 | apply ax304 | apply ax305 | apply ax306 | apply ax308 | apply ax309 | apply ax310 | apply lt_S | apply ar305 | apply ar308 | apply ar309)) only [g263_0, g263_1, g263_2, g263_5, g263_6, g263_7, g263_8, g263_11, g263_12, g263_13, g263_16, g263_17, g263_18, g263_21, g263_22, g263_23, g263_24, g263_27, g263_28, g263_29, g263_30, g263_31, g263_32, g263_35, g263_36, g263_37, g263_40, g263_41, g263_42, g263_43, g263_44, g263_47, Option.toList, List.nil_append, List.cons_append, va_rf, nI_ltI, nI_leI, nI_eq, nI_add, nI_sub, nI_lt0, nI_e0, nI_m1, m1_nI, Nat.reduceEqDiff, Nat.reduceLT, Nat.reduceLeDiff, Nat.reduceAdd, Nat.reduceSub, Nat.reduceMul, ↓reduceIte, eq_self, a0, b0, r1, eq_false (show ¬ Jvm.FP.Core.dkey (la.getD 0 0) < Jvm.FP.Core.dkey x by omega), q1 _]
  | false =>
    have z1 := zv_le kx k0
    rw [e1] at c1 z1
    have c1 := of_decide_eq_false c1.symm
    have z1 := of_decide_eq_false z1.symm
    rw [if_neg Bool.false_ne_true]
    cases e2 : dle (la.getD (la.length - 1) 0) x with
    | true =>
      rw [e2] at c2
      have c2 := of_decide_eq_true c2.symm
      rw [if_pos rfl]
      obtain ⟨g', q1, A1, K1, O1⟩ := m_giveD (d := d) A S sp (okD_nn kbn)
      rw [show gv (lb.getD (la.length - 1) 0) = .inl (.inr (lb.getD (la.length - 1) 0)) from if_pos (finB_ok.mpr kbn)] at O1
      refine ⟨g', fun Q => ?_, A1, K1, O1⟩
      simp (disch := first | with_reducible assumption | omega | exact Or.inl rfl | exact Or.inr rfl | exact bI_01 | exact c_cat | exact vt_ref | exact vt_null | rfl | with_reducible repeat (first | assumption | omega | apply S_I | apply S_L | apply S_D | apply ob_I | apply ob_L | apply ob_D | apply ob_R | apply ax_I | apply ax_L | apply ax_D | apply ax_R | apply o303 | apply o307 | apply o302 | apply o301 | apply ax304 | apply ax305 | apply ax306 | apply ax308 | apply ax309 | apply ax310 | apply lt_S | apply ar305 | apply ar308 | apply ar309)) only [g263_0, g263_1, g263_2, g263_5, g263_6, g263_7, g263_8, g263_11, g263_12, g263_13, g263_16, g263_17, g263_18, g263_21, g263_22, g263_23, g263_24, g263_27, g263_28, g263_29, g263_30, g263_31, g263_32, g263_35, g263_36, g263_37, g263_40, g263_41, g263_42, g263_43, g263_44, g263_47, Option.toList, List.nil_append, List.cons_append, va_rf, nI_ltI, nI_leI, nI_eq, nI_add, nI_sub, nI_lt0, nI_e0, nI_m1, m1_nI, Nat.reduceEqDiff, Nat.reduceLT, Nat.reduceLeDiff, Nat.reduceAdd, Nat.reduceSub, Nat.reduceMul, ↓reduceIte, eq_self, a0, an, bn, r1, r2, eq_true (show Jvm.FP.Core.dkey (la.getD 0 0) < Jvm.FP.Core.dkey x by omega), eq_false (show ¬ Jvm.FP.Core.dkey x < Jvm.FP.Core.dkey (la.getD (la.length - 1) 0) by omega), q1 _]
    | false =>
      rw [if_neg Bool.false_ne_true]
      rw [e2] at c2
      have c2 := of_decide_eq_false c2.symm
      obtain ⟨j1, j2, j3, j4⟩ := m_lineLoop (d := d + 2) (v5 := none) (v6 := none) (v7 := none) (v8 := none) (v9 := none) (v10 := none) (v11 := none) (v12 := none) Sg kx D1 h64 e2 la.length 0 hn (by omega) (by omega)
      have front : ∀ Q, am_J (d + 2) 263 0 [some (.ref 349), some (.double x), none, some (.int (nI la.length)), none, none, none, none, none, none, none, none, none] [] g Q ↔ am_J (d + 2) 263 51 [some (.ref 349), some (.double x), none, some (.int (nI la.length)), some (.int (nI 0)), none, none, none, none, none, none, none, none] [] g Q := fun Q => by
        simp (disch := first | with_reducible assumption | omega | exact Or.inl rfl | exact Or.inr rfl | exact bI_01 | exact c_cat | exact vt_ref | exact vt_null | rfl | with_reducible repeat (first | assumption | omega | apply S_I | apply S_L | apply S_D | apply ob_I | apply ob_L | apply ob_D | apply ob_R | apply ax_I | apply ax_L | apply ax_D | apply ax_R | apply o303 | apply o307 | apply o302 | apply o301 | apply ax304 | apply ax305 | apply ax306 | apply ax308 | apply ax309 | apply ax310 | apply lt_S | apply ar305 | apply ar308 | apply ar309)) only [g263_0, g263_1, g263_2, g263_5, g263_6, g263_7, g263_8, g263_11, g263_12, g263_13, g263_16, g263_17, g263_18, g263_21, g263_22, g263_23, g263_24, g263_27, g263_28, g263_29, g263_30, g263_31, g263_32, g263_35, g263_36, g263_37, g263_40, g263_41, g263_42, g263_43, g263_44, g263_47, g263_48, g263_49, Option.toList, List.nil_append, List.cons_append, va_rf, nI_ltI, nI_leI, nI_eq, nI_add, nI_sub, nI_lt0, nI_e0, nI_m1, m1_nI, Nat.reduceEqDiff, Nat.reduceLT, Nat.reduceLeDiff, Nat.reduceAdd, Nat.reduceSub, Nat.reduceMul, ↓reduceIte, eq_self, a0, an, r1, r2, eq_true (show Jvm.FP.Core.dkey (la.getD 0 0) < Jvm.FP.Core.dkey x by omega), eq_true (show Jvm.FP.Core.dkey x < Jvm.FP.Core.dkey (la.getD (la.length - 1) 0) by omega)]
      generalize lnAt la x la.length 0 = j at j1 j2 j3 j4 ⊢
      obtain ⟨u1, ku1⟩ := dA_at D1 (show j < la.length by omega)
      obtain ⟨u2, ku2⟩ := dA_at D1 j1
      obtain ⟨w1, kw1⟩ := dA_at D2 (show j < lb.length by omega)
      obtain ⟨w2, kw2⟩ := dA_at D2 (show j + 1 < lb.length by omega)
      have n1 := ok_sub ku2 ku1
      have n2 := ok_sub kw2 kw1
      have n3 := ok_sub kx ku1
      have ie1 := m_isEndless (d := d + 1) (g := g) n1
      have ie2 := m_isEndless (d := d + 1) (g := g) n2
      have fl := m_fail (d := d + 1) (k := 5) A S
      by_cases f1 : finB (Jvm.FP.dsub (la.getD (j + 1) 0) (la.getD j 0)) = true
      · rw [f1, Bool.not_true, bI_f] at ie1
        by_cases f2 : finB (Jvm.FP.dsub (lb.getD (j + 1) 0) (lb.getD j 0)) = true
        · rw [f2, Bool.not_true, bI_f] at ie2
          rw [if_pos ⟨f1, f2⟩]
          obtain ⟨o1, o2, o3, o4⟩ := between_ok ku1 kx ku2 j2 (by omega) (by omega) (finB_ok.mp f1)
          have kt := div_ok o1 (finB_ok.mp f1) o2 o3 o4
          have nt := okD_nn kt
          have n4 := ok_mul (finB_ok.mp f2) kt
          have ie3 := m_isEndless (d := d + 1) (g := g) n4
          have n5 := ok_add' kw1 n4
          by_cases f3 : finB (Jvm.FP.dmul (Jvm.FP.dsub (lb.getD (j + 1) 0) (lb.getD j 0)) (Jvm.FP.ddiv (Jvm.FP.dsub x (la.getD j 0)) (Jvm.FP.dsub (la.getD (j + 1) 0) (la.getD j 0)))) = true
          · rw [f3, Bool.not_true, bI_f] at ie3
            rw [if_pos f3]
            obtain ⟨g', q1, A1, K1, O1⟩ := m_giveD (d := d) A S sp n5
            refine ⟨g', fun Q => ?_, A1, K1, O1⟩
            rw [front, j4]
            simp (disch := first | with_reducible assumption | omega | exact Or.inl rfl | exact Or.inr rfl | exact bI_01 | exact c_cat | exact vt_ref | exact vt_null | rfl | with_reducible repeat (first | assumption | omega | apply S_I | apply S_L | apply S_D | apply ob_I | apply ob_L | apply ob_D | apply ob_R | apply ax_I | apply ax_L | apply ax_D | apply ax_R | apply o303 | apply o307 | apply o302 | apply o301 | apply ax304 | apply ax305 | apply ax306 | apply ax308 | apply ax309 | apply ax310 | apply lt_S | apply ar305 | apply ar308 | apply ar309)) only [g263_71, g263_72, g263_75, g263_77, g263_78, g263_79, g263_80, g263_81, g263_84, g263_86, g263_87, g263_88, g263_90, g263_91, g263_94, g263_96, g263_97, g263_98, g263_99, g263_100, g263_103, g263_105, g263_106, g263_107, g263_109, g263_111, g263_114, g263_117, g263_119, g263_122, g263_125, g263_126, g263_127, g263_130, g263_131, g263_132, g263_133, g263_136, g263_138, g263_139, g263_140, g263_142, g263_143, g263_145, g263_147, g263_149, g263_150, g263_152, g263_154, g263_157, g263_160, g263_161, g263_162, g263_165, g263_168, g263_169, g263_170, g263_173, g263_175, g263_176, g263_178, g263_179, g263_182, Option.toList, List.nil_append, List.cons_append, va_rf, nI_ltI, nI_leI, nI_eq, nI_add, nI_sub, nI_lt0, nI_e0, nI_m1, m1_nI, Nat.reduceEqDiff, Nat.reduceLT, Nat.reduceLeDiff, Nat.reduceAdd, Nat.reduceSub, Nat.reduceMul, ↓reduceIte, eq_self, u1, u2, w1, w2, ie1 _, ie2 _, ie3 _, q1 _]
          · rw [show finB (Jvm.FP.dmul (Jvm.FP.dsub (lb.getD (j + 1) 0) (lb.getD j 0)) (Jvm.FP.ddiv (Jvm.FP.dsub x (la.getD j 0)) (Jvm.FP.dsub (la.getD (j + 1) 0) (la.getD j 0)))) = false from Bool.eq_false_iff.mpr f3, Bool.not_false, bI_t] at ie3
            rw [if_neg f3]
            refine ⟨gFa g 5 r, fun Q => ?_, gFa_W A, gFa_A, gFa_O (by decide) sp⟩
            rw [front, j4]
            simp (disch := first | with_reducible assumption | omega | exact Or.inl rfl | exact Or.inr rfl | exact bI_01 | exact c_cat | exact vt_ref | exact vt_null | rfl | with_reducible repeat (first | assumption | omega | apply S_I | apply S_L | apply S_D | apply ob_I | apply ob_L | apply ob_D | apply ob_R | apply ax_I | apply ax_L | apply ax_D | apply ax_R | apply o303 | apply o307 | apply o302 | apply o301 | apply ax304 | apply ax305 | apply ax306 | apply ax308 | apply ax309 | apply ax310 | apply lt_S | apply ar305 | apply ar308 | apply ar309)) only [g263_71, g263_72, g263_75, g263_77, g263_78, g263_79, g263_80, g263_81, g263_84, g263_86, g263_87, g263_88, g263_90, g263_91, g263_94, g263_96, g263_97, g263_98, g263_99, g263_100, g263_103, g263_105, g263_106, g263_107, g263_109, g263_111, g263_114, g263_117, g263_119, g263_122, g263_125, g263_126, g263_127, g263_130, g263_131, g263_132, g263_133, g263_136, g263_138, g263_139, g263_140, g263_142, g263_143, g263_145, g263_147, g263_149, g263_150, g263_152, g263_154, g263_157, g263_160, g263_161, g263_162, g263_165, g263_168, g263_169, g263_170, g263_173, g263_175, g263_176, g263_178, g263_179, g263_182, Option.toList, List.nil_append, List.cons_append, va_rf, nI_ltI, nI_leI, nI_eq, nI_add, nI_sub, nI_lt0, nI_e0, nI_m1, m1_nI, Nat.reduceEqDiff, Nat.reduceLT, Nat.reduceLeDiff, Nat.reduceAdd, Nat.reduceSub, Nat.reduceMul, ↓reduceIte, eq_self, u1, u2, w1, w2, ie1 _, ie2 _, ie3 _, fl _]
        · rw [show finB (Jvm.FP.dsub (lb.getD (j + 1) 0) (lb.getD j 0)) = false from Bool.eq_false_iff.mpr f2, Bool.not_false, bI_t] at ie2
          rw [if_neg (fun q => f2 q.2)]
          refine ⟨gFa g 5 r, fun Q => ?_, gFa_W A, gFa_A, gFa_O (by decide) sp⟩
          rw [front, j4]
          simp (disch := first | with_reducible assumption | omega | exact Or.inl rfl | exact Or.inr rfl | exact bI_01 | exact c_cat | exact vt_ref | exact vt_null | rfl | with_reducible repeat (first | assumption | omega | apply S_I | apply S_L | apply S_D | apply ob_I | apply ob_L | apply ob_D | apply ob_R | apply ax_I | apply ax_L | apply ax_D | apply ax_R | apply o303 | apply o307 | apply o302 | apply o301 | apply ax304 | apply ax305 | apply ax306 | apply ax308 | apply ax309 | apply ax310 | apply lt_S | apply ar305 | apply ar308 | apply ar309)) only [g263_71, g263_72, g263_75, g263_77, g263_78, g263_79, g263_80, g263_81, g263_84, g263_86, g263_87, g263_88, g263_90, g263_91, g263_94, g263_96, g263_97, g263_98, g263_99, g263_100, g263_103, g263_105, g263_106, g263_107, g263_109, g263_111, g263_114, g263_117, g263_119, g263_122, g263_125, g263_126, g263_127, g263_130, g263_131, g263_132, g263_133, g263_136, g263_138, g263_139, g263_140, g263_142, g263_143, g263_145, g263_147, g263_149, g263_150, g263_152, g263_154, g263_157, g263_160, g263_161, g263_162, g263_165, g263_168, g263_169, g263_170, g263_173, g263_175, g263_176, g263_178, g263_179, g263_182, Option.toList, List.nil_append, List.cons_append, va_rf, nI_ltI, nI_leI, nI_eq, nI_add, nI_sub, nI_lt0, nI_e0, nI_m1, m1_nI, Nat.reduceEqDiff, Nat.reduceLT, Nat.reduceLeDiff, Nat.reduceAdd, Nat.reduceSub, Nat.reduceMul, ↓reduceIte, eq_self, u1, u2, w1, w2, ie1 _, ie2 _, fl _]
      · rw [show finB (Jvm.FP.dsub (la.getD (j + 1) 0) (la.getD j 0)) = false from Bool.eq_false_iff.mpr f1, Bool.not_false, bI_t] at ie1
        rw [if_neg (fun q => f1 q.1)]
        refine ⟨gFa g 5 r, fun Q => ?_, gFa_W A, gFa_A, gFa_O (by decide) sp⟩
        rw [front, j4]
        simp (disch := first | with_reducible assumption | omega | exact Or.inl rfl | exact Or.inr rfl | exact bI_01 | exact c_cat | exact vt_ref | exact vt_null | rfl | with_reducible repeat (first | assumption | omega | apply S_I | apply S_L | apply S_D | apply ob_I | apply ob_L | apply ob_D | apply ob_R | apply ax_I | apply ax_L | apply ax_D | apply ax_R | apply o303 | apply o307 | apply o302 | apply o301 | apply ax304 | apply ax305 | apply ax306 | apply ax308 | apply ax309 | apply ax310 | apply lt_S | apply ar305 | apply ar308 | apply ar309)) only [g263_71, g263_72, g263_75, g263_77, g263_78, g263_79, g263_80, g263_81, g263_84, g263_86, g263_87, g263_88, g263_90, g263_91, g263_94, g263_96, g263_97, g263_98, g263_99, g263_100, g263_103, g263_105, g263_106, g263_107, g263_109, g263_111, g263_114, g263_117, g263_119, g263_122, g263_125, g263_126, g263_127, g263_130, g263_131, g263_132, g263_133, g263_136, g263_138, g263_139, g263_140, g263_142, g263_143, g263_145, g263_147, g263_149, g263_150, g263_152, g263_154, g263_157, g263_160, g263_161, g263_162, g263_165, g263_168, g263_169, g263_170, g263_173, g263_175, g263_176, g263_178, g263_179, g263_182, Option.toList, List.nil_append, List.cons_append, va_rf, nI_ltI, nI_leI, nI_eq, nI_add, nI_sub, nI_lt0, nI_e0, nI_m1, m1_nI, Nat.reduceEqDiff, Nat.reduceLT, Nat.reduceLeDiff, Nat.reduceAdd, Nat.reduceSub, Nat.reduceMul, ↓reduceIte, eq_self, u1, u2, w1, w2, ie1 _, fl _]
theorem ok_two : okD 4611686018427387904 := by unfold okD; decide
theorem two_nz : deq 4611686018427387904 Jvm.FP.dconst0 = false := by decide +kernel
theorem m_areaLoop (A : MW h g r dp t σ) (S : am_S h) (sp : am_I g 349 64 = nI 0) (D1 : dA g 388 la) (D2 : dA g 389 lb) (hl : la.length = lb.length) (h64 : la.length ≤ 64) :
    ∀ k i s v5 v6 v7 v8, la.length - i = k → 1 ≤ i → i ≤ la.length → okD s → ∃ g', (∀ Q, am_J (d + 2) 264 5 [some (.ref 349), some (.int (nI la.length)), some (.double s), none, some (.int (nI i)), v5, v6, v7, v8] [] g Q ↔ Q none g') ∧ MW h g' r dp t σ ∧ AK g g' t ∧ MO h g' r (arV la lb k i s) := by
  have Sg := MW_S A S
  intro k
  induction k with
  | zero =>
    intro i s v5 v6 v7 v8 hk hi hi2 ks
    obtain rfl : i = la.length := by omega
    obtain ⟨g', q1, A1, K1, O1⟩ := m_giveD (d := d) A S sp (okD_nn ks)
    rw [show gv s = .inl (.inr s) from if_pos (finB_ok.mpr ks)] at O1
    refine ⟨g', fun Q => ?_, A1, K1, O1⟩
    rw [g264_5]
    simp (disch := first | with_reducible assumption | omega | exact Or.inl rfl | exact Or.inr rfl | exact bI_01 | exact c_cat | exact vt_ref | exact vt_null | rfl | with_reducible repeat (first | assumption | omega | apply S_I | apply S_L | apply S_D | apply ob_I | apply ob_L | apply ob_D | apply ob_R | apply ax_I | apply ax_L | apply ax_D | apply ax_R | apply o303 | apply o307 | apply o302 | apply o301 | apply ax304 | apply ax305 | apply ax306 | apply ax308 | apply ax309 | apply ax310 | apply lt_S | apply ar305 | apply ar308 | apply ar309)) only [g264_7, g264_8, g264_11, g264_12, g264_15, g264_17, g264_18, g264_19, g264_22, g264_24, g264_25, g264_26, g264_27, g264_28, g264_30, g264_31, g264_34, g264_36, g264_37, g264_38, g264_39, g264_40, g264_43, g264_45, g264_46, g264_47, g264_49, g264_51, g264_54, g264_57, g264_59, g264_62, g264_65, g264_67, g264_69, g264_70, g264_73, g264_76, g264_77, g264_78, g264_81, g264_82, g264_83, g264_85, g264_87, g264_88, g264_91, g264_92, g264_93, g264_94, g264_95, g264_98, g264_101, g264_102, g264_103, g264_106, g264_107, g264_110, g264_113, g264_114, g264_115, g264_118, Option.toList, List.nil_append, List.cons_append, va_rf, nI_ltI, nI_leI, nI_eq, nI_add, nI_sub, nI_lt0, nI_e0, nI_m1, m1_nI, Nat.reduceEqDiff, Nat.reduceLT, Nat.reduceLeDiff, Nat.reduceAdd, Nat.reduceSub, Nat.reduceMul, ↓reduceIte, eq_self, Nat.le_refl, q1 _]
  | succ k ih =>
    intro i s v5 v6 v7 v8 hk hi hi2 ks
    obtain ⟨u1, ku1⟩ := dA_at D1 (show i - 1 < la.length by omega)
    obtain ⟨u2, ku2⟩ := dA_at D1 (show i < la.length by omega)
    obtain ⟨w1, kw1⟩ := dA_at D2 (show i - 1 < lb.length by omega)
    obtain ⟨w2, kw2⟩ := dA_at D2 (show i < lb.length by omega)
    have n1 := ok_sub ku2 ku1
    have n2 := ok_add kw1 kw2
    have ie1 := m_isEndless (d := d + 1) (g := g) n1
    have ie2 := m_isEndless (d := d + 1) (g := g) n2
    have fl := m_fail (d := d + 1) (k := 5) A S
    show ∃ g', _ ∧ _ ∧ _ ∧ MO h g' r (if finB (Jvm.FP.dsub (la.getD i 0) (la.getD (i - 1) 0)) = true ∧ finB (Jvm.FP.dadd (lb.getD (i - 1) 0) (lb.getD i 0)) = true then
      (if finB (Jvm.FP.dmul (Jvm.FP.dsub (la.getD i 0) (la.getD (i - 1) 0)) (Jvm.FP.dadd (lb.getD (i - 1) 0) (lb.getD i 0))) = true then
        (if finB (Jvm.FP.dadd s (Jvm.FP.ddiv (Jvm.FP.dmul (Jvm.FP.dsub (la.getD i 0) (la.getD (i - 1) 0)) (Jvm.FP.dadd (lb.getD (i - 1) 0) (lb.getD i 0))) 4611686018427387904)) = true then
          arV la lb k (i + 1) (Jvm.FP.dadd s (Jvm.FP.ddiv (Jvm.FP.dmul (Jvm.FP.dsub (la.getD i 0) (la.getD (i - 1) 0)) (Jvm.FP.dadd (lb.getD (i - 1) 0) (lb.getD i 0))) 4611686018427387904))
        else oF 5) else oF 5) else oF 5)
    by_cases f1 : finB (Jvm.FP.dsub (la.getD i 0) (la.getD (i - 1) 0)) = true
    · rw [f1, Bool.not_true, bI_f] at ie1
      by_cases f2 : finB (Jvm.FP.dadd (lb.getD (i - 1) 0) (lb.getD i 0)) = true
      · rw [f2, Bool.not_true, bI_f] at ie2
        rw [if_pos ⟨f1, f2⟩]
        have n3 := ok_mul (finB_ok.mp f1) (finB_ok.mp f2)
        have ie3 := m_isEndless (d := d + 1) (g := g) n3
        by_cases f3 : finB (Jvm.FP.dmul (Jvm.FP.dsub (la.getD i 0) (la.getD (i - 1) 0)) (Jvm.FP.dadd (lb.getD (i - 1) 0) (lb.getD i 0))) = true
        · rw [f3, Bool.not_true, bI_f] at ie3
          rw [if_pos f3]
          have n4 := ok_div (finB_ok.mp f3) ok_two two_nz
          have n5 := ok_add' ks n4
          have ie4 := m_isEndless (d := d + 1) (g := g) n5
          by_cases f4 : finB (Jvm.FP.dadd s (Jvm.FP.ddiv (Jvm.FP.dmul (Jvm.FP.dsub (la.getD i 0) (la.getD (i - 1) 0)) (Jvm.FP.dadd (lb.getD (i - 1) 0) (lb.getD i 0))) 4611686018427387904)) = true
          · rw [f4, Bool.not_true, bI_f] at ie4
            rw [if_pos f4]
            obtain ⟨g', q1, A1, K1, O1⟩ := ih (i + 1) (Jvm.FP.dadd s (Jvm.FP.ddiv (Jvm.FP.dmul (Jvm.FP.dsub (la.getD i 0) (la.getD (i - 1) 0)) (Jvm.FP.dadd (lb.getD (i - 1) 0) (lb.getD i 0))) 4611686018427387904)) (some (.double (Jvm.FP.dsub (la.getD i 0) (la.getD (i - 1) 0)))) none (some (.double (Jvm.FP.dadd (lb.getD (i - 1) 0) (lb.getD i 0)))) none (by omega) (by omega) (by omega) (finB_ok.mp f4)
            refine ⟨g', fun Q => ?_, A1, K1, O1⟩
            rw [← q1 Q, g264_5]
            simp (disch := first | with_reducible assumption | omega | exact Or.inl rfl | exact Or.inr rfl | exact bI_01 | exact c_cat | exact vt_ref | exact vt_null | rfl | with_reducible repeat (first | assumption | omega | apply S_I | apply S_L | apply S_D | apply ob_I | apply ob_L | apply ob_D | apply ob_R | apply ax_I | apply ax_L | apply ax_D | apply ax_R | apply o303 | apply o307 | apply o302 | apply o301 | apply ax304 | apply ax305 | apply ax306 | apply ax308 | apply ax309 | apply ax310 | apply lt_S | apply ar305 | apply ar308 | apply ar309)) only [g264_7, g264_8, g264_11, g264_12, g264_15, g264_17, g264_18, g264_19, g264_22, g264_24, g264_25, g264_26, g264_27, g264_28, g264_30, g264_31, g264_34, g264_36, g264_37, g264_38, g264_39, g264_40, g264_43, g264_45, g264_46, g264_47, g264_49, g264_51, g264_54, g264_57, g264_59, g264_62, g264_65, g264_67, g264_69, g264_70, g264_73, g264_76, g264_77, g264_78, g264_81, g264_82, g264_83, g264_85, g264_87, g264_88, g264_91, g264_92, g264_93, g264_94, g264_95, g264_98, g264_101, g264_102, g264_103, g264_106, g264_107, g264_110, Option.toList, List.nil_append, List.cons_append, va_rf, nI_ltI, nI_leI, nI_eq, nI_add, nI_sub, nI_lt0, nI_e0, nI_m1, m1_nI, Nat.reduceEqDiff, Nat.reduceLT, Nat.reduceLeDiff, Nat.reduceAdd, Nat.reduceSub, Nat.reduceMul, ↓reduceIte, eq_self, show ¬ la.length ≤ i by omega, u1, u2, w1, w2, ie1 _, ie2 _, ie3 _, ie4 _]
          · rw [show finB (Jvm.FP.dadd s (Jvm.FP.ddiv (Jvm.FP.dmul (Jvm.FP.dsub (la.getD i 0) (la.getD (i - 1) 0)) (Jvm.FP.dadd (lb.getD (i - 1) 0) (lb.getD i 0))) 4611686018427387904)) = false from Bool.eq_false_iff.mpr f4, Bool.not_false, bI_t] at ie4
            rw [if_neg f4]
            refine ⟨gFa g 5 r, fun Q => ?_, gFa_W A, gFa_A, gFa_O (by decide) sp⟩
            rw [g264_5]
            simp (disch := first | with_reducible assumption | omega | exact Or.inl rfl | exact Or.inr rfl | exact bI_01 | exact c_cat | exact vt_ref | exact vt_null | rfl | with_reducible repeat (first | assumption | omega | apply S_I | apply S_L | apply S_D | apply ob_I | apply ob_L | apply ob_D | apply ob_R | apply ax_I | apply ax_L | apply ax_D | apply ax_R | apply o303 | apply o307 | apply o302 | apply o301 | apply ax304 | apply ax305 | apply ax306 | apply ax308 | apply ax309 | apply ax310 | apply lt_S | apply ar305 | apply ar308 | apply ar309)) only [g264_7, g264_8, g264_11, g264_12, g264_15, g264_17, g264_18, g264_19, g264_22, g264_24, g264_25, g264_26, g264_27, g264_28, g264_30, g264_31, g264_34, g264_36, g264_37, g264_38, g264_39, g264_40, g264_43, g264_45, g264_46, g264_47, g264_49, g264_51, g264_54, g264_57, g264_59, g264_62, g264_65, g264_67, g264_69, g264_70, g264_73, g264_76, g264_77, g264_78, g264_81, g264_82, g264_83, g264_85, g264_87, g264_88, g264_91, g264_92, g264_93, g264_94, g264_95, g264_98, g264_101, g264_102, g264_103, g264_106, g264_107, g264_110, Option.toList, List.nil_append, List.cons_append, va_rf, nI_ltI, nI_leI, nI_eq, nI_add, nI_sub, nI_lt0, nI_e0, nI_m1, m1_nI, Nat.reduceEqDiff, Nat.reduceLT, Nat.reduceLeDiff, Nat.reduceAdd, Nat.reduceSub, Nat.reduceMul, ↓reduceIte, eq_self, show ¬ la.length ≤ i by omega, u1, u2, w1, w2, ie1 _, ie2 _, ie3 _, ie4 _, fl _]
        · rw [show finB (Jvm.FP.dmul (Jvm.FP.dsub (la.getD i 0) (la.getD (i - 1) 0)) (Jvm.FP.dadd (lb.getD (i - 1) 0) (lb.getD i 0))) = false from Bool.eq_false_iff.mpr f3, Bool.not_false, bI_t] at ie3
          rw [if_neg f3]
          refine ⟨gFa g 5 r, fun Q => ?_, gFa_W A, gFa_A, gFa_O (by decide) sp⟩
          rw [g264_5]
          simp (disch := first | with_reducible assumption | omega | exact Or.inl rfl | exact Or.inr rfl | exact bI_01 | exact c_cat | exact vt_ref | exact vt_null | rfl | with_reducible repeat (first | assumption | omega | apply S_I | apply S_L | apply S_D | apply ob_I | apply ob_L | apply ob_D | apply ob_R | apply ax_I | apply ax_L | apply ax_D | apply ax_R | apply o303 | apply o307 | apply o302 | apply o301 | apply ax304 | apply ax305 | apply ax306 | apply ax308 | apply ax309 | apply ax310 | apply lt_S | apply ar305 | apply ar308 | apply ar309)) only [g264_7, g264_8, g264_11, g264_12, g264_15, g264_17, g264_18, g264_19, g264_22, g264_24, g264_25, g264_26, g264_27, g264_28, g264_30, g264_31, g264_34, g264_36, g264_37, g264_38, g264_39, g264_40, g264_43, g264_45, g264_46, g264_47, g264_49, g264_51, g264_54, g264_57, g264_59, g264_62, g264_65, g264_67, g264_69, g264_70, g264_73, g264_76, g264_77, g264_78, g264_81, g264_82, g264_83, g264_85, g264_87, g264_88, g264_91, g264_92, g264_93, g264_94, g264_95, g264_98, g264_101, g264_102, g264_103, g264_106, g264_107, g264_110, Option.toList, List.nil_append, List.cons_append, va_rf, nI_ltI, nI_leI, nI_eq, nI_add, nI_sub, nI_lt0, nI_e0, nI_m1, m1_nI, Nat.reduceEqDiff, Nat.reduceLT, Nat.reduceLeDiff, Nat.reduceAdd, Nat.reduceSub, Nat.reduceMul, ↓reduceIte, eq_self, show ¬ la.length ≤ i by omega, u1, u2, w1, w2, ie1 _, ie2 _, ie3 _, fl _]
      · rw [show finB (Jvm.FP.dadd (lb.getD (i - 1) 0) (lb.getD i 0)) = false from Bool.eq_false_iff.mpr f2, Bool.not_false, bI_t] at ie2
        rw [if_neg (fun q => f2 q.2)]
        refine ⟨gFa g 5 r, fun Q => ?_, gFa_W A, gFa_A, gFa_O (by decide) sp⟩
        rw [g264_5]
        simp (disch := first | with_reducible assumption | omega | exact Or.inl rfl | exact Or.inr rfl | exact bI_01 | exact c_cat | exact vt_ref | exact vt_null | rfl | with_reducible repeat (first | assumption | omega | apply S_I | apply S_L | apply S_D | apply ob_I | apply ob_L | apply ob_D | apply ob_R | apply ax_I | apply ax_L | apply ax_D | apply ax_R | apply o303 | apply o307 | apply o302 | apply o301 | apply ax304 | apply ax305 | apply ax306 | apply ax308 | apply ax309 | apply ax310 | apply lt_S | apply ar305 | apply ar308 | apply ar309)) only [g264_7, g264_8, g264_11, g264_12, g264_15, g264_17, g264_18, g264_19, g264_22, g264_24, g264_25, g264_26, g264_27, g264_28, g264_30, g264_31, g264_34, g264_36, g264_37, g264_38, g264_39, g264_40, g264_43, g264_45, g264_46, g264_47, g264_49, g264_51, g264_54, g264_57, g264_59, g264_62, g264_65, g264_67, g264_69, g264_70, g264_73, g264_76, g264_77, g264_78, g264_81, g264_82, g264_83, g264_85, g264_87, g264_88, g264_91, g264_92, g264_93, g264_94, g264_95, g264_98, g264_101, g264_102, g264_103, g264_106, g264_107, g264_110, Option.toList, List.nil_append, List.cons_append, va_rf, nI_ltI, nI_leI, nI_eq, nI_add, nI_sub, nI_lt0, nI_e0, nI_m1, m1_nI, Nat.reduceEqDiff, Nat.reduceLT, Nat.reduceLeDiff, Nat.reduceAdd, Nat.reduceSub, Nat.reduceMul, ↓reduceIte, eq_self, show ¬ la.length ≤ i by omega, u1, u2, w1, w2, ie1 _, ie2 _, fl _]
    · rw [show finB (Jvm.FP.dsub (la.getD i 0) (la.getD (i - 1) 0)) = false from Bool.eq_false_iff.mpr f1, Bool.not_false, bI_t] at ie1
      rw [if_neg (fun q => f1 q.1)]
      refine ⟨gFa g 5 r, fun Q => ?_, gFa_W A, gFa_A, gFa_O (by decide) sp⟩
      rw [g264_5]
      simp (disch := first | with_reducible assumption | omega | exact Or.inl rfl | exact Or.inr rfl | exact bI_01 | exact c_cat | exact vt_ref | exact vt_null | rfl | with_reducible repeat (first | assumption | omega | apply S_I | apply S_L | apply S_D | apply ob_I | apply ob_L | apply ob_D | apply ob_R | apply ax_I | apply ax_L | apply ax_D | apply ax_R | apply o303 | apply o307 | apply o302 | apply o301 | apply ax304 | apply ax305 | apply ax306 | apply ax308 | apply ax309 | apply ax310 | apply lt_S | apply ar305 | apply ar308 | apply ar309)) only [g264_7, g264_8, g264_11, g264_12, g264_15, g264_17, g264_18, g264_19, g264_22, g264_24, g264_25, g264_26, g264_27, g264_28, g264_30, g264_31, g264_34, g264_36, g264_37, g264_38, g264_39, g264_40, g264_43, g264_45, g264_46, g264_47, g264_49, g264_51, g264_54, g264_57, g264_59, g264_62, g264_65, g264_67, g264_69, g264_70, g264_73, g264_76, g264_77, g264_78, g264_81, g264_82, g264_83, g264_85, g264_87, g264_88, g264_91, g264_92, g264_93, g264_94, g264_95, g264_98, g264_101, g264_102, g264_103, g264_106, g264_107, g264_110, Option.toList, List.nil_append, List.cons_append, va_rf, nI_ltI, nI_leI, nI_eq, nI_add, nI_sub, nI_lt0, nI_e0, nI_m1, m1_nI, Nat.reduceEqDiff, Nat.reduceLT, Nat.reduceLeDiff, Nat.reduceAdd, Nat.reduceSub, Nat.reduceMul, ↓reduceIte, eq_self, show ¬ la.length ≤ i by omega, u1, u2, w1, w2, ie1 _, fl _]
theorem m_area (A : MW h g r dp t σ) (S : am_S h) (sp : am_I g 349 64 = nI 0) (D1 : dA g 388 la) (D2 : dA g 389 lb) (hl : la.length = lb.length) (hn : 1 < la.length) (h64 : la.length ≤ 64) :
    ∃ g', am_run (d + 2) 264 [some (.ref 349), some (.int (nI la.length)), none, none, none, none, none, none, none] g none g' ∧ MW h g' r dp t σ ∧ AK g g' t ∧ MO h g' r (arV la lb (la.length - 1) 1 Jvm.FP.dconst0) := by
  obtain ⟨g', q1, A1, K1, O1⟩ := m_areaLoop (d := d) A S sp D1 D2 hl h64 (la.length - 1) 1 Jvm.FP.dconst0 none none none none rfl (Nat.le_refl _) (by omega) (uV_ok unit0)
  refine ⟨g', fun Q => ?_, A1, K1, O1⟩
  rw [← q1 Q]
  simp (disch := first | with_reducible assumption | omega | exact Or.inl rfl | exact Or.inr rfl | exact bI_01 | exact c_cat | exact vt_ref | exact vt_null | rfl | with_reducible repeat (first | assumption | omega | apply S_I | apply S_L | apply S_D | apply ob_I | apply ob_L | apply ob_D | apply ob_R | apply ax_I | apply ax_L | apply ax_D | apply ax_R | apply o303 | apply o307 | apply o302 | apply o301 | apply ax304 | apply ax305 | apply ax306 | apply ax308 | apply ax309 | apply ax310 | apply lt_S | apply ar305 | apply ar308 | apply ar309)) only [g264_0, g264_1, g264_2, g264_3, Option.toList, List.nil_append, List.cons_append, va_rf]
/-- the end of workTable, both rows read -/
theorem m_tabEnd {w xn : Nat} {b1 s1 : Int32} {sl : Nat} {v10 v11 : Option Value} (hw : w = 7 ∨ w = 8) (A : MW h g r dp t σ) (S : am_S h) (sp : am_I g 349 64 = nI 0) (kx : okD x) (D1 : dA g 388 la) (D2 : dA g 389 lb) (h64 : la.length ≤ 64) (h64b : lb.length ≤ 64) :
    ∃ g', (∀ Q, am_J (d + 3) 261 130 [some (.ref 349), some (.int (nI sl)), some (.int b1), some (.int s1), some (.int (nI xn)), some (.int (nI w)), some (.double x), none, some (.int (nI la.length)), some (.int (nI lb.length)), v10, v11] [] g Q ↔ Q none g') ∧ MW h g' r dp t σ ∧ AK g g' t ∧ MO h g' r (tabV w x la lb) := by
  have Sg := MW_S A S
  have fl := m_fail (d := d + 2) (k := 7) A S
  have bad : ∀ Q i, am_J (d + 3) 261 153 [some (.ref 349), some (.int (nI sl)), some (.int b1), some (.int s1), some (.int (nI xn)), some (.int (nI w)), some (.double x), none, some (.int (nI la.length)), some (.int (nI lb.length)), some (.int (nI 0)), some (.int (nI i))] [] g Q ↔ Q none (gFa g 7 r) := fun Q i => by
    by_cases ci : nI la.length ≤ nI i
    · simp (disch := first | with_reducible assumption | omega | exact Or.inl rfl | exact Or.inr rfl | exact bI_01 | exact c_cat | exact vt_ref | exact vt_null | rfl | with_reducible repeat (first | assumption | omega | apply S_I | apply S_L | apply S_D | apply ob_I | apply ob_L | apply ob_D | apply ob_R | apply ax_I | apply ax_L | apply ax_D | apply ax_R | apply o303 | apply o307 | apply o302 | apply o301 | apply ax304 | apply ax305 | apply ax306 | apply ax308 | apply ax309 | apply ax310 | apply lt_S | apply ar305 | apply ar308 | apply ar309)) only [g261_153, g261_155, g261_157, g261_160, g261_162, g261_165, g261_167, g261_169, g261_172, g261_173, g261_176, g261_178, g261_179, g261_180, g261_181, g261_182, g261_185, g261_187, g261_188, g261_189, g261_192, g261_193, g261_196, g261_197, g261_199, g261_202, g261_205, g261_207, g261_210, g261_211, g261_213, g261_216, g261_243, Option.toList, List.nil_append, List.cons_append, va_rf, ci, ↓reduceIte, i0_e0, fl _]
    · simp (disch := first | with_reducible assumption | omega | exact Or.inl rfl | exact Or.inr rfl | exact bI_01 | exact c_cat | exact vt_ref | exact vt_null | rfl | with_reducible repeat (first | assumption | omega | apply S_I | apply S_L | apply S_D | apply ob_I | apply ob_L | apply ob_D | apply ob_R | apply ax_I | apply ax_L | apply ax_D | apply ax_R | apply o303 | apply o307 | apply o302 | apply o301 | apply ax304 | apply ax305 | apply ax306 | apply ax308 | apply ax309 | apply ax310 | apply lt_S | apply ar305 | apply ar308 | apply ar309)) only [g261_153, g261_155, g261_157, g261_160, g261_162, g261_165, g261_167, g261_169, g261_172, g261_173, g261_176, g261_178, g261_179, g261_180, g261_181, g261_182, g261_185, g261_187, g261_188, g261_189, g261_192, g261_193, g261_196, g261_197, g261_199, g261_202, g261_205, g261_207, g261_210, g261_211, g261_213, g261_216, g261_243, Option.toList, List.nil_append, List.cons_append, va_rf, ci, ↓reduceIte, i0_e0, fl _]
  unfold tabV
  by_cases c1 : la.length = lb.length
  · by_cases c2 : 1 < la.length
    · rcases hw with rfl | rfl
      · have Lp : ∀ k i, la.length - i = k → 1 ≤ i → i ≤ la.length → rising la i = true → (rising la la.length = true → ∀ Q, am_J (d + 3) 261 153 [some (.ref 349), some (.int (nI sl)), some (.int b1), some (.int s1), some (.int (nI xn)), some (.int (nI 7)), some (.double x), none, some (.int (nI la.length)), some (.int (nI lb.length)), some (.int (nI 1)), some (.int (nI i))] [] g Q ↔ am_J (d + 3) 261 205 [some (.ref 349), some (.int (nI sl)), some (.int b1), some (.int s1), some (.int (nI xn)), some (.int (nI 7)), some (.double x), none, some (.int (nI la.length)), some (.int (nI lb.length)), some (.int (nI 1)), some (.int (nI la.length))] [] g Q) ∧
            (rising la la.length = false → ∀ Q, am_J (d + 3) 261 153 [some (.ref 349), some (.int (nI sl)), some (.int b1), some (.int s1), some (.int (nI xn)), some (.int (nI 7)), some (.double x), none, some (.int (nI la.length)), some (.int (nI lb.length)), some (.int (nI 1)), some (.int (nI i))] [] g Q ↔ Q none (gFa g 7 r)) := by
          intro k
          induction k with
          | zero =>
            intro i hk h1 h2 hr
            obtain rfl : i = la.length := by omega
            refine ⟨fun _ Q => ?_, fun q => ?_⟩
            · rw [g261_153]
              simp (disch := first | with_reducible assumption | omega | exact Or.inl rfl | exact Or.inr rfl | exact bI_01 | exact c_cat | exact vt_ref | exact vt_null | rfl | with_reducible repeat (first | assumption | omega | apply S_I | apply S_L | apply S_D | apply ob_I | apply ob_L | apply ob_D | apply ob_R | apply ax_I | apply ax_L | apply ax_D | apply ax_R | apply o303 | apply o307 | apply o302 | apply o301 | apply ax304 | apply ax305 | apply ax306 | apply ax308 | apply ax309 | apply ax310 | apply lt_S | apply ar305 | apply ar308 | apply ar309)) only [g261_155, g261_157, g261_160, g261_162, g261_165, g261_167, g261_169, g261_172, g261_173, g261_176, g261_178, g261_179, g261_180, g261_181, g261_182, g261_185, g261_187, g261_188, g261_189, g261_192, g261_193, g261_196, g261_197, g261_199, g261_202, Option.toList, List.nil_append, List.cons_append, va_rf, nI_ltI, nI_leI, nI_eq, nI_add, nI_sub, nI_lt0, nI_e0, nI_m1, m1_nI, Nat.reduceEqDiff, Nat.reduceLT, Nat.reduceLeDiff, Nat.reduceAdd, Nat.reduceSub, Nat.reduceMul, ↓reduceIte, eq_self, Nat.le_refl]
            · rw [hr] at q; cases q
          | succ k ih =>
            intro i hk h1 h2 hr
            obtain ⟨u1, ku1⟩ := dA_at D1 (show i - 1 < la.length by omega)
            obtain ⟨u2, ku2⟩ := dA_at D1 (show i < la.length by omega)
            have ck := dlt_key (okD_nn ku1) (okD_nn ku2)
            have cr := cm_ge (okD_nn ku1) (okD_nn ku2) .g
            cases c3 : dlt (la.getD (i - 1) 0) (la.getD i 0) with
            | true =>
              rw [c3] at ck
              have ck := of_decide_eq_true ck.symm
              obtain ⟨t1, t2⟩ := ih (i + 1) (by omega) (by omega) (by omega) (by rw [rising_s, hr, c3]; simp)
              have st : ∀ Q, am_J (d + 3) 261 153 [some (.ref 349), some (.int (nI sl)), some (.int b1), some (.int s1), some (.int (nI xn)), some (.int (nI 7)), some (.double x), none, some (.int (nI la.length)), some (.int (nI lb.length)), some (.int (nI 1)), some (.int (nI i))] [] g Q ↔ am_J (d + 3) 261 153 [some (.ref 349), some (.int (nI sl)), some (.int b1), some (.int s1), some (.int (nI xn)), some (.int (nI 7)), some (.double x), none, some (.int (nI la.length)), some (.int (nI lb.length)), some (.int (nI 1)), some (.int (nI (i + 1)))] [] g Q := fun Q => by
                rw [g261_153]
                simp (disch := first | with_reducible assumption | omega | exact Or.inl rfl | exact Or.inr rfl | exact bI_01 | exact c_cat | exact vt_ref | exact vt_null | rfl | with_reducible repeat (first | assumption | omega | apply S_I | apply S_L | apply S_D | apply ob_I | apply ob_L | apply ob_D | apply ob_R | apply ax_I | apply ax_L | apply ax_D | apply ax_R | apply o303 | apply o307 | apply o302 | apply o301 | apply ax304 | apply ax305 | apply ax306 | apply ax308 | apply ax309 | apply ax310 | apply lt_S | apply ar305 | apply ar308 | apply ar309)) only [g261_155, g261_157, g261_160, g261_162, g261_165, g261_167, g261_169, g261_172, g261_173, g261_176, g261_178, g261_179, g261_180, g261_181, g261_182, g261_185, g261_187, g261_188, g261_189, g261_192, g261_193, g261_196, g261_197, g261_199, g261_202, Option.toList, List.nil_append, List.cons_append, va_rf, nI_ltI, nI_leI, nI_eq, nI_add, nI_sub, nI_lt0, nI_e0, nI_m1, m1_nI, Nat.reduceEqDiff, Nat.reduceLT, Nat.reduceLeDiff, Nat.reduceAdd, Nat.reduceSub, Nat.reduceMul, ↓reduceIte, eq_self, show ¬ la.length ≤ i by omega, u1, u2, cr, eq_false (show ¬ Jvm.FP.Core.dkey (la.getD i 0) ≤ Jvm.FP.Core.dkey (la.getD (i - 1) 0) by omega)]
              exact ⟨fun q Q => (st Q).trans (t1 q Q), fun q Q => (st Q).trans (t2 q Q)⟩
            | false =>
              rw [c3] at ck
              have ck := of_decide_eq_false ck.symm
              have rf : rising la (i + 1) = false := by
                rw [rising_s, hr, c3, show decide (i = 0) = false from decide_eq_false (by omega)]; rfl
              refine ⟨fun q => ?_, fun _ Q => ?_⟩
              · have := rising_le (show i + 1 ≤ la.length by omega) q
                rw [rf] at this; cases this
              · rw [← bad Q (i + 1), g261_153]
                simp (disch := first | with_reducible assumption | omega | exact Or.inl rfl | exact Or.inr rfl | exact bI_01 | exact c_cat | exact vt_ref | exact vt_null | rfl | with_reducible repeat (first | assumption | omega | apply S_I | apply S_L | apply S_D | apply ob_I | apply ob_L | apply ob_D | apply ob_R | apply ax_I | apply ax_L | apply ax_D | apply ax_R | apply o303 | apply o307 | apply o302 | apply o301 | apply ax304 | apply ax305 | apply ax306 | apply ax308 | apply ax309 | apply ax310 | apply lt_S | apply ar305 | apply ar308 | apply ar309)) only [g261_155, g261_157, g261_160, g261_162, g261_165, g261_167, g261_169, g261_172, g261_173, g261_176, g261_178, g261_179, g261_180, g261_181, g261_182, g261_185, g261_187, g261_188, g261_189, g261_192, g261_193, g261_196, g261_197, g261_199, g261_202, Option.toList, List.nil_append, List.cons_append, va_rf, nI_ltI, nI_leI, nI_eq, nI_add, nI_sub, nI_lt0, nI_e0, nI_m1, m1_nI, Nat.reduceEqDiff, Nat.reduceLT, Nat.reduceLeDiff, Nat.reduceAdd, Nat.reduceSub, Nat.reduceMul, ↓reduceIte, eq_self, show ¬ la.length ≤ i by omega, u1, u2, cr, eq_true (show Jvm.FP.Core.dkey (la.getD i 0) ≤ Jvm.FP.Core.dkey (la.getD (i - 1) 0) by omega)]
        obtain ⟨p1, p2⟩ := Lp (la.length - 1) 1 rfl (Nat.le_refl _) (by omega) (by rw [rising_s]; simp [rising])
        have front : ∀ Q, am_J (d + 3) 261 130 [some (.ref 349), some (.int (nI sl)), some (.int b1), some (.int s1), some (.int (nI xn)), some (.int (nI 7)), some (.double x), none, some (.int (nI la.length)), some (.int (nI lb.length)), v10, v11] [] g Q ↔ am_J (d + 3) 261 153 [some (.ref 349), some (.int (nI sl)), some (.int b1), some (.int s1), some (.int (nI xn)), some (.int (nI 7)), some (.double x), none, some (.int (nI la.length)), some (.int (nI lb.length)), some (.int (nI 1)), some (.int (nI 1))] [] g Q := fun Q => by
          simp (disch := first | with_reducible assumption | omega | exact Or.inl rfl | exact Or.inr rfl | exact bI_01 | exact c_cat | exact vt_ref | exact vt_null | rfl | with_reducible repeat (first | assumption | omega | apply S_I | apply S_L | apply S_D | apply ob_I | apply ob_L | apply ob_D | apply ob_R | apply ax_I | apply ax_L | apply ax_D | apply ax_R | apply o303 | apply o307 | apply o302 | apply o301 | apply ax304 | apply ax305 | apply ax306 | apply ax308 | apply ax309 | apply ax310 | apply lt_S | apply ar305 | apply ar308 | apply ar309)) only [g261_130, g261_132, g261_134, g261_137, g261_139, g261_140, g261_143, g261_144, g261_147, g261_148, g261_150, g261_151, Option.toList, List.nil_append, List.cons_append, va_rf, nI_ltI, nI_leI, nI_eq, nI_add, nI_sub, nI_lt0, nI_e0, nI_m1, m1_nI, Nat.reduceEqDiff, Nat.reduceLT, Nat.reduceLeDiff, Nat.reduceAdd, Nat.reduceSub, Nat.reduceMul, ↓reduceIte, eq_self, c1, show ¬ lb.length ≤ 1 by omega]
        cases c4 : rising la la.length with
        | true =>
          rw [if_pos ⟨c1, c2, fun _ => rfl⟩, if_pos rfl]
          obtain ⟨g', q1, A1, K1, O1⟩ := m_line (d := d) A S sp kx D1 D2 c1 c2 h64 c4
          refine ⟨g', fun Q => ?_, A1, K1, O1⟩
          rw [front, p1 c4]
          simp (disch := first | with_reducible assumption | omega | exact Or.inl rfl | exact Or.inr rfl | exact bI_01 | exact c_cat | exact vt_ref | exact vt_null | rfl | with_reducible repeat (first | assumption | omega | apply S_I | apply S_L | apply S_D | apply ob_I | apply ob_L | apply ob_D | apply ob_R | apply ax_I | apply ax_L | apply ax_D | apply ax_R | apply o303 | apply o307 | apply o302 | apply o301 | apply ax304 | apply ax305 | apply ax306 | apply ax308 | apply ax309 | apply ax310 | apply lt_S | apply ar305 | apply ar308 | apply ar309)) only [g261_205, g261_207, g261_210, g261_211, g261_213, g261_216, g261_219, g261_221, g261_223, g261_226, g261_227, g261_229, g261_231, g261_234, g261_237, g261_238, g261_240, g261_243, Option.toList, List.nil_append, List.cons_append, va_rf, nI_ltI, nI_leI, nI_eq, nI_add, nI_sub, nI_lt0, nI_e0, nI_m1, m1_nI, Nat.reduceEqDiff, Nat.reduceLT, Nat.reduceLeDiff, Nat.reduceAdd, Nat.reduceSub, Nat.reduceMul, ↓reduceIte, eq_self, q1 _]
        | false =>
          rw [if_neg (fun q => by have := q.2.2 rfl; cases this)]
          refine ⟨gFa g 7 r, fun Q => ?_, gFa_W A, gFa_A, gFa_O (by decide) sp⟩
          rw [front, p2 c4]
      · rw [if_pos ⟨c1, c2, fun q => absurd q (by decide)⟩, if_neg (by decide)]
        obtain ⟨g', q1, A1, K1, O1⟩ := m_area (d := d) A S sp D1 D2 c1 c2 h64
        refine ⟨g', fun Q => ?_, A1, K1, O1⟩
        have c5 : ¬ la.length ≤ 1 := by omega
        simp (disch := first | with_reducible assumption | omega | exact Or.inl rfl | exact Or.inr rfl | exact bI_01 | exact c_cat | exact vt_ref | exact vt_null | rfl | with_reducible repeat (first | assumption | omega | apply S_I | apply S_L | apply S_D | apply ob_I | apply ob_L | apply ob_D | apply ob_R | apply ax_I | apply ax_L | apply ax_D | apply ax_R | apply o303 | apply o307 | apply o302 | apply o301 | apply ax304 | apply ax305 | apply ax306 | apply ax308 | apply ax309 | apply ax310 | apply lt_S | apply ar305 | apply ar308 | apply ar309)) only [g261_130, g261_132, g261_134, g261_137, g261_139, g261_140, g261_143, g261_144, g261_147, g261_148, g261_150, g261_151, g261_153, g261_155, g261_157, g261_160, g261_162, g261_165, g261_167, g261_169, g261_172, g261_173, g261_176, g261_178, g261_179, g261_180, g261_181, g261_182, g261_185, g261_187, g261_188, g261_189, g261_192, g261_193, g261_196, g261_197, g261_199, g261_202, g261_205, g261_207, g261_210, g261_211, g261_213, g261_216, g261_219, g261_221, g261_223, g261_226, g261_227, g261_229, g261_231, g261_234, g261_237, g261_238, g261_240, g261_243, Option.toList, List.nil_append, List.cons_append, va_rf, nI_ltI, nI_leI, nI_eq, nI_add, nI_sub, nI_lt0, nI_e0, nI_m1, m1_nI, Nat.reduceEqDiff, Nat.reduceLT, Nat.reduceLeDiff, Nat.reduceAdd, Nat.reduceSub, Nat.reduceMul, ↓reduceIte, eq_self, c1.symm, c5, q1 _]
    · rw [if_neg (fun q => c2 q.2.1)]
      refine ⟨gFa g 7 r, fun Q => ?_, gFa_W A, gFa_A, gFa_O (by decide) sp⟩
      rw [← bad Q 1]
      simp (disch := first | with_reducible assumption | omega | exact Or.inl rfl | exact Or.inr rfl | exact bI_01 | exact c_cat | exact vt_ref | exact vt_null | rfl | with_reducible repeat (first | assumption | omega | apply S_I | apply S_L | apply S_D | apply ob_I | apply ob_L | apply ob_D | apply ob_R | apply ax_I | apply ax_L | apply ax_D | apply ax_R | apply o303 | apply o307 | apply o302 | apply o301 | apply ax304 | apply ax305 | apply ax306 | apply ax308 | apply ax309 | apply ax310 | apply lt_S | apply ar305 | apply ar308 | apply ar309)) only [g261_130, g261_132, g261_134, g261_137, g261_139, g261_140, g261_143, g261_144, g261_147, g261_148, g261_150, g261_151, Option.toList, List.nil_append, List.cons_append, va_rf, nI_ltI, nI_leI, nI_eq, nI_add, nI_sub, nI_lt0, nI_e0, nI_m1, m1_nI, Nat.reduceEqDiff, Nat.reduceLT, Nat.reduceLeDiff, Nat.reduceAdd, Nat.reduceSub, Nat.reduceMul, ↓reduceIte, eq_self, c1, show lb.length ≤ 1 by omega]
  · rw [if_neg (fun q => c1 q.1)]
    refine ⟨gFa g 7 r, fun Q => ?_, gFa_W A, gFa_A, gFa_O (by decide) sp⟩
    rw [← bad Q 1]
    simp (disch := first | with_reducible assumption | omega | exact Or.inl rfl | exact Or.inr rfl | exact bI_01 | exact c_cat | exact vt_ref | exact vt_null | rfl | with_reducible repeat (first | assumption | omega | apply S_I | apply S_L | apply S_D | apply ob_I | apply ob_L | apply ob_D | apply ob_R | apply ax_I | apply ax_L | apply ax_D | apply ax_R | apply o303 | apply o307 | apply o302 | apply o301 | apply ax304 | apply ax305 | apply ax306 | apply ax308 | apply ax309 | apply ax310 | apply lt_S | apply ar305 | apply ar308 | apply ar309)) only [g261_130, g261_132, g261_134, g261_137, g261_139, g261_140, g261_143, g261_144, g261_147, g261_148, g261_150, g261_151, Option.toList, List.nil_append, List.cons_append, va_rf, nI_ltI, nI_leI, nI_eq, nI_add, nI_sub, nI_lt0, nI_e0, nI_m1, m1_nI, Nat.reduceEqDiff, Nat.reduceLT, Nat.reduceLeDiff, Nat.reduceAdd, Nat.reduceSub, Nat.reduceMul, ↓reduceIte, eq_self, c1]
end MLN

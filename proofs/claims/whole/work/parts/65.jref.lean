/-! BOTH PARSERS: a reference as an atom -/
section JRF
variable {d : Nat} {h hx hm : am_H} {Q : Option Value → am_H → Prop} {v1 v2 v3 : Option Value} {so s vis on na nc nf : Nat} {oX oM : Int64} {agX agM cnX cnM fnX fnM : Nat → Int64} {fnA : Nat → Nat}
variable {t : Nat → Nat} {n q : Nat} {md : Nat ⊕ (Nat × Nat)} {C : List (Int32 × Int64)} {P : List Int32} {N : List Nat} {F ln lp wn wp : Int32} {k o m : Nat} {k' o' : Int32} {ltx ltm : Option (Nat × Nat)}
/-- the rest of ref, behind tellStep: any state -/
theorem x_refR (X : PX h t n md C P N F k' o' ln lp) (hso : am_I h 301 5 = nI so) (hs3 : so < 3) : ∃ h' c P', c < 256 ∧ (∀ Q, am_J (d + 4) 87 4 [some (.ref 301)] [] h Q ↔ Q none h') ∧ PX h' t n (mdA t n md) (xadd C (nI 3, lN c)) P' (if so = 0 then nadd N c else N) F k' o' (if so = 0 then ln else (xlat ln lp (nI 4) (am_I h 302 3)).1) (if so = 0 then lp else (xlat ln lp (nI 4) (am_I h 302 3)).2) ∧ XF h h' ∧ P'.length ≤ P.length + 240 ∧ (∀ q, md = .inl q → lx_K t n q = 259 → c = lx_c t q ∧ P' = xcop t n P q 3) := by
  have S := X.1
  obtain ⟨-, -, c, hc, ec⟩ := px_pos X
  -- addNeed or later
  have H : ∃ h1, (∀ Q, am_J (d + 4) 87 4 [some (.ref 301)] [] h Q ↔ am_J (d + 4) 87 40 [some (.ref 301)] [] h1 Q) ∧ PX h1 t n md C P (if so = 0 then nadd N c else N) F k' o' (if so = 0 then ln else (xlat ln lp (nI 4) (am_I h 302 3)).1) (if so = 0 then lp else (xlat ln lp (nI 4) (am_I h 302 3)).2) ∧ XF h h1 ∧ (∀ j, am_I h1 302 j = am_I h 302 j) := by
    by_cases h0 : so = 0
    · obtain ⟨h1, r1, X1, F1⟩ := x_addNeed (d := d + 1) X hc
      refine ⟨h1, fun Q => ?_, by rw [if_pos h0, if_pos h0, if_pos h0]; exact X1, XF_303 F1, fun j => fr_rdI F1 (by omega)⟩
      simp (disch := first | with_reducible assumption | omega | exact Or.inl rfl | exact Or.inr rfl | exact bI_01 | exact c_cat | exact vt_ref | exact vt_null | rfl | with_reducible repeat (first | assumption | omega | apply S_I | apply S_L | apply S_D | apply ob_I | apply ob_L | apply ob_D | apply ob_R | apply ax_I | apply ax_L | apply ax_D | apply ax_R | apply o303 | apply o307 | apply o302 | apply o301 | apply ax304 | apply ax305 | apply ax306 | apply ax308 | apply ax309 | apply ax310 | apply lt_S | apply ar305 | apply ar308 | apply ar309)) only [g87_4, g87_5, g87_8, g87_11, g87_12, g87_15, g87_16, g87_19, g87_22, g87_25, g87_28, g87_29, g87_30, g87_31, g87_34, g87_37, hso, h0, ec, nI_ltI, nI_leI, nI_eq, nI_add, nI_sub, nI_lt0, nI_e0, nI_m1, m1_nI, Nat.reduceEqDiff, Nat.reduceLT, Nat.reduceLeDiff, Nat.reduceAdd, Nat.reduceSub, Nat.reduceMul, ↓reduceIte, eq_self, Option.toList, List.nil_append, List.cons_append, va_rf, r1 _]
    · obtain ⟨h1, r1, X1, F1⟩ := x_later (d := d + 3) X (f := nI 4) (p := am_I h 302 3)
      have F302 : ∀ j, am_I h1 302 j = am_I h 302 j := by
        intro j
        by_cases c1 : lp = -1 ∨ am_I h 302 3 < lp
        · have e5 := X.2.2.2.2.2.2.2.2.2.2
          have R2 : am_run (d + 3) 88 [some (.ref 301), some (.int (nI 4)), some (.int (am_I h 302 3))] h none (am_setI (am_setI h 301 11 (nI 4)) 301 12 (am_I h 302 3)) := fun Q => by
            rcases c1 with c1 | c1
            · simp (disch := first | with_reducible assumption | omega | exact Or.inl rfl | exact Or.inr rfl | exact bI_01 | exact c_cat | exact vt_ref | exact vt_null | rfl | with_reducible repeat (first | assumption | omega | apply S_I | apply S_L | apply S_D | apply ob_I | apply ob_L | apply ob_D | apply ob_R | apply ax_I | apply ax_L | apply ax_D | apply ax_R | apply o303 | apply o307 | apply o302 | apply o301 | apply ax304 | apply ax305 | apply ax306 | apply ax308 | apply ax309 | apply ax310 | apply lt_S | apply ar305 | apply ar308 | apply ar309)) only [g88_0, g88_1, g88_4, g88_5, g88_8, g88_9, g88_10, g88_13, g88_16, g88_17, g88_18, g88_21, g88_22, g88_23, g88_26, e5, c1, ↓reduceIte]
            · by_cases c2 : lp = -1
              · simp (disch := first | with_reducible assumption | omega | exact Or.inl rfl | exact Or.inr rfl | exact bI_01 | exact c_cat | exact vt_ref | exact vt_null | rfl | with_reducible repeat (first | assumption | omega | apply S_I | apply S_L | apply S_D | apply ob_I | apply ob_L | apply ob_D | apply ob_R | apply ax_I | apply ax_L | apply ax_D | apply ax_R | apply o303 | apply o307 | apply o302 | apply o301 | apply ax304 | apply ax305 | apply ax306 | apply ax308 | apply ax309 | apply ax310 | apply lt_S | apply ar305 | apply ar308 | apply ar309)) only [g88_0, g88_1, g88_4, g88_5, g88_8, g88_9, g88_10, g88_13, g88_16, g88_17, g88_18, g88_21, g88_22, g88_23, g88_26, e5, c2, ↓reduceIte]
              · simp (disch := first | with_reducible assumption | omega | exact Or.inl rfl | exact Or.inr rfl | exact bI_01 | exact c_cat | exact vt_ref | exact vt_null | rfl | with_reducible repeat (first | assumption | omega | apply S_I | apply S_L | apply S_D | apply ob_I | apply ob_L | apply ob_D | apply ob_R | apply ax_I | apply ax_L | apply ax_D | apply ax_R | apply o303 | apply o307 | apply o302 | apply o301 | apply ax304 | apply ax305 | apply ax306 | apply ax308 | apply ax309 | apply ax310 | apply lt_S | apply ar305 | apply ar308 | apply ar309)) only [g88_0, g88_1, g88_4, g88_5, g88_8, g88_9, g88_10, g88_13, g88_16, g88_17, g88_18, g88_21, g88_22, g88_23, g88_26, e5, c1, c2, ↓reduceIte, Int32.not_le.mpr c1]
          rw [(am_run_fun r1 R2).2, rI_a (by decide), rI_a (by decide)]
        · rw [not_or] at c1
          have e5 := X.2.2.2.2.2.2.2.2.2.2
          have R2 : am_run (d + 3) 88 [some (.ref 301), some (.int (nI 4)), some (.int (am_I h 302 3))] h none h := fun Q => by
            simp (disch := first | with_reducible assumption | omega | exact Or.inl rfl | exact Or.inr rfl | exact bI_01 | exact c_cat | exact vt_ref | exact vt_null | rfl | with_reducible repeat (first | assumption | omega | apply S_I | apply S_L | apply S_D | apply ob_I | apply ob_L | apply ob_D | apply ob_R | apply ax_I | apply ax_L | apply ax_D | apply ax_R | apply o303 | apply o307 | apply o302 | apply o301 | apply ax304 | apply ax305 | apply ax306 | apply ax308 | apply ax309 | apply ax310 | apply lt_S | apply ar305 | apply ar308 | apply ar309)) only [g88_0, g88_1, g88_4, g88_5, g88_8, g88_9, g88_10, g88_13, g88_16, g88_17, g88_18, g88_21, g88_22, g88_23, g88_26, e5, c1.1, ↓reduceIte, Int32.not_lt.mp c1.2]
          rw [(am_run_fun r1 R2).2]
      refine ⟨h1, fun Q => ?_, by rw [if_neg h0, if_neg h0, if_neg h0]; exact X1, F1, F302⟩
      simp (disch := first | with_reducible assumption | omega | exact Or.inl rfl | exact Or.inr rfl | exact bI_01 | exact c_cat | exact vt_ref | exact vt_null | rfl | with_reducible repeat (first | assumption | omega | apply S_I | apply S_L | apply S_D | apply ob_I | apply ob_L | apply ob_D | apply ob_R | apply ax_I | apply ax_L | apply ax_D | apply ax_R | apply o303 | apply o307 | apply o302 | apply o301 | apply ax304 | apply ax305 | apply ax306 | apply ax308 | apply ax309 | apply ax310 | apply lt_S | apply ar305 | apply ar308 | apply ar309)) only [g87_4, g87_5, g87_8, g87_11, g87_12, g87_15, g87_16, g87_19, g87_22, g87_25, g87_28, g87_29, g87_30, g87_31, g87_34, g87_37, hso, h0, nI_ltI, nI_leI, nI_eq, nI_add, nI_sub, nI_lt0, nI_e0, nI_m1, m1_nI, Nat.reduceEqDiff, Nat.reduceLT, Nat.reduceLeDiff, Nat.reduceAdd, Nat.reduceSub, Nat.reduceMul, ↓reduceIte, eq_self, Option.toList, List.nil_append, List.cons_append, va_rf, r1 _]
  obtain ⟨h1, W1, X1, F1, k1⟩ := H
  have S1 := X1.1
  have ec1 : am_I h1 302 7 = nI c := (k1 7).trans ec
  obtain ⟨h2, r2, X2, F2⟩ := x_add (d := d + 3) X1 (w := nI 3) (v := lN c)
  rw [by8_nI 3 (by decide)] at X2 r2
  have S2 := X2.1
  obtain ⟨⟨e, e1, e2⟩, ⟨a, a1, a2⟩, -⟩ := px_pos X2
  obtain ⟨h3, r3, X3, F3⟩ := x_copy (d := d + 2) (e := e) (a := a) (by omega) (by omega) X2 e2
  have S3 := X3.1
  obtain ⟨h4, r4, X4, F4⟩ := x_adv (d := d + 1) (v1 := none) X3
  refine ⟨h4, c, _, hc, fun Q => ?_, X4, XF_trans F1 (XF_trans (XF_303 F2) (XF_trans (XF_303 F3) F4)), by have := xcop_len (t := t) (n := n) (e - a) a P; omega, fun q eq hK => ?_⟩
  · rw [W1]
    simp (disch := first | with_reducible assumption | omega | exact Or.inl rfl | exact Or.inr rfl | exact bI_01 | exact c_cat | exact vt_ref | exact vt_null | rfl | with_reducible repeat (first | assumption | omega | apply S_I | apply S_L | apply S_D | apply ob_I | apply ob_L | apply ob_D | apply ob_R | apply ax_I | apply ax_L | apply ax_D | apply ax_R | apply o303 | apply o307 | apply o302 | apply o301 | apply ax304 | apply ax305 | apply ax306 | apply ax308 | apply ax309 | apply ax310 | apply lt_S | apply ar305 | apply ar308 | apply ar309)) only [g87_40, g87_41, g87_44, g87_45, g87_46, g87_49, g87_52, g87_53, g87_56, g87_57, g87_58, g87_59, g87_62, g87_65, g87_68, g87_69, g87_72, g87_75, ec1, nI_l, Option.toList, List.nil_append, List.cons_append, va_rf, r2 _, a2, r3 _, r4 _]
  · subst eq
    obtain ⟨⟨l1, l2, l3, l4, l5, l6⟩, -⟩ := X2.2.2.1
    have h240 := X.2.1.2.2.1
    obtain ⟨rt1, rt2, rt3, rt4⟩ := ref_text hK
    have e3 : e = q + 3 := by rw [l1, rt2] at e2; exact ((nI_eq (by omega) (by omega)).mp e2).symm
    have e4 : a = q := by rw [l3] at a2; exact ((nI_eq (by omega) (by omega)).mp a2).symm
    have e5 : c = lx_c t q := by
      have := X.2.2.1.1.2.2.2.2.2 hK
      rw [this] at ec; exact ((nI_eq (by have := lx_c_lt hK; omega) (by omega)).mp ec).symm
    refine ⟨e5, ?_⟩
    rw [e4, e3, show q + 3 - q = 3 by omega]
theorem J_ref (hK : lx_K t n q = 259) (J : JS t n so s vis on na nc nf oX oM agX agM cnX cnM fnX fnM fnA hx hm q C P N F k o m ltx ltm) : ∃ hx' hm' mr, am_run (d + 10) 78 [some (.ref 301)] hx none hx' ∧ am_run (d + 10) 214 [some (.ref 349), none] hm (some (.int mr)) hm' ∧ JP t n so on na vis oM agM cnM fnM hx hm hx' hm' q C P N F k o m ltx ltm mr := by
  obtain ⟨⟨lnx, lpx, X, LX0⟩, ⟨lnm, lpm, Y, LM0⟩, Gv, KX, KM, KR, hC, hP, hmk, hk, ho, hq, hn⟩ := J
  have S := X.1
  have tk : am_I hx 302 2 = nI (lx_K t n q) := x_tok X
  rw [hK] at tk
  have l0 := lx_c_lt hK
  have hqn := (lx_ref hK).2.1
  obtain ⟨u1, u2, u3, u4⟩ := ref_text hK
  -- the class
  obtain ⟨h1, r1, X1, F1⟩ := x_tellStep (d := d + 6) X
  have S1 := X1.1
  obtain ⟨h2, c, P', hc, W2, X2, F2, pl, i2⟩ := x_refR (d := d + 5) (so := so) X1 ((F1.2.1 5 (by decide)).trans KX.2.2.2.2.2.2.2.1) KX.1
  have rx : am_run (d + 10) 78 [some (.ref 301)] hx none h2 := fun Q => by
    have e : ∀ Q, am_J (d + 9) 87 0 [some (.ref 301)] [] hx Q ↔ Q none h2 := fun Q => by
      rw [← W2 Q]
      simp (disch := first | with_reducible assumption | omega | exact Or.inl rfl | exact Or.inr rfl | exact bI_01 | exact c_cat | exact vt_ref | exact vt_null | rfl | with_reducible repeat (first | assumption | omega | apply S_I | apply S_L | apply S_D | apply ob_I | apply ob_L | apply ob_D | apply ob_R | apply ax_I | apply ax_L | apply ax_D | apply ax_R | apply o303 | apply o307 | apply o302 | apply o301 | apply ax304 | apply ax305 | apply ax306 | apply ax308 | apply ax309 | apply ax310 | apply lt_S | apply ar305 | apply ar308 | apply ar309)) only [g87_0, g87_1, Option.toList, List.nil_append, List.cons_append, va_rf, r1 _]
    simp (disch := first | with_reducible assumption | omega | exact Or.inl rfl | exact Or.inr rfl | exact bI_01 | exact c_cat | exact vt_ref | exact vt_null | rfl | with_reducible repeat (first | assumption | omega | apply S_I | apply S_L | apply S_D | apply ob_I | apply ob_L | apply ob_D | apply ob_R | apply ax_I | apply ax_L | apply ax_D | apply ax_R | apply o303 | apply o307 | apply o302 | apply o301 | apply ax304 | apply ax305 | apply ax306 | apply ax308 | apply ax309 | apply ax310 | apply lt_S | apply ar305 | apply ar308 | apply ar309)) only [g78_0, g78_1, g78_4, g78_64, g78_65, g78_68, g78_71, g78_72, g78_75, g78_78, g78_79, g78_82, g78_83, g78_86, g78_87, g78_88, g78_91, g78_94, g78_97, g78_98, g78_99, g78_102, g78_103, g78_106, g78_109, g78_112, g78_113, g78_116, g78_117, g78_120, g78_121, g78_122, g78_125, g78_128, g78_129, g78_130, g78_131, g78_134, g78_137, g78_138, g78_139, g78_142, g78_143, g78_144, g78_147, g78_148, g78_151, g78_154, g78_157, g78_158, g78_161, g78_164, g78_165, g78_168, g78_171, g78_172, g78_175, g78_176, g78_179, g78_7_259, tk, Option.toList, List.nil_append, List.cons_append, va_rf, e]
  have Fx := XF_trans F1 F2
  -- the model
  obtain ⟨SM, GM, TM, ⟨⟨l1, l2, l3, l4⟩, lk, lq, f22, f4⟩, e1, e2, e3, e4, e5, e6⟩ := id Y
  rw [(mtok_2 (lx_K_mem t n q)).2.mpr hK] at l2
  have hne : ∀ v, v ∈ [37, 40, 41, 42, 43, 44, 45, 47, 58, 60, 61, 76, 78] → decide (mdK t n (.inl q) = mcode v) = false := by
    intro v hv
    apply decide_eq_false
    show ¬ lx_K t n q = mcode v
    have : ∀ v, v ∈ [37, 40, 41, 42, 43, 44, 45, 47, 58, 60, 61, 76, 78] → mcode v < 258 := by decide
    have := this v hv
    omega
  have s45 : ∀ Q, am_J (d + 9) 205 0 [some (.ref 349), some (.int (nI 45))] [] hm Q ↔ Q (some (.int (nI 0))) hm := fun Q => by rw [m_sign Y (by decide), hne 45 (by decide)]; rfl
  have s40 : ∀ Q, am_J (d + 9) 205 0 [some (.ref 349), some (.int (nI 40))] [] hm Q ↔ Q (some (.int (nI 0))) hm := fun Q => by rw [m_sign Y (by decide), hne 40 (by decide)]; rfl
  obtain ⟨m1, p1, Y1, G1⟩ := m_part (d := d + 8) Y (p := nI q) (fun q' e => by cases e; rfl)
  rw [nI_add] at Y1
  have SM1 := Y1.1
  have TM1 := Y1.2.2.1
  have L19 : am_I m1 349 19 = nI q := (m_part_keep SM p1 19 (by decide) (by decide)).trans l3
  have KM1 := cfM_MF G1 KM
  obtain ⟨c1, c2, c3, c4, c5, c6, c7, n1, -⟩ := id KM1
  obtain ⟨w1, w2, w3, w4⟩ := cwh_1 c1
  have WM : ∃ m2 lnm' lpm', (∀ Q, am_J (d + 10) 214 0 [some (.ref 349), none] [] hm Q ↔ am_J (d + 10) 214 186 [some (.ref 349), none] [] m2 Q) ∧ MX m2 t n (mpart (.inl q) (nI k)) (nI (k + 1)) (nI o) m lnm' lpm' ∧ MF m1 m2 m ∧ LT lnm' lpm' (mgO ltm (if so = 0 then none else some (4, q))) ∧ am_I m2 349 19 = nI q := by
    have Wp : ∀ Q, am_J (d + 10) 214 0 [some (.ref 349), none] [] hm Q ↔ am_J (d + 10) 214 170 [some (.ref 349), none] [] m1 Q := by
      intro Q
      simp (disch := first | with_reducible assumption | omega | exact Or.inl rfl | exact Or.inr rfl | exact bI_01 | exact c_cat | exact vt_ref | exact vt_null | rfl | with_reducible repeat (first | assumption | omega | apply S_I | apply S_L | apply S_D | apply ob_I | apply ob_L | apply ob_D | apply ob_R | apply ax_I | apply ax_L | apply ax_D | apply ax_R | apply o303 | apply o307 | apply o302 | apply o301 | apply ax304 | apply ax305 | apply ax306 | apply ax308 | apply ax309 | apply ax310 | apply lt_S | apply ar305 | apply ar308 | apply ar309)) only [g214_0, g214_1, g214_4, g214_7, g214_8, g214_9, g214_10, g214_12, g214_15, g214_93, g214_94, g214_96, g214_99, g214_133, g214_134, g214_137, g214_138, g214_141, g214_142, g214_145, g214_146, g214_149, g214_150, g214_153, g214_154, g214_155, g214_158, g214_159, g214_162, g214_163, g214_164, g214_167, f22, s45, s40, Option.toList, List.nil_append, List.cons_append, va_rf, l2, l3, nI_ltI, nI_leI, nI_eq, nI_add, nI_sub, nI_lt0, nI_e0, nI_m1, m1_nI, Nat.reduceEqDiff, Nat.reduceLT, Nat.reduceLeDiff, Nat.reduceAdd, Nat.reduceSub, Nat.reduceMul, ↓reduceIte, eq_self, p1 _]
    by_cases h0 : so = 0
    · refine ⟨m1, lnm, lpm, fun Q => ?_, Y1, MF_refl, by rw [if_pos h0]; exact LM0, L19⟩
      rw [Wp]
      simp (disch := first | with_reducible assumption | omega | exact Or.inl rfl | exact Or.inr rfl | exact bI_01 | exact c_cat | exact vt_ref | exact vt_null | rfl | with_reducible repeat (first | assumption | omega | apply S_I | apply S_L | apply S_D | apply ob_I | apply ob_L | apply ob_D | apply ob_R | apply ax_I | apply ax_L | apply ax_D | apply ax_R | apply o303 | apply o307 | apply o302 | apply o301 | apply ax304 | apply ax305 | apply ax306 | apply ax308 | apply ax309 | apply ax310 | apply lt_S | apply ar305 | apply ar308 | apply ar309)) only [g214_170, g214_171, g214_174, g214_177, g214_178, g214_179, g214_180, g214_183, n1, w3.mpr h0, nI_ltI, nI_leI, nI_eq, nI_add, nI_sub, nI_lt0, nI_e0, nI_m1, m1_nI, Nat.reduceEqDiff, Nat.reduceLT, Nat.reduceLeDiff, Nat.reduceAdd, Nat.reduceSub, Nat.reduceMul, ↓reduceIte, eq_self]
    · obtain ⟨m2, p2, Y2, G2⟩ := m_wrong (d := d + 9) Y1 (f := nI 4) (p := nI q)
      have k19 : am_I m2 349 19 = nI q := by
        have e6 := Y1.2.2.2.2.2.2.2.2.2
        by_cases q1 : lpm = -1 ∨ nI q < lpm
        · have R2 : am_run (d + 9) 207 [some (.ref 349), some (.int (nI 4)), some (.int (nI q))] m1 none (am_setI (am_setI m1 349 23 (nI q)) 349 24 (nI 4)) := fun Q => by
            rcases q1 with q1 | q1
            · simp (disch := first | with_reducible assumption | omega | exact Or.inl rfl | exact Or.inr rfl | exact bI_01 | exact c_cat | exact vt_ref | exact vt_null | rfl | with_reducible repeat (first | assumption | omega | apply S_I | apply S_L | apply S_D | apply ob_I | apply ob_L | apply ob_D | apply ob_R | apply ax_I | apply ax_L | apply ax_D | apply ax_R | apply o303 | apply o307 | apply o302 | apply o301 | apply ax304 | apply ax305 | apply ax306 | apply ax308 | apply ax309 | apply ax310 | apply lt_S | apply ar305 | apply ar308 | apply ar309)) only [g207_0, g207_1, g207_4, g207_5, g207_8, g207_9, g207_12, g207_13, g207_16, g207_17, g207_18, g207_19, g207_22, g207_23, g207_24, g207_27, e6, q1, ↓reduceIte]
            · by_cases q2 : lpm = -1
              · simp (disch := first | with_reducible assumption | omega | exact Or.inl rfl | exact Or.inr rfl | exact bI_01 | exact c_cat | exact vt_ref | exact vt_null | rfl | with_reducible repeat (first | assumption | omega | apply S_I | apply S_L | apply S_D | apply ob_I | apply ob_L | apply ob_D | apply ob_R | apply ax_I | apply ax_L | apply ax_D | apply ax_R | apply o303 | apply o307 | apply o302 | apply o301 | apply ax304 | apply ax305 | apply ax306 | apply ax308 | apply ax309 | apply ax310 | apply lt_S | apply ar305 | apply ar308 | apply ar309)) only [g207_0, g207_1, g207_4, g207_5, g207_8, g207_9, g207_12, g207_13, g207_16, g207_17, g207_18, g207_19, g207_22, g207_23, g207_24, g207_27, e6, q2, ↓reduceIte]
              · simp (disch := first | with_reducible assumption | omega | exact Or.inl rfl | exact Or.inr rfl | exact bI_01 | exact c_cat | exact vt_ref | exact vt_null | rfl | with_reducible repeat (first | assumption | omega | apply S_I | apply S_L | apply S_D | apply ob_I | apply ob_L | apply ob_D | apply ob_R | apply ax_I | apply ax_L | apply ax_D | apply ax_R | apply o303 | apply o307 | apply o302 | apply o301 | apply ax304 | apply ax305 | apply ax306 | apply ax308 | apply ax309 | apply ax310 | apply lt_S | apply ar305 | apply ar308 | apply ar309)) only [g207_0, g207_1, g207_4, g207_5, g207_8, g207_9, g207_12, g207_13, g207_16, g207_17, g207_18, g207_19, g207_22, g207_23, g207_24, g207_27, e6, q1, q2, ↓reduceIte]
          rw [(am_run_fun p2 R2).2, rI_k (by decide), rI_k (by decide)]; exact L19
        · rw [not_or] at q1
          have R2 : am_run (d + 9) 207 [some (.ref 349), some (.int (nI 4)), some (.int (nI q))] m1 none m1 := fun Q => by
            simp (disch := first | with_reducible assumption | omega | exact Or.inl rfl | exact Or.inr rfl | exact bI_01 | exact c_cat | exact vt_ref | exact vt_null | rfl | with_reducible repeat (first | assumption | omega | apply S_I | apply S_L | apply S_D | apply ob_I | apply ob_L | apply ob_D | apply ob_R | apply ax_I | apply ax_L | apply ax_D | apply ax_R | apply o303 | apply o307 | apply o302 | apply o301 | apply ax304 | apply ax305 | apply ax306 | apply ax308 | apply ax309 | apply ax310 | apply lt_S | apply ar305 | apply ar308 | apply ar309)) only [g207_0, g207_1, g207_4, g207_5, g207_8, g207_9, g207_12, g207_13, g207_16, g207_17, g207_18, g207_19, g207_22, g207_23, g207_24, g207_27, e6, q1.1, q1.2, ↓reduceIte]
          rw [(am_run_fun p2 R2).2]; exact L19
      refine ⟨m2, _, _, fun Q => ?_, Y2, G2, by rw [if_neg h0]; exact LT_mg LM0 (by omega), k19⟩
      rw [Wp]
      simp (disch := first | with_reducible assumption | omega | exact Or.inl rfl | exact Or.inr rfl | exact bI_01 | exact c_cat | exact vt_ref | exact vt_null | rfl | with_reducible repeat (first | assumption | omega | apply S_I | apply S_L | apply S_D | apply ob_I | apply ob_L | apply ob_D | apply ob_R | apply ax_I | apply ax_L | apply ax_D | apply ax_R | apply o303 | apply o307 | apply o302 | apply o301 | apply ax304 | apply ax305 | apply ax306 | apply ax308 | apply ax309 | apply ax310 | apply lt_S | apply ar305 | apply ar308 | apply ar309)) only [g214_170, g214_171, g214_174, g214_177, g214_178, g214_179, g214_180, g214_183, n1, show ¬ cwh so = 0 from fun e => h0 (w3.mp e), nI_ltI, nI_leI, nI_eq, nI_add, nI_sub, nI_lt0, nI_e0, nI_m1, m1_nI, Nat.reduceEqDiff, Nat.reduceLT, Nat.reduceLeDiff, Nat.reduceAdd, Nat.reduceSub, Nat.reduceMul, ↓reduceIte, eq_self, L19, Option.toList, List.nil_append, List.cons_append, va_rf, p2 _]
  obtain ⟨m2, lnm', lpm', WM, Y2, G2, LM2, L19'⟩ := WM
  have SM2 := Y2.1
  have TM2 := Y2.2.2.1
  have G02 := MF_trans G1 G2 (Nat.le_refl _)
  by_cases c40 : k < 40
  · rw [xpart_good c40] at X1 X2
    rw [mpart_good c40] at Y2
    obtain ⟨ec, eP⟩ := i2 q (by rw [xpart_good c40]) hK
    subst ec
    have L3 : am_I h1 302 3 = nI q := X1.2.2.1.1.2.2.1
    rw [L3] at X2
    obtain ⟨m3, p3, Y3, G3, tb3⟩ := m_nodeG (d := d + 9) (v5 := none) Y2 (by omega) (kd := nI 3) (x := nI (lx_c t q)) (y := nI 0) (z := nI 0)
    have SM3 := Y3.1
    obtain ⟨m4, p4, Y4, G4⟩ := m_nx (d := d + 6) (v1 := none) Y3
    have rm : am_run (d + 10) 214 [some (.ref 349), none] hm (some (.int (nI m))) m4 := fun Q => by
      rw [WM]
      simp (disch := first | with_reducible assumption | omega | exact Or.inl rfl | exact Or.inr rfl | exact bI_01 | exact c_cat | exact vt_ref | exact vt_null | rfl | with_reducible repeat (first | assumption | omega | apply S_I | apply S_L | apply S_D | apply ob_I | apply ob_L | apply ob_D | apply ob_R | apply ax_I | apply ax_L | apply ax_D | apply ax_R | apply o303 | apply o307 | apply o302 | apply o301 | apply ax304 | apply ax305 | apply ax306 | apply ax308 | apply ax309 | apply ax310 | apply lt_S | apply ar305 | apply ar308 | apply ar309)) only [g214_186, g214_187, g214_188, g214_189, g214_192, g214_193, g214_194, g214_197, g214_198, g214_199, g214_202, g214_203, Option.toList, List.nil_append, List.cons_append, va_rf, m_cellR SM2 TM2 L19' hK, p3 _, p4 _]
    have Fm := MF_trans G02 (MF_trans G3 G4 (by omega)) (Nat.le_refl _)
    refine ⟨h2, m4, nI m, rx, rm, Fx, Fm, ?_⟩
    match hA : mdA t n (.inl q) with
    | .inr y =>
      rw [hA] at X2 Y4
      exact Or.inl ⟨y, BX_of X2, BM_of Y4 (by omega)⟩
    | .inl q' =>
      rw [hA] at X2 Y4
      obtain ⟨g1, g2, g3⟩ := mdA_gt (by omega) hA
      have a1 := xadd_len (C := C) (x := (nI 0, lN 0))
      have a2 := xadd_len (C := xadd C (nI 0, lN 0)) (x := (nI 3, lN (lx_c t q)))
      have a3 := xcop_len (t := t) (n := n) 3 q P
      have a4 := xadd_ge (C := C) (x := (nI 0, lN 0))
      have a5 := xadd_ge (C := xadd C (nI 0, lN 0)) (x := (nI 3, lN (lx_c t q)))
      refine Or.inr ⟨q', _, _, _, _, k + 1, m + 1, (if so = 0 then none else some (4, q)), m, _, _, _, _, ⟨g2, by omega, by omega, by omega, by omega, by omega, by omega, by rw [eP]; omega, by omega, by rw [eP]; exact xcop_ge _ _ _⟩, rfl, X2, ?_, Y4, LM2, (fun z ez => ?_), fun ez => ?_⟩
      · by_cases h0 : so = 0
        · rw [if_pos h0, if_pos h0, if_pos h0]; exact LX0
        · rw [if_neg h0, if_neg h0, if_neg h0]; exact LT_mg LX0 (by omega)
      · by_cases h0 : so = 0
        · rw [if_pos h0] at ez; cases ez
        · rw [if_neg h0] at ez; cases ez; exact ⟨Nat.le_refl _, g2⟩
      · have h0 : so = 0 := by
          by_cases h0 : so = 0
          · exact h0
          · rw [if_neg h0] at ez; cases ez
        refine ⟨[ST, (nI 3, lN (lx_c t q))], clN (lx_c t q), [lx_c t q], [], ?_, ?_, ?_, ?_, rfl⟩
        · refine ⟨Rp_mono (f := 1) (Nat.le_refl _) (fun _ _ => rfl) (by omega) (Rp_mk (f := 0) ?_), NC_kd ((tb_same G4 (by omega)).trans tb3) (by decide)⟩
          refine ⟨by omega, Or.inr (Or.inr (Or.inl ⟨lx_c t q, decide_eq_false (by omega), knO_X KX h0, l0, ?_, rfl, rfl, rfl, rfl⟩))⟩
          rw [tb_same G4 (by omega)]; exact tb3
        · rw [xadd_eq (C := C) (by omega), xadd_eq (by rw [List.length_append]; simp; omega), List.append_assoc]; rfl
        · rw [eP, xcop_eq 3 q P (by omega) (by omega) u3, u1]
        · rw [if_pos h0]; rfl
  · obtain rfl : k = 40 := by omega
    rw [xpart_bad] at X2
    rw [mpart_bad] at Y2
    have B2 := BM_of Y2 (Nat.le_refl m)
    obtain ⟨m3, w3, p3, -, -, B3, G3⟩ := bm_node (d := d + 9) (v5 := none) B2 (kd := nI 3) (x := nI (lx_c t q)) (y' := nI 0) (z := nI 0)
    have SM3 := (bm_S B3).1
    obtain ⟨m4, p4, B4, G4⟩ := bm_nx (d := d + 6) (v1 := none) B3
    refine ⟨h2, m4, nI w3, rx, fun Q => ?_, Fx, MF_trans G02 (MF_trans G3 G4 (Nat.le_refl _)) (Nat.le_refl _), Or.inl ⟨(3, q), BX_of X2, B4⟩⟩
    rw [WM]
    simp (disch := first | with_reducible assumption | omega | exact Or.inl rfl | exact Or.inr rfl | exact bI_01 | exact c_cat | exact vt_ref | exact vt_null | rfl | with_reducible repeat (first | assumption | omega | apply S_I | apply S_L | apply S_D | apply ob_I | apply ob_L | apply ob_D | apply ob_R | apply ax_I | apply ax_L | apply ax_D | apply ax_R | apply o303 | apply o307 | apply o302 | apply o301 | apply ax304 | apply ax305 | apply ax306 | apply ax308 | apply ax309 | apply ax310 | apply lt_S | apply ar305 | apply ar308 | apply ar309)) only [g214_186, g214_187, g214_188, g214_189, g214_192, g214_193, g214_194, g214_197, g214_198, g214_199, g214_202, g214_203, Option.toList, List.nil_append, List.cons_append, va_rf, m_cellR SM2 TM2 L19' hK, p3 _, p4 _]
end JRF

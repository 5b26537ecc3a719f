/-! BOTH PARSERS: try, cut, real, the folds -/
section WRD3
variable {so s vis on na nc nf : Nat} {oX oM : Int64} {agX agM cnX cnM fnX fnM : Nat → Int64} {fnA : Nat → Nat} {t : Nat → Nat} {n : Nat} {D f : Nat} {d : Nat}
variable {hx1 hm1 : am_H} {o m1 q1 k1 : Nat} {C1 : List (Int32 × Int64)} {P1 : List Int32} {N1 : List Nat} {F1 : Int32} {ltx ltm : Option (Nat × Nat)} {v2 v3 v4 v5 v6 : Option Value}
theorem J_try (hD : 10 ≤ D) (Lv : JR t n so s vis on na nc nf oX oM agX agM cnX cnM fnX fnM fnA (lxL 0) lm3 77 211 D f) (hf : 11 ≤ f + o) (ho : o ≤ 10) (hn : n ≤ 240) (Gv : am_Gv hx1) (KX : cfX hx1 so s vis on na nc nf oX agX cnX fnX fnA) (KM : cfM hm1 so s vis on na nc nf oM agM cnM fnM fnA) (KR : cfR so na nc nf oX oM agX agM cnX cnM fnX fnM fnA) (hC : C1.length + 2 ≤ 3 * k1) (hP : P1.length ≤ q1 + 2 * k1) (Z0 : SX t n o ltx ltm hx1 hm1 m1 (ph0 hm1 q1 C1 P1 N1 F1 k1 m1) hx1 hm1) : ∃ hx' hm' a b, am_run (D + 2) 96 [some (.ref 301), some (.int (nI 1)), none, none] hx1 none hx' ∧ (∀ Q, am_J (D + 1) 221 39 [some (.ref 349), some (.int (nI 1)), v2, v3, v4, v5, v6, none] [] hm1 Q ↔ am_J (D + 1) 221 238 [some (.ref 349), some (.int (nI 1)), some (.int a), some (.int b), some (.int (-1)), some (.long (lN 0)), none, none] [] hm' Q) ∧ SX t n o ltx ltm hx1 hm1 m1 (phW so on na vis oM agM cnM fnM o hm1 q1 C1 P1 N1 F1 k1 m1 7 (lN 1) (wdN 1) a b (-1)) hx' hm' := by
  obtain ⟨e, rfl⟩ : ∃ e, D = e + 10 := ⟨D - 10, by omega⟩
  obtain ⟨S0, T0⟩ := SX_S Z0
  obtain ⟨h1, p1, hp1, x1, Z1⟩ := st_add (d := e + 10) Z0 (w := 18) (by decide) (x := lN 0)
  obtain ⟨S1, -⟩ := SX_S Z1
  obtain ⟨h2, m2, r2, x2, y2, Z2⟩ := st_level (by omega) Lv hf ho hn Gv KX KM KR Z1 (by
    rintro q C P N F k m W ⟨-, C', ⟨-, rfl, rfl, rfl, rfl, rfl, rfl, rfl, -⟩, rfl, -⟩
    have a1 := xadd_len (C := C') (x := (nI 18, lN 0))
    constructor <;> omega)
  obtain ⟨S2, T2⟩ := SX_S Z2
  obtain ⟨h3, m3, x3, y3, Z3⟩ := st_pass (d := e + 6) Z2 (c := 44) (by decide)
  obtain ⟨S3, T3⟩ := SX_S Z3
  obtain ⟨h4, p4, hp4, x4, Z4⟩ := st_add (d := e + 10) Z3 (w := 19) (by decide) (x := lN 0)
  obtain ⟨S4, -⟩ := SX_S Z4
  obtain ⟨h5, x5, Z5⟩ := st_aim (d := e + 10) Z4 hp1
  obtain ⟨S5, -⟩ := SX_S Z5
  obtain ⟨h6, m6, r6, x6, y6, Z6⟩ := st_level (by omega) Lv hf ho hn Gv KX KM KR Z5 (by
    rintro q C P N F k m W ⟨-, C9, ⟨-, C8, ⟨q7, P7, ⟨q6, C6, P6, N6, F6, k6, m6, W6, W62, r6, ⟨-, C', ⟨-, rfl, rfl, rfl, rfl, rfl, rfl, rfl, -⟩, rfl, -⟩, -, -, g6, -⟩, -, hq7, rfl, -⟩, rfl, -⟩, rfl⟩
    have a1 := xadd_len (C := C') (x := (nI 18, lN 0))
    have a3 := xadd_len (C := C8) (x := (nI 19, lN 0))
    have a4 := xpad_len (P := P7) (w := nI 44)
    rw [xaim_len]
    constructor <;> omega)
  obtain ⟨S6, T6⟩ := SX_S Z6
  obtain ⟨h7, x7, Z7⟩ := st_aim (d := e + 10) Z6 hp4
  refine ⟨h7, m6, r2, r6, fun Q => ?_, fun Q => ?_, SX_imp Z7 ?_⟩
  · have W : ∀ Q, am_J (e + 11) 98 0 [some (.ref 301), none, none] [] hx1 Q ↔ Q none h7 := fun Q => by
      simp (disch := first | with_reducible assumption | omega | exact Or.inl rfl | exact Or.inr rfl | exact bI_01 | exact c_cat | exact vt_ref | exact vt_null | rfl | with_reducible repeat (first | assumption | omega | apply S_I | apply S_L | apply S_D | apply ob_I | apply ob_L | apply ob_D | apply ob_R | apply ax_I | apply ax_L | apply ax_D | apply ax_R | apply o303 | apply o307 | apply o302 | apply o301 | apply ax304 | apply ax305 | apply ax306 | apply ax308 | apply ax309 | apply ax310 | apply lt_S | apply ar305 | apply ar308 | apply ar309)) only [g98_0, g98_1, g98_4, g98_6, g98_7, g98_10, g98_11, g98_12, g98_13, g98_16, g98_17, g98_19, g98_22, g98_23, g98_26, g98_28, g98_29, g98_32, g98_33, g98_34, g98_37, g98_38, g98_41, g98_42, g98_43, g98_46, g98_47, g98_50, g98_51, g98_54, Option.toList, List.nil_append, List.cons_append, va_rf, x1 _, x2 _, x3 _, x4 _, x5 _, x6 _, x7 _]
    simp (disch := first | with_reducible assumption | omega | exact Or.inl rfl | exact Or.inr rfl | exact bI_01 | exact c_cat | exact vt_ref | exact vt_null | rfl | with_reducible repeat (first | assumption | omega | apply S_I | apply S_L | apply S_D | apply ob_I | apply ob_L | apply ob_D | apply ob_R | apply ax_I | apply ax_L | apply ax_D | apply ax_R | apply o303 | apply o307 | apply o302 | apply o301 | apply ax304 | apply ax305 | apply ax306 | apply ax308 | apply ax309 | apply ax310 | apply lt_S | apply ar305 | apply ar308 | apply ar309)) only [g96_0, g96_56, g96_57, g96_60, g96_63, g96_64, g96_67, g96_70, g96_71, g96_74, g96_75, g96_76, g96_77, g96_79, g96_82, g96_83, g96_84, g96_87, g96_88, g96_91, g96_93, g96_94, g96_97, g96_98, g96_101, g96_102, g96_103, g96_106, g96_109, g96_110, g96_113, g96_116, g96_117, g96_119, g96_122, g96_123, g96_124, g96_127, g96_128, g96_131, g96_132, g96_134, g96_135, g96_137, g96_138, g96_139, g96_142, g96_143, g96_146, g96_147, g96_150, g96_151, g96_152, g96_153, g96_155, g96_156, g96_157, g96_160, g96_161, g96_164, g96_165, g96_1_1, Option.toList, List.nil_append, List.cons_append, va_rf, W]
  · simp (disch := first | with_reducible assumption | omega | exact Or.inl rfl | exact Or.inr rfl | exact bI_01 | exact c_cat | exact vt_ref | exact vt_null | rfl | with_reducible repeat (first | assumption | omega | apply S_I | apply S_L | apply S_D | apply ob_I | apply ob_L | apply ob_D | apply ob_R | apply ax_I | apply ax_L | apply ax_D | apply ax_R | apply o303 | apply o307 | apply o302 | apply o301 | apply ax304 | apply ax305 | apply ax306 | apply ax308 | apply ax309 | apply ax310 | apply lt_S | apply ar305 | apply ar308 | apply ar309)) only [g221_39, g221_40, g221_41, g221_42, g221_43, g221_44, g221_46, g221_47, g221_49, g221_50, g221_52, g221_112, g221_113, g221_114, g221_117, g221_118, g221_120, g221_123, g221_124, g221_126, g221_129, g221_130, g221_133, g221_136, g221_137, g221_140, g221_141, g221_142, g221_143, g221_146, g221_147, g221_148, g221_151, g221_152, g221_153, g221_156, g221_157, g221_158, g221_161, g221_162, g221_164, g221_167, g221_168, g221_170, g221_173, g221_174, g221_176, g221_179, g221_180, g221_182, g221_185, g221_186, g221_188, g221_191, g221_192, g221_195, g221_198, g221_199, g221_202, g221_203, g221_204, g221_207, g221_208, g221_210, g221_213, g221_214, g221_216, g221_219, g221_220, g221_222, g221_225, g221_226, g221_229, g221_232, g221_233, g221_236, Option.toList, List.nil_append, List.cons_append, va_rf, nI_ltI, nI_leI, nI_eq, nI_add, nI_sub, nI_lt0, nI_e0, nI_m1, m1_nI, Nat.reduceEqDiff, Nat.reduceLT, Nat.reduceLeDiff, Nat.reduceAdd, Nat.reduceSub, Nat.reduceMul, ↓reduceIte, eq_self, y2 _, y3 _, y6 _]
  · rintro q C P N F k m W hq0 ⟨-, C11, ⟨q10, C10, P10, N10, F10, k10, m10, W10, W102, r10, ⟨-, C9, ⟨-, C8, ⟨q7, P7, ⟨q6, C6, P6, N6, F6, k6, m6', W6, W62, r6', ⟨-, C', ⟨-, rfl, rfl, rfl, rfl, rfl, rfl, rfl, rfl⟩, rfl, vp1⟩, rfl, rfl, g6, tg6, wg6, sg6⟩, -, hq7, rfl, tp7⟩, rfl, vp4⟩, rfl⟩, rfl, rfl, g10, tg10, wg10, sg10⟩, rfl⟩
    have a1 := xadd_len (C := C') (x := (nI 18, lN 0))
    have a3 := xadd_len (C := C8) (x := (nI 19, lN 0))
    have a4 := xpad_len (P := P7) (w := nI 44)
    have b1 := xadd_ge (C := C') (x := (nI 18, lN 0))
    have b3 := xadd_ge (C := C8) (x := (nI 19, lN 0))
    have b4 := xpad_ge (P := P7) (w := nI 44)
    rw [xaim_len] at g10
    have tall : ∀ i, i < m6' → tb m6 3648 i = tb hm1 3648 i := fun i hi => by rw [tg10 i (by omega), tp7 i (by omega), tg6 i (by omega)]
    refine ⟨⟨by omega, by omega, by omega, by omega, by omega, by rw [xaim_len]; omega, by omega, by rw [xaim_len]; omega, by omega⟩, tall, ?_, fun ez => ?_⟩
    · rw [mgO_none]
      exact mgO_bd wg6 wg10 (by omega) (by omega)
    · obtain ⟨w1, w3⟩ := mgO_eq_none ez
      obtain ⟨w0, w2⟩ := mgO_eq_none w1
      obtain ⟨D1, E1, L1, G1, R1, u1, u2, u3, u4⟩ := sg6 w2
      obtain ⟨D2, E2, L2, G2, R2, u5, u6, u7, u8⟩ := sg10 w3
      have e1 : xadd C' (nI 18, lN 0) = C' ++ [(nI 18, lN 0)] := xadd_eq (by omega)
      have e2 : C8 = C' ++ (nI 18, lN 0) :: D1 := by rw [u1, e1]; simp
      have e3 : xadd C8 (nI 19, lN 0) = C' ++ (nI 18, lN 0) :: (D1 ++ [(nI 19, lN 0)]) := by rw [xadd_eq (by omega), e2]; simp
      have e4 : p1 = C'.length := by
        have := (nI_eq (by omega) (by omega)).mp vp1
        rw [this, e1]; simp
      have e5 : xaim (xadd C8 (nI 19, lN 0)) p1 = C' ++ (nI 18, lN (D1.length + 1)) :: (D1 ++ [(nI 19, lN 0)]) := by
        rw [e3, e4, xaim_app]; simp
      have e6 : p4 = (C' ++ (nI 18, lN (D1.length + 1)) :: D1).length := by
        have := (nI_eq (by omega) (by omega)).mp vp4
        rw [this, e3]; simp
      have e7 : C11 = (C' ++ (nI 18, lN (D1.length + 1)) :: D1) ++ (nI 19, lN 0) :: D2 := by rw [u5, e5]; simp
      have e8 : xaim C11 p4 = (C' ++ (nI 18, lN (D1.length + 1)) :: D1) ++ (nI 19, lN D2.length) :: D2 := by rw [e7, e6, xaim_app]
      refine ⟨(nI 18, lN (D1.length + 1)) :: D1 ++ (nI 19, lN D2.length) :: D2, E1 ++ 44 :: E2, L1 ++ L2, G1 ++ G2, ?_, ?_, ?_, ?_, ?_⟩
      · rw [e8]; simp
      · rw [u6, xpad_eq (by omega) (by decide), u2]; simp
      · rw [u7, u3]; simp
      · rw [u8, u4]; simp
      · intro T' M' r' hr1 hr2 hT hr3
        refine ⟨Rp_mk ?_, NC_app (NC_T R1.2 (fun i hi => by rw [hT i (by omega), tg10 i (by omega), tp7 i (by omega)])) (NC_T R2.2 hT), Or.inl (by decide)⟩
        refine ⟨hr2, Or.inr (Or.inr (Or.inr (Or.inr (Or.inr (Or.inr (Or.inr (Or.inl ⟨r6', r10, D1, E1, L1, G1, D2, E2, L2, G2, by omega, by omega, hr3, ?_, ?_, ?_, ?_, rfl, rfl⟩)))))))⟩
        · exact Rp_mono (M := m10) (by omega) (fun i hi => by rw [hT i (by omega), tg10 i (by omega), tp7 i (by omega)]) (by omega) R1.1
        · exact Rp_mono (M := m) (by omega) (fun i hi => hT i hi) (by omega) R2.1
        · simp
        · simp
theorem J_cut (hD : 10 ≤ D) (Lv : JR t n so s vis on na nc nf oX oM agX agM cnX cnM fnX fnM fnA (lxL 0) lm3 77 211 D f) (hf : 11 ≤ f + o) (ho : o ≤ 10) (hn : n ≤ 240) (Gv : am_Gv hx1) (KX : cfX hx1 so s vis on na nc nf oX agX cnX fnX fnA) (KM : cfM hm1 so s vis on na nc nf oM agM cnM fnM fnA) (KR : cfR so na nc nf oX oM agX agM cnX cnM fnX fnM fnA) (hC : C1.length + 2 ≤ 3 * k1) (hP : P1.length ≤ q1 + 2 * k1) (Z0 : SX t n o ltx ltm hx1 hm1 m1 (ph0 hm1 q1 C1 P1 N1 F1 k1 m1) hx1 hm1) {w : Nat} (hw : w = 10 ∨ w = 11) : ∃ hx' hm' a, am_run (D + 2) 96 [some (.ref 301), some (.int (nI w)), none, none] hx1 none hx' ∧ (∀ Q, am_J (D + 1) 221 39 [some (.ref 349), some (.int (nI w)), v2, v3, v4, v5, v6, none] [] hm1 Q ↔ am_J (D + 1) 221 238 [some (.ref 349), some (.int (nI w)), some (.int a), some (.int (-1)), some (.int (-1)), some (.long (lN 0)), none, none] [] hm' Q) ∧ SX t n o ltx ltm hx1 hm1 m1 (phW so on na vis oM agM cnM fnM o hm1 q1 C1 P1 N1 F1 k1 m1 7 (lN w) (wdN w) a (-1) (-1)) hx' hm' := by
  obtain ⟨e, rfl⟩ : ∃ e, D = e + 10 := ⟨D - 10, by omega⟩
  obtain ⟨S0, T0⟩ := SX_S Z0
  obtain ⟨h1, m1', r1, x1, y1, Z1⟩ := st_level (by omega) Lv hf ho hn Gv KX KM KR Z0 (by rintro q C P N F k m W ⟨-, rfl, rfl, rfl, rfl, rfl, rfl, rfl, -⟩; exact ⟨by omega, hP⟩)
  obtain ⟨S1, T1⟩ := SX_S Z1
  obtain ⟨h2, p2, hp2, x2, Z2⟩ := st_add (d := e + 11) Z1 (w := 18 + w) (by omega) (x := lN 0)
  refine ⟨h2, m1', r1, fun Q => ?_, fun Q => ?_, SX_imp Z2 ?_⟩
  · have x1' := am_runD x1 (show e + 10 ≤ e + 11 by omega)
    have e1 : ∀ Q, am_J (e + 12) 96 1 [some (.ref 301), some (.int (nI w)), none, none] [.int (nI w)] hx1 Q ↔ am_J (e + 12) 96 116 [some (.ref 301), some (.int (nI w)), none, none] [] hx1 Q := fun Q => g96_1d (by rw [nI_toInt (by omega)]; omega)
    rw [show 18 + w = w - 10 + 28 by omega] at x2
    rw [g96_0, e1]
    simp (disch := first | with_reducible assumption | omega | exact Or.inl rfl | exact Or.inr rfl | exact bI_01 | exact c_cat | exact vt_ref | exact vt_null | rfl | with_reducible repeat (first | assumption | omega | apply S_I | apply S_L | apply S_D | apply ob_I | apply ob_L | apply ob_D | apply ob_R | apply ax_I | apply ax_L | apply ax_D | apply ax_R | apply o303 | apply o307 | apply o302 | apply o301 | apply ax304 | apply ax305 | apply ax306 | apply ax308 | apply ax309 | apply ax310 | apply lt_S | apply ar305 | apply ar308 | apply ar309)) only [g96_116, g96_117, g96_119, g96_122, g96_123, g96_124, g96_127, g96_128, g96_131, g96_132, g96_134, g96_135, g96_137, g96_138, g96_139, g96_142, g96_143, g96_146, g96_147, g96_150, g96_151, g96_152, g96_153, g96_155, g96_156, g96_157, g96_160, g96_161, g96_164, g96_165, Option.toList, List.nil_append, List.cons_append, va_rf, nI_ltI, nI_leI, nI_eq, nI_add, nI_sub, nI_lt0, nI_e0, nI_m1, m1_nI, Nat.reduceEqDiff, Nat.reduceLT, Nat.reduceLeDiff, Nat.reduceAdd, Nat.reduceSub, Nat.reduceMul, ↓reduceIte, eq_self, show ¬ w < 10 by omega, x1' _, x2 _]
  · rcases hw with rfl | rfl <;> simp (disch := first | with_reducible assumption | omega | exact Or.inl rfl | exact Or.inr rfl | exact bI_01 | exact c_cat | exact vt_ref | exact vt_null | rfl | with_reducible repeat (first | assumption | omega | apply S_I | apply S_L | apply S_D | apply ob_I | apply ob_L | apply ob_D | apply ob_R | apply ax_I | apply ax_L | apply ax_D | apply ax_R | apply o303 | apply o307 | apply o302 | apply o301 | apply ax304 | apply ax305 | apply ax306 | apply ax308 | apply ax309 | apply ax310 | apply lt_S | apply ar305 | apply ar308 | apply ar309)) only [g221_39, g221_40, g221_41, g221_42, g221_43, g221_44, g221_46, g221_47, g221_49, g221_50, g221_52, g221_112, g221_113, g221_114, g221_117, g221_118, g221_120, g221_123, g221_124, g221_126, g221_129, g221_130, g221_133, g221_136, g221_137, g221_140, g221_141, g221_142, g221_143, g221_146, g221_147, g221_148, g221_151, g221_152, g221_153, g221_156, g221_157, g221_158, g221_161, g221_162, g221_164, g221_167, g221_168, g221_170, g221_173, g221_174, g221_176, g221_179, g221_180, g221_182, g221_185, g221_186, g221_188, g221_191, g221_192, g221_195, g221_198, g221_199, g221_202, g221_203, g221_204, g221_207, g221_208, g221_210, g221_213, g221_214, g221_216, g221_219, g221_220, g221_222, g221_225, g221_226, g221_229, g221_232, g221_233, g221_236, Option.toList, List.nil_append, List.cons_append, va_rf, nI_ltI, nI_leI, nI_eq, nI_add, nI_sub, nI_lt0, nI_e0, nI_m1, m1_nI, Nat.reduceEqDiff, Nat.reduceLT, Nat.reduceLeDiff, Nat.reduceAdd, Nat.reduceSub, Nat.reduceMul, ↓reduceIte, eq_self, y1 _]
  · rintro q C P N F k m W hq0 ⟨-, C', ⟨q6, C6, P6, N6, F6, k6, m6', W6, W62, r6', ⟨-, rfl, rfl, rfl, rfl, rfl, rfl, rfl, rfl⟩, rfl, rfl, g6, tg6, wg6, sg6⟩, rfl, -⟩
    have a1 := xadd_len (C := C') (x := (nI (18 + w), lN 0))
    have b1 := xadd_ge (C := C') (x := (nI (18 + w), lN 0))
    refine ⟨⟨by omega, by omega, by omega, by omega, by omega, by omega, by omega, by omega, by omega⟩, tg6, by rw [mgO_none]; exact wg6, fun ez => ?_⟩
    obtain ⟨w0, w2⟩ := mgO_eq_none ez
    obtain ⟨D1, E1, L1, G1, R1, u1, u2, u3, u4⟩ := sg6 w2
    refine ⟨D1 ++ [(nI (18 + w), lN 0)], E1, L1, G1, ?_, u2, u3, u4, ?_⟩
    · rw [xadd_eq (by omega), u1]; simp
    · intro T' M' r' hr1 hr2 hT hr3
      refine ⟨Rp_mk ?_, NC_T R1.2 hT, Or.inl (by decide)⟩
      refine ⟨hr2, Or.inr (Or.inr (Or.inr (Or.inr (Or.inr (Or.inr (Or.inr (Or.inr (Or.inr (Or.inr (Or.inr (Or.inr (Or.inl ⟨w, r6', D1, E1, L1, G1, by omega, by omega, by omega, hr3, ?_, rfl, ?_, rfl, rfl⟩))))))))))))⟩
      · exact Rp_mono (M := m) (by omega) (fun i hi => hT i hi) (by omega) R1.1
      · simp
theorem J_fold (hD : 10 ≤ D) (Lv : JR t n so s vis on na nc nf oX oM agX agM cnX cnM fnX fnM fnA (lxL 0) lm3 77 211 D f) (hf : 11 ≤ f + o) (ho : o ≤ 10) (hn : n ≤ 240) (Gv : am_Gv hx1) (KX : cfX hx1 so s vis on na nc nf oX agX cnX fnX fnA) (KM : cfM hm1 so s vis on na nc nf oM agM cnM fnM fnA) (KR : cfR so na nc nf oX oM agX agM cnX cnM fnX fnM fnA) (hC : C1.length + 2 ≤ 3 * k1) (hP : P1.length ≤ q1 + 2 * k1) (Z0 : SX t n o ltx ltm hx1 hm1 m1 (ph0 hm1 q1 C1 P1 N1 F1 k1 m1) hx1 hm1) {w : Nat} (hw : 2 ≤ w ∧ w ≤ 5) : ∃ hx' hm' a, am_run (D + 2) 96 [some (.ref 301), some (.int (nI w)), none, none] hx1 none hx' ∧ (∀ Q, am_J (D + 1) 221 39 [some (.ref 349), some (.int (nI w)), v2, v3, v4, v5, v6, none] [] hm1 Q ↔ am_J (D + 1) 221 238 [some (.ref 349), some (.int (nI w)), some (.int a), some (.int (-1)), some (.int (-1)), some (.long (lN 0)), none, none] [] hm' Q) ∧ SX t n o ltx ltm hx1 hm1 m1 (phW so on na vis oM agM cnM fnM o hm1 q1 C1 P1 N1 F1 k1 m1 7 (lN w) (wdN w) a (-1) (-1)) hx' hm' := by
  obtain ⟨e, rfl⟩ : ∃ e, D = e + 10 := ⟨D - 10, by omega⟩
  obtain ⟨S0, T0⟩ := SX_S Z0
  obtain ⟨h1, m1', z1, r1, x1, y1, Z1⟩ := st_rows (d := e + 2) ho hn Gv KX KM KR Z0 (by rintro q C P N F k m W ⟨-, rfl, rfl, rfl, rfl, rfl, rfl, rfl, -⟩; exact ⟨by omega, hP⟩)
  obtain ⟨S1, T1⟩ := SX_S Z1
  obtain ⟨h2, p2, hp2, x2, Z2⟩ := st_add (d := e + 11) Z1 (w := 18 + w) (by omega) (x := z1.toInt64)
  have x1' := am_runD x1 (show e + 2 + 8 ≤ e + 11 by omega)
  refine ⟨h2, m1', r1, fun Q => ?_, fun Q => ?_, SX_imp Z2 ?_⟩
  · rcases (show w = 2 ∨ w = 3 ∨ w = 4 ∨ w = 5 by omega) with rfl | rfl | rfl | rfl <;> simp only [Nat.reduceAdd] at x2 <;> simp (disch := first | with_reducible assumption | omega | exact Or.inl rfl | exact Or.inr rfl | exact bI_01 | exact c_cat | exact vt_ref | exact vt_null | rfl | with_reducible repeat (first | assumption | omega | apply S_I | apply S_L | apply S_D | apply ob_I | apply ob_L | apply ob_D | apply ob_R | apply ax_I | apply ax_L | apply ax_D | apply ax_R | apply o303 | apply o307 | apply o302 | apply o301 | apply ax304 | apply ax305 | apply ax306 | apply ax308 | apply ax309 | apply ax310 | apply lt_S | apply ar305 | apply ar308 | apply ar309)) only [g96_0, g96_56, g96_57, g96_60, g96_63, g96_64, g96_67, g96_70, g96_71, g96_74, g96_75, g96_76, g96_77, g96_79, g96_82, g96_83, g96_84, g96_87, g96_88, g96_91, g96_93, g96_94, g96_97, g96_98, g96_101, g96_102, g96_103, g96_106, g96_109, g96_110, g96_113, g96_116, g96_117, g96_119, g96_122, g96_123, g96_124, g96_127, g96_128, g96_131, g96_132, g96_134, g96_135, g96_137, g96_138, g96_139, g96_142, g96_143, g96_146, g96_147, g96_150, g96_151, g96_152, g96_153, g96_155, g96_156, g96_157, g96_160, g96_161, g96_164, g96_165, g96_1_2, g96_1_3, g96_1_4, g96_1_5, Option.toList, List.nil_append, List.cons_append, va_rf, nI_ltI, nI_leI, nI_eq, nI_add, nI_sub, nI_lt0, nI_e0, nI_m1, m1_nI, Nat.reduceEqDiff, Nat.reduceLT, Nat.reduceLeDiff, Nat.reduceAdd, Nat.reduceSub, Nat.reduceMul, ↓reduceIte, eq_self, x1' _, x2 _]
  · rcases (show w = 2 ∨ w = 3 ∨ w = 4 ∨ w = 5 by omega) with rfl | rfl | rfl | rfl <;> simp (disch := first | with_reducible assumption | omega | exact Or.inl rfl | exact Or.inr rfl | exact bI_01 | exact c_cat | exact vt_ref | exact vt_null | rfl | with_reducible repeat (first | assumption | omega | apply S_I | apply S_L | apply S_D | apply ob_I | apply ob_L | apply ob_D | apply ob_R | apply ax_I | apply ax_L | apply ax_D | apply ax_R | apply o303 | apply o307 | apply o302 | apply o301 | apply ax304 | apply ax305 | apply ax306 | apply ax308 | apply ax309 | apply ax310 | apply lt_S | apply ar305 | apply ar308 | apply ar309)) only [g221_39, g221_40, g221_41, g221_42, g221_43, g221_44, g221_46, g221_47, g221_49, g221_50, g221_52, g221_112, g221_113, g221_114, g221_117, g221_118, g221_120, g221_123, g221_124, g221_126, g221_129, g221_130, g221_133, g221_136, g221_137, g221_140, g221_141, g221_142, g221_143, g221_146, g221_147, g221_148, g221_151, g221_152, g221_153, g221_156, g221_157, g221_158, g221_161, g221_162, g221_164, g221_167, g221_168, g221_170, g221_173, g221_174, g221_176, g221_179, g221_180, g221_182, g221_185, g221_186, g221_188, g221_191, g221_192, g221_195, g221_198, g221_199, g221_202, g221_203, g221_204, g221_207, g221_208, g221_210, Option.toList, List.nil_append, List.cons_append, va_rf, nI_ltI, nI_leI, nI_eq, nI_add, nI_sub, nI_lt0, nI_e0, nI_m1, m1_nI, Nat.reduceEqDiff, Nat.reduceLT, Nat.reduceLeDiff, Nat.reduceAdd, Nat.reduceSub, Nat.reduceMul, ↓reduceIte, eq_self, y1 _]
  · rintro q C P N F k m W hq0 ⟨-, C', ⟨q6, P6, N6, k6, m6', W6, W62, a, b, ⟨-, rfl, rfl, rfl, rfl, rfl, rfl, rfl, rfl⟩, rfl, rfl, rfl, g1, g2, g3, g4, g5, g6, g7, g8, g9, tg6, wg6, sg6⟩, rfl, -⟩
    have a1 := xadd_len (C := C') (x := (nI (18 + w), z1.toInt64))
    have b1 := xadd_ge (C := C') (x := (nI (18 + w), z1.toInt64))
    refine ⟨⟨by omega, by omega, by omega, by omega, by omega, by omega, by omega, by omega, by omega⟩, tg6, by rw [mgO_none]; exact wg6, fun ez => ?_⟩
    obtain ⟨w0, w2⟩ := mgO_eq_none ez
    obtain ⟨s0, s1, s2, s3⟩ := sg6 w2
    refine ⟨[(nI (18 + w), lN (a + 256 * b))], clN a ++ 58 :: clN b, rgL a b, [], ?_, s2, s3, rfl, ?_⟩
    · rw [xadd_eq (by omega), g7, nI_l (by omega)]
    · intro T' M' r' hr1 hr2 hT hr3
      refine ⟨Rp_mk ?_, NC_kd ((hT _ (by omega)).trans g9) (by decide), Or.inl (by decide)⟩
      refine ⟨hr2, Or.inr (Or.inr (Or.inr (Or.inr (Or.inr (Or.inr (Or.inr (Or.inr (Or.inl ⟨w, m6', a, b, hw.1, hw.2, decide_eq_false (by omega), knO_X KX s0, by omega, by rw [hr3, g8], ⟨by omega, by rw [hT _ (by omega)]; exact g9, g5, g6, s1⟩, rfl, ?_, rfl, rfl⟩))))))))⟩
      simp
end WRD3

/-! BOTH PARSERS: at, line, area -/
theorem or16 {a b : Nat} (ha : a < 65536) : lN a ||| (lN b <<< (lN 16 &&& 63)) = lN (a + 65536 * b) := by
  rw [show (lN 16 &&& 63) = 16 by decide]
  apply Int64.toBitVec_inj.mp
  rw [Int64.toBitVec_or, Int64.toBitVec_shiftLeft, lN_bv', lN_bv', lN_bv', show (BitVec.smod (16 : Int64).toBitVec 64) = 16#64 by decide]
  apply BitVec.eq_of_toNat_eq
  rw [BitVec.toNat_or, BitVec.shiftLeft_eq', BitVec.toNat_shiftLeft, BitVec.toNat_ofNat, BitVec.toNat_ofNat, BitVec.toNat_ofNat, BitVec.toNat_ofNat, show 16 % 2 ^ 64 = 16 by decide, Nat.mod_eq_of_lt (show a < 2 ^ 64 by omega)]
  have e1 : (b % 2 ^ 64) <<< 16 % 2 ^ 64 = (b % 2 ^ 48) <<< 16 := by
    rw [Nat.shiftLeft_eq, Nat.shiftLeft_eq]; omega
  rw [e1, Nat.or_comm, ← Nat.shiftLeft_add_eq_or_of_lt (show a < 2 ^ 16 from ha), Nat.shiftLeft_eq]; omega
section WRD4
variable {so s vis on na nc nf : Nat} {oX oM : Int64} {agX agM cnX cnM fnX fnM : Nat → Int64} {fnA : Nat → Nat} {t : Nat → Nat} {n : Nat} {D f : Nat} {d : Nat}
variable {hx1 hm1 : am_H} {o m1 q1 k1 : Nat} {C1 : List (Int32 × Int64)} {P1 : List Int32} {N1 : List Nat} {F1 : Int32} {ltx ltm : Option (Nat × Nat)} {v2 v3 v4 v5 v6 : Option Value}
theorem J_at (hD : 10 ≤ D) (Lv : JR t n so s vis on na nc nf oX oM agX agM cnX cnM fnX fnM fnA (lxL 0) lm3 77 211 D f) (hf : 11 ≤ f + o) (ho : o ≤ 10) (hn : n ≤ 240) (Gv : am_Gv hx1) (KX : cfX hx1 so s vis on na nc nf oX agX cnX fnX fnA) (KM : cfM hm1 so s vis on na nc nf oM agM cnM fnM fnA) (KR : cfR so na nc nf oX oM agX agM cnX cnM fnX fnM fnA) (hC : C1.length + 2 ≤ 3 * k1) (hP : P1.length ≤ q1 + 2 * k1) (Z0 : SX t n o ltx ltm hx1 hm1 m1 (ph0 hm1 q1 C1 P1 N1 F1 k1 m1) hx1 hm1) : ∃ hx' hm' a b, am_run (D + 2) 96 [some (.ref 301), some (.int (nI 6)), none, none] hx1 none hx' ∧ (∀ Q, am_J (D + 1) 221 39 [some (.ref 349), some (.int (nI 6)), v2, v3, v4, v5, v6, none] [] hm1 Q ↔ am_J (D + 1) 221 238 [some (.ref 349), some (.int (nI 6)), some (.int a), some (.int b), some (.int (-1)), some (.long (lN 0)), none, none] [] hm' Q) ∧ SX t n o ltx ltm hx1 hm1 m1 (phW so on na vis oM agM cnM fnM o hm1 q1 C1 P1 N1 F1 k1 m1 7 (lN 6) (wdN 6) a b (-1)) hx' hm' := by
  obtain ⟨e, rfl⟩ : ∃ e, D = e + 10 := ⟨D - 10, by omega⟩
  obtain ⟨S0, T0⟩ := SX_S Z0
  obtain ⟨h1, m1', z1, r1, x1, y1, Z1⟩ := st_rows (d := e + 2) ho hn Gv KX KM KR Z0 (by rintro q C P N F k m W ⟨-, rfl, rfl, rfl, rfl, rfl, rfl, rfl, -⟩; exact ⟨by omega, hP⟩)
  obtain ⟨S1, T1⟩ := SX_S Z1
  obtain ⟨h2, m2, x2, y2, Z2⟩ := st_pass (d := e + 6) Z1 (c := 44) (by decide)
  obtain ⟨S2, T2⟩ := SX_S Z2
  obtain ⟨h3, m3, r3, x3, y3, Z3⟩ := st_level (by omega) Lv hf ho hn Gv KX KM KR Z2 (by
    rintro q C P N F k m W ⟨q', P', ⟨q6, P6, N6, k6, m6', W6, W62, a, b, ⟨-, rfl, rfl, rfl, rfl, rfl, rfl, rfl, -⟩, rfl, rfl, -, g1, g2, g3, g4, -⟩, -, hq7, rfl, -⟩
    have a2 := xpad_len (P := P') (w := nI 44)
    constructor <;> omega)
  obtain ⟨S3, T3⟩ := SX_S Z3
  obtain ⟨h4, p4, hp4, x4, Z4⟩ := st_add (d := e + 11) Z3 (w := 24) (by decide) (x := z1.toInt64)
  have x1' := am_runD x1 (show e + 2 + 8 ≤ e + 11 by omega)
  have x2' := am_runD x2 (show e + 6 + 4 ≤ e + 11 by omega)
  have x3' := am_runD x3 (show e + 10 ≤ e + 11 by omega)
  refine ⟨h4, m3, r1, r3, fun Q => ?_, fun Q => ?_, SX_imp Z4 ?_⟩
  · simp (disch := first | with_reducible assumption | omega | exact Or.inl rfl | exact Or.inr rfl | exact bI_01 | exact c_cat | exact vt_ref | exact vt_null | rfl | with_reducible repeat (first | assumption | omega | apply S_I | apply S_L | apply S_D | apply ob_I | apply ob_L | apply ob_D | apply ob_R | apply ax_I | apply ax_L | apply ax_D | apply ax_R | apply o303 | apply o307 | apply o302 | apply o301 | apply ax304 | apply ax305 | apply ax306 | apply ax308 | apply ax309 | apply ax310 | apply lt_S | apply ar305 | apply ar308 | apply ar309)) only [g96_0, g96_56, g96_57, g96_60, g96_63, g96_64, g96_67, g96_70, g96_71, g96_74, g96_75, g96_76, g96_77, g96_79, g96_82, g96_83, g96_84, g96_87, g96_88, g96_91, g96_93, g96_94, g96_97, g96_98, g96_101, g96_102, g96_103, g96_106, g96_109, g96_110, g96_113, g96_116, g96_117, g96_119, g96_122, g96_123, g96_124, g96_127, g96_128, g96_131, g96_132, g96_134, g96_135, g96_137, g96_138, g96_139, g96_142, g96_143, g96_146, g96_147, g96_150, g96_151, g96_152, g96_153, g96_155, g96_156, g96_157, g96_160, g96_161, g96_164, g96_165, g96_1_6, Option.toList, List.nil_append, List.cons_append, va_rf, x1' _, x2' _, x3' _, x4 _]
  · simp (disch := first | with_reducible assumption | omega | exact Or.inl rfl | exact Or.inr rfl | exact bI_01 | exact c_cat | exact vt_ref | exact vt_null | rfl | with_reducible repeat (first | assumption | omega | apply S_I | apply S_L | apply S_D | apply ob_I | apply ob_L | apply ob_D | apply ob_R | apply ax_I | apply ax_L | apply ax_D | apply ax_R | apply o303 | apply o307 | apply o302 | apply o301 | apply ax304 | apply ax305 | apply ax306 | apply ax308 | apply ax309 | apply ax310 | apply lt_S | apply ar305 | apply ar308 | apply ar309)) only [g221_39, g221_40, g221_41, g221_42, g221_43, g221_44, g221_46, g221_47, g221_49, g221_50, g221_52, g221_112, g221_113, g221_114, g221_117, g221_118, g221_120, g221_123, g221_124, g221_126, g221_129, g221_130, g221_133, g221_136, g221_137, g221_140, g221_141, g221_142, g221_143, g221_146, g221_147, g221_148, g221_151, g221_152, g221_153, g221_156, g221_157, g221_158, g221_161, g221_162, g221_164, g221_167, g221_168, g221_170, g221_173, g221_174, g221_176, g221_179, g221_180, g221_182, g221_185, g221_186, g221_188, g221_191, g221_192, g221_195, g221_198, g221_199, g221_202, g221_203, g221_204, g221_207, g221_208, g221_210, g221_213, g221_214, g221_216, g221_219, g221_220, g221_222, g221_225, g221_226, g221_229, g221_232, g221_233, g221_236, Option.toList, List.nil_append, List.cons_append, va_rf, nI_ltI, nI_leI, nI_eq, nI_add, nI_sub, nI_lt0, nI_e0, nI_m1, m1_nI, Nat.reduceEqDiff, Nat.reduceLT, Nat.reduceLeDiff, Nat.reduceAdd, Nat.reduceSub, Nat.reduceMul, ↓reduceIte, eq_self, y1 _, y2 _, y3 _]
  · rintro q C P N F k m W hq0 ⟨-, C9, ⟨q10, C10, P10, N10, F10, k10, m10, W10, W102, r10, ⟨q', P', ⟨q6, P6, N6, k6, m6', W6, W62, a, b, ⟨-, rfl, rfl, rfl, rfl, rfl, rfl, rfl, rfl⟩, rfl, rfl, rfl, g1, g2, g3, g4, g5, g6, g7, g8, g9, tg6, wg6, sg6⟩, -, hq7, rfl, tp⟩, rfl, rfl, g10, tg10, wg10, sg10⟩, rfl, -⟩
    have a1 := xadd_len (C := C9) (x := (nI 24, z1.toInt64))
    have a2 := xpad_len (P := P') (w := nI 44)
    have b1 := xadd_ge (C := C9) (x := (nI 24, z1.toInt64))
    have b2 := xpad_ge (P := P') (w := nI 44)
    have tall : ∀ i, i < m6' → tb m3 3648 i = tb hm1 3648 i := fun i hi => by rw [tg10 i (by omega), tp i (by omega), tg6 i hi]
    refine ⟨⟨by omega, by omega, by omega, by omega, by omega, by omega, by omega, by omega, by omega⟩, tall, ?_, fun ez => ?_⟩
    · rw [mgO_none]
      exact mgO_bd wg6 wg10 (by omega) (by omega)
    · obtain ⟨w1, w3⟩ := mgO_eq_none ez
      obtain ⟨w0, w2⟩ := mgO_eq_none w1
      obtain ⟨s0, s1, s2, s3⟩ := sg6 w2
      obtain ⟨D2, E2, L2, G2, R2, u5, u6, u7, u8⟩ := sg10 w3
      refine ⟨D2 ++ [(nI 24, lN (a + 256 * b))], clN a ++ 58 :: clN b ++ 44 :: E2, rgL a b ++ L2, G2, ?_, ?_, ?_, u8, ?_⟩
      · rw [xadd_eq (by omega), u5, g7, nI_l (by omega)]; simp
      · rw [u6, xpad_eq (by omega) (by decide), s2]; simp
      · rw [u7, s3]; simp
      · intro T' M' r' hr1 hr2 hT hr3
        have N1 : NC T' m6' (m6' + 1) [] := NC_kd ((hT _ (by omega)).trans ((tg10 _ (by omega)).trans ((tp _ (by omega)).trans g9))) (by decide)
        refine ⟨Rp_mk ?_, NC_app N1 (NC_T R2.2 hT), Or.inl (by decide)⟩
        refine ⟨hr2, Or.inr (Or.inr (Or.inr (Or.inr (Or.inr (Or.inr (Or.inr (Or.inr (Or.inr (Or.inl ⟨m6', r10, a, b, D2, E2, L2, G2, decide_eq_false (by omega), knO_X KX s0, by omega, by omega, by rw [hr3, g8], ⟨by omega, by rw [hT _ (by omega), tg10 _ (by omega), tp _ (by omega)]; exact g9, g5, g6, s1⟩, ?_, ?_, ?_, rfl, rfl⟩)))))))))⟩
        · exact Rp_mono (M := m) (by omega) (fun i hi => hT i hi) (by omega) R2.1
        · simp
        · simp
theorem J_area (hD : 10 ≤ D) (Lv : JR t n so s vis on na nc nf oX oM agX agM cnX cnM fnX fnM fnA (lxL 0) lm3 77 211 D f) (hf : 11 ≤ f + o) (ho : o ≤ 10) (hn : n ≤ 240) (Gv : am_Gv hx1) (KX : cfX hx1 so s vis on na nc nf oX agX cnX fnX fnA) (KM : cfM hm1 so s vis on na nc nf oM agM cnM fnM fnA) (KR : cfR so na nc nf oX oM agX agM cnX cnM fnX fnM fnA) (hC : C1.length + 2 ≤ 3 * k1) (hP : P1.length ≤ q1 + 2 * k1) (Z0 : SX t n o ltx ltm hx1 hm1 m1 (ph0 hm1 q1 C1 P1 N1 F1 k1 m1) hx1 hm1) : ∃ hx' hm' a b, am_run (D + 2) 96 [some (.ref 301), some (.int (nI 8)), none, none] hx1 none hx' ∧ (∀ Q, am_J (D + 1) 221 39 [some (.ref 349), some (.int (nI 8)), v2, v3, v4, v5, v6, none] [] hm1 Q ↔ am_J (D + 1) 221 238 [some (.ref 349), some (.int (nI 8)), some (.int a), some (.int b), some (.int (-1)), some (.long (lN 0)), none, none] [] hm' Q) ∧ SX t n o ltx ltm hx1 hm1 m1 (phW so on na vis oM agM cnM fnM o hm1 q1 C1 P1 N1 F1 k1 m1 7 (lN 8) (wdN 8) a b (-1)) hx' hm' := by
  obtain ⟨e, rfl⟩ : ∃ e, D = e + 10 := ⟨D - 10, by omega⟩
  obtain ⟨S0, T0⟩ := SX_S Z0
  obtain ⟨h1, m1', z1, r1, x1, y1, Z1⟩ := st_rows (d := e + 2) ho hn Gv KX KM KR Z0 (by rintro q C P N F k m W ⟨-, rfl, rfl, rfl, rfl, rfl, rfl, rfl, -⟩; exact ⟨by omega, hP⟩)
  obtain ⟨S1, T1⟩ := SX_S Z1
  obtain ⟨h2, m2, x2, y2, Z2⟩ := st_pass (d := e + 6) Z1 (c := 44) (by decide)
  obtain ⟨S2, T2⟩ := SX_S Z2
  obtain ⟨h3, m3, z3, r3, x3, y3, Z3⟩ := st_rows (d := e + 2) ho hn Gv KX KM KR Z2 (by
    rintro q C P N F k m W ⟨q', P', ⟨q6, P6, N6, k6, m6', W6, W62, a, b, ⟨-, rfl, rfl, rfl, rfl, rfl, rfl, rfl, -⟩, rfl, rfl, -, g1, g2, g3, g4, -⟩, -, hq7, rfl, -⟩
    have a2 := xpad_len (P := P') (w := nI 44)
    constructor <;> omega)
  obtain ⟨S3, T3⟩ := SX_S Z3
  obtain ⟨h4, p4, hp4, x4, Z4⟩ := st_add (d := e + 10) Z3 (w := 26) (by decide) (x := z1.toInt64 ||| (z3.toInt64 <<< ((nI 16).toInt64 &&& 63)))
  refine ⟨h4, m3, r1, r3, fun Q => ?_, fun Q => ?_, SX_imp Z4 ?_⟩
  · have W : ∀ Q, am_J (e + 11) 102 0 [some (.ref 301), some (.int (nI 8)), none, none, none, none] [] hx1 Q ↔ Q none h4 := fun Q => by
      simp (disch := first | with_reducible assumption | omega | exact Or.inl rfl | exact Or.inr rfl | exact bI_01 | exact c_cat | exact vt_ref | exact vt_null | rfl | with_reducible repeat (first | assumption | omega | apply S_I | apply S_L | apply S_D | apply ob_I | apply ob_L | apply ob_D | apply ob_R | apply ax_I | apply ax_L | apply ax_D | apply ax_R | apply o303 | apply o307 | apply o302 | apply o301 | apply ax304 | apply ax305 | apply ax306 | apply ax308 | apply ax309 | apply ax310 | apply lt_S | apply ar305 | apply ar308 | apply ar309)) only [g102_0, g102_1, g102_3, g102_6, g102_7, g102_8, g102_11, g102_12, g102_14, g102_17, g102_18, g102_21, g102_22, g102_23, g102_24, g102_26, g102_29, g102_30, g102_33, g102_34, g102_36, g102_37, g102_40, g102_41, g102_43, g102_46, g102_48, g102_51, g102_53, g102_54, g102_56, g102_58, g102_59, g102_60, g102_63, g102_64, Option.toList, List.nil_append, List.cons_append, va_rf, nI_ltI, nI_leI, nI_eq, nI_add, nI_sub, nI_lt0, nI_e0, nI_m1, m1_nI, Nat.reduceEqDiff, Nat.reduceLT, Nat.reduceLeDiff, Nat.reduceAdd, Nat.reduceSub, Nat.reduceMul, ↓reduceIte, eq_self, x1 _, x2 _, x3 _, x4 _]
    simp (disch := first | with_reducible assumption | omega | exact Or.inl rfl | exact Or.inr rfl | exact bI_01 | exact c_cat | exact vt_ref | exact vt_null | rfl | with_reducible repeat (first | assumption | omega | apply S_I | apply S_L | apply S_D | apply ob_I | apply ob_L | apply ob_D | apply ob_R | apply ax_I | apply ax_L | apply ax_D | apply ax_R | apply o303 | apply o307 | apply o302 | apply o301 | apply ax304 | apply ax305 | apply ax306 | apply ax308 | apply ax309 | apply ax310 | apply lt_S | apply ar305 | apply ar308 | apply ar309)) only [g96_0, g96_56, g96_57, g96_60, g96_63, g96_64, g96_67, g96_70, g96_71, g96_74, g96_75, g96_76, g96_77, g96_79, g96_82, g96_83, g96_84, g96_87, g96_88, g96_91, g96_93, g96_94, g96_97, g96_98, g96_101, g96_102, g96_103, g96_106, g96_109, g96_110, g96_113, g96_116, g96_117, g96_119, g96_122, g96_123, g96_124, g96_127, g96_128, g96_131, g96_132, g96_134, g96_135, g96_137, g96_138, g96_139, g96_142, g96_143, g96_146, g96_147, g96_150, g96_151, g96_152, g96_153, g96_155, g96_156, g96_157, g96_160, g96_161, g96_164, g96_165, g96_1_8, Option.toList, List.nil_append, List.cons_append, va_rf, W]
  · simp (disch := first | with_reducible assumption | omega | exact Or.inl rfl | exact Or.inr rfl | exact bI_01 | exact c_cat | exact vt_ref | exact vt_null | rfl | with_reducible repeat (first | assumption | omega | apply S_I | apply S_L | apply S_D | apply ob_I | apply ob_L | apply ob_D | apply ob_R | apply ax_I | apply ax_L | apply ax_D | apply ax_R | apply o303 | apply o307 | apply o302 | apply o301 | apply ax304 | apply ax305 | apply ax306 | apply ax308 | apply ax309 | apply ax310 | apply lt_S | apply ar305 | apply ar308 | apply ar309)) only [g221_39, g221_40, g221_41, g221_42, g221_43, g221_44, g221_46, g221_47, g221_49, g221_50, g221_52, g221_112, g221_113, g221_114, g221_117, g221_118, g221_120, g221_123, g221_124, g221_126, g221_129, g221_130, g221_133, g221_136, g221_137, g221_140, g221_141, g221_142, g221_143, g221_146, g221_147, g221_148, g221_151, g221_152, g221_153, g221_156, g221_157, g221_158, g221_161, g221_162, g221_164, g221_167, g221_168, g221_170, g221_173, g221_174, g221_176, g221_179, g221_180, g221_182, g221_185, g221_186, g221_188, g221_191, g221_192, g221_195, g221_198, g221_199, g221_202, g221_203, g221_204, g221_207, g221_208, g221_210, g221_213, g221_214, g221_216, g221_219, g221_220, g221_222, g221_225, g221_226, g221_229, g221_232, g221_233, g221_236, Option.toList, List.nil_append, List.cons_append, va_rf, nI_ltI, nI_leI, nI_eq, nI_add, nI_sub, nI_lt0, nI_e0, nI_m1, m1_nI, Nat.reduceEqDiff, Nat.reduceLT, Nat.reduceLeDiff, Nat.reduceAdd, Nat.reduceSub, Nat.reduceMul, ↓reduceIte, eq_self, y1 _, y2 _, y3 _]
  · rintro q C P N F k m W hq0 ⟨-, C9, ⟨q10, P10, N10, k10, m10, W10, W102, a', b', ⟨q', P', ⟨q6, P6, N6, k6, m6', W6, W62, a, b, ⟨-, rfl, rfl, rfl, rfl, rfl, rfl, rfl, rfl⟩, rfl, rfl, rfl, g1, g2, g3, g4, g5, g6, g7, g8, g9, tg6, wg6, sg6⟩, -, hq7, rfl, tp⟩, rfl, rfl, rfl, j1, j2, j3, j4, j5, j6, j7, j8, j9, tg10, wg10, sg10⟩, rfl, -⟩
    have a1 := xadd_len (C := C9) (x := (nI 26, z1.toInt64 ||| (z3.toInt64 <<< ((nI 16).toInt64 &&& 63))))
    have a2 := xpad_len (P := P') (w := nI 44)
    have b1 := xadd_ge (C := C9) (x := (nI 26, z1.toInt64 ||| (z3.toInt64 <<< ((nI 16).toInt64 &&& 63))))
    have b2 := xpad_ge (P := P') (w := nI 44)
    have tall : ∀ i, i < m6' → tb m3 3648 i = tb hm1 3648 i := fun i hi => by rw [tg10 i (by omega), tp i (by omega), tg6 i hi]
    refine ⟨⟨by omega, by omega, by omega, by omega, by omega, by omega, by omega, by omega, by omega⟩, tall, ?_, fun ez => ?_⟩
    · rw [mgO_none]
      exact mgO_bd wg6 wg10 (by omega) (by omega)
    · obtain ⟨w1, w3⟩ := mgO_eq_none ez
      obtain ⟨w0, w2⟩ := mgO_eq_none w1
      obtain ⟨s0, s1, s2, s3⟩ := sg6 w2
      obtain ⟨s4, s5, s6, s7⟩ := sg10 w3
      refine ⟨[(nI 26, lN (a + 256 * b + 65536 * (a' + 256 * b')))], clN a ++ 58 :: clN b ++ 44 :: clN a' ++ 58 :: clN b', rgL a b ++ rgL a' b', [], ?_, ?_, ?_, rfl, ?_⟩
      · rw [xadd_eq (by omega), g7, j7, nI_l (by omega), nI_l (by omega), nI_l (by omega), or16 (by omega)]
      · rw [s6, xpad_eq (by omega) (by decide), s2]; simp
      · rw [s7, s3]; simp
      · intro T' M' r' hr1 hr2 hT hr3
        have N1 : NC T' m6' (m6' + 1) [] := NC_kd ((hT _ (by omega)).trans ((tg10 _ (by omega)).trans ((tp _ (by omega)).trans g9))) (by decide)
        have N2 : NC T' m6' (m6' + 1 + 1) [] := NC_end N1 ((hT _ (by omega)).trans j9) (by decide)
        refine ⟨Rp_mk ?_, N2, Or.inl (by decide)⟩
        refine ⟨hr2, Or.inr (Or.inr (Or.inr (Or.inr (Or.inr (Or.inr (Or.inr (Or.inr (Or.inr (Or.inr (Or.inr (Or.inl ⟨m6', m6' + 1, a, b, a', b', decide_eq_false (by omega), knO_X KX s0, by omega, by omega, by rw [hr3, g8, j8], ⟨by omega, by rw [hT _ (by omega), tg10 _ (by omega), tp _ (by omega)]; exact g9, g5, g6, s1⟩, ⟨by omega, by rw [hT _ (by omega)]; exact j9, j5, j6, s5⟩, rfl, ?_, rfl, rfl⟩)))))))))))⟩
        simp
theorem J_line (hD : 10 ≤ D) (Lv : JR t n so s vis on na nc nf oX oM agX agM cnX cnM fnX fnM fnA (lxL 0) lm3 77 211 D f) (hf : 11 ≤ f + o) (ho : o ≤ 10) (hn : n ≤ 240) (Gv : am_Gv hx1) (KX : cfX hx1 so s vis on na nc nf oX agX cnX fnX fnA) (KM : cfM hm1 so s vis on na nc nf oM agM cnM fnM fnA) (KR : cfR so na nc nf oX oM agX agM cnX cnM fnX fnM fnA) (hC : C1.length + 2 ≤ 3 * k1) (hP : P1.length ≤ q1 + 2 * k1) (Z0 : SX t n o ltx ltm hx1 hm1 m1 (ph0 hm1 q1 C1 P1 N1 F1 k1 m1) hx1 hm1) : ∃ hx' hm' a b c, am_run (D + 2) 96 [some (.ref 301), some (.int (nI 7)), none, none] hx1 none hx' ∧ (∀ Q, am_J (D + 1) 221 39 [some (.ref 349), some (.int (nI 7)), v2, v3, v4, v5, v6, none] [] hm1 Q ↔ am_J (D + 1) 221 238 [some (.ref 349), some (.int (nI 7)), some (.int a), some (.int b), some (.int c), some (.long (lN 0)), none, none] [] hm' Q) ∧ SX t n o ltx ltm hx1 hm1 m1 (phW so on na vis oM agM cnM fnM o hm1 q1 C1 P1 N1 F1 k1 m1 7 (lN 7) (wdN 7) a b c) hx' hm' := by
  obtain ⟨e, rfl⟩ : ∃ e, D = e + 10 := ⟨D - 10, by omega⟩
  obtain ⟨S0, T0⟩ := SX_S Z0
  obtain ⟨h1, m1', r1, x1, y1, Z1⟩ := st_level (by omega) Lv hf ho hn Gv KX KM KR Z0 (by rintro q C P N F k m W ⟨-, rfl, rfl, rfl, rfl, rfl, rfl, rfl, -⟩; exact ⟨by omega, hP⟩)
  obtain ⟨S1, T1⟩ := SX_S Z1
  obtain ⟨h2, m2, x2, y2, Z2⟩ := st_pass (d := e + 6) Z1 (c := 44) (by decide)
  obtain ⟨S2, T2⟩ := SX_S Z2
  obtain ⟨h3, m3, z3, r3, x3, y3, Z3⟩ := st_rows (d := e + 2) ho hn Gv KX KM KR Z2 (by
    rintro q C P N F k m W ⟨q', P', ⟨q6, C6, P6, N6, F6, k6, m6', W6, W62, r6', ⟨-, rfl, rfl, rfl, rfl, rfl, rfl, rfl, -⟩, -, -, g6, -⟩, -, hq7, rfl, -⟩
    have a2 := xpad_len (P := P') (w := nI 44)
    constructor <;> omega)
  obtain ⟨S3, T3⟩ := SX_S Z3
  obtain ⟨h4, m4, x4, y4, Z4⟩ := st_pass (d := e + 6) Z3 (c := 44) (by decide)
  obtain ⟨S4, T4⟩ := SX_S Z4
  obtain ⟨h5, m5, z5, r5, x5, y5, Z5⟩ := st_rows (d := e + 2) ho hn Gv KX KM KR Z4 (by
    rintro q C P N F k m W ⟨q9, P9, ⟨q8, P8, N8, k8, m8, W8, W82, a, b, ⟨q', P', ⟨q6, C6, P6, N6, F6, k6, m6', W6, W62, r6', ⟨-, rfl, rfl, rfl, rfl, rfl, rfl, rfl, -⟩, -, -, g6, -⟩, -, hq7, rfl, -⟩, rfl, rfl, -, g1, g2, g3, g4, -⟩, -, hq9, rfl, -⟩
    have a2 := xpad_len (P := P') (w := nI 44)
    have a3 := xpad_len (P := P9) (w := nI 44)
    constructor <;> omega)
  obtain ⟨S5, T5⟩ := SX_S Z5
  obtain ⟨h6, p6, hp6, x6, Z6⟩ := st_add (d := e + 10) Z5 (w := 25) (by decide) (x := z3.toInt64 ||| (z5.toInt64 <<< ((nI 16).toInt64 &&& 63)))
  refine ⟨h6, m5, r1, r3, r5, fun Q => ?_, fun Q => ?_, SX_imp Z6 ?_⟩
  · have W : ∀ Q, am_J (e + 11) 102 0 [some (.ref 301), some (.int (nI 7)), none, none, none, none] [] hx1 Q ↔ Q none h6 := fun Q => by
      simp (disch := first | with_reducible assumption | omega | exact Or.inl rfl | exact Or.inr rfl | exact bI_01 | exact c_cat | exact vt_ref | exact vt_null | rfl | with_reducible repeat (first | assumption | omega | apply S_I | apply S_L | apply S_D | apply ob_I | apply ob_L | apply ob_D | apply ob_R | apply ax_I | apply ax_L | apply ax_D | apply ax_R | apply o303 | apply o307 | apply o302 | apply o301 | apply ax304 | apply ax305 | apply ax306 | apply ax308 | apply ax309 | apply ax310 | apply lt_S | apply ar305 | apply ar308 | apply ar309)) only [g102_0, g102_1, g102_3, g102_6, g102_7, g102_8, g102_11, g102_12, g102_14, g102_17, g102_18, g102_21, g102_22, g102_23, g102_24, g102_26, g102_29, g102_30, g102_33, g102_34, g102_36, g102_37, g102_40, g102_41, g102_43, g102_46, g102_48, g102_51, g102_53, g102_54, g102_56, g102_58, g102_59, g102_60, g102_63, g102_64, Option.toList, List.nil_append, List.cons_append, va_rf, nI_ltI, nI_leI, nI_eq, nI_add, nI_sub, nI_lt0, nI_e0, nI_m1, m1_nI, Nat.reduceEqDiff, Nat.reduceLT, Nat.reduceLeDiff, Nat.reduceAdd, Nat.reduceSub, Nat.reduceMul, ↓reduceIte, eq_self, x1 _, x2 _, x3 _, x4 _, x5 _, x6 _]
    simp (disch := first | with_reducible assumption | omega | exact Or.inl rfl | exact Or.inr rfl | exact bI_01 | exact c_cat | exact vt_ref | exact vt_null | rfl | with_reducible repeat (first | assumption | omega | apply S_I | apply S_L | apply S_D | apply ob_I | apply ob_L | apply ob_D | apply ob_R | apply ax_I | apply ax_L | apply ax_D | apply ax_R | apply o303 | apply o307 | apply o302 | apply o301 | apply ax304 | apply ax305 | apply ax306 | apply ax308 | apply ax309 | apply ax310 | apply lt_S | apply ar305 | apply ar308 | apply ar309)) only [g96_0, g96_56, g96_57, g96_60, g96_63, g96_64, g96_67, g96_70, g96_71, g96_74, g96_75, g96_76, g96_77, g96_79, g96_82, g96_83, g96_84, g96_87, g96_88, g96_91, g96_93, g96_94, g96_97, g96_98, g96_101, g96_102, g96_103, g96_106, g96_109, g96_110, g96_113, g96_116, g96_117, g96_119, g96_122, g96_123, g96_124, g96_127, g96_128, g96_131, g96_132, g96_134, g96_135, g96_137, g96_138, g96_139, g96_142, g96_143, g96_146, g96_147, g96_150, g96_151, g96_152, g96_153, g96_155, g96_156, g96_157, g96_160, g96_161, g96_164, g96_165, g96_1_7, Option.toList, List.nil_append, List.cons_append, va_rf, W]
  · simp (disch := first | with_reducible assumption | omega | exact Or.inl rfl | exact Or.inr rfl | exact bI_01 | exact c_cat | exact vt_ref | exact vt_null | rfl | with_reducible repeat (first | assumption | omega | apply S_I | apply S_L | apply S_D | apply ob_I | apply ob_L | apply ob_D | apply ob_R | apply ax_I | apply ax_L | apply ax_D | apply ax_R | apply o303 | apply o307 | apply o302 | apply o301 | apply ax304 | apply ax305 | apply ax306 | apply ax308 | apply ax309 | apply ax310 | apply lt_S | apply ar305 | apply ar308 | apply ar309)) only [g221_39, g221_40, g221_41, g221_42, g221_43, g221_44, g221_46, g221_47, g221_49, g221_50, g221_52, g221_112, g221_113, g221_114, g221_117, g221_118, g221_120, g221_123, g221_124, g221_126, g221_129, g221_130, g221_133, g221_136, g221_137, g221_140, g221_141, g221_142, g221_143, g221_146, g221_147, g221_148, g221_151, g221_152, g221_153, g221_156, g221_157, g221_158, g221_161, g221_162, g221_164, g221_167, g221_168, g221_170, g221_173, g221_174, g221_176, g221_179, g221_180, g221_182, g221_185, g221_186, g221_188, g221_191, g221_192, g221_195, g221_198, g221_199, g221_202, g221_203, g221_204, g221_207, g221_208, g221_210, g221_213, g221_214, g221_216, g221_219, g221_220, g221_222, g221_225, g221_226, g221_229, g221_232, g221_233, g221_236, Option.toList, List.nil_append, List.cons_append, va_rf, nI_ltI, nI_leI, nI_eq, nI_add, nI_sub, nI_lt0, nI_e0, nI_m1, m1_nI, Nat.reduceEqDiff, Nat.reduceLT, Nat.reduceLeDiff, Nat.reduceAdd, Nat.reduceSub, Nat.reduceMul, ↓reduceIte, eq_self, y1 _, y2 _, y3 _, y4 _, y5 _]
  · rintro q C P N F k m W hq0 ⟨-, C9, ⟨q10, P10, N10, k10, m10, W10, W102, a', b', ⟨q9, P9, ⟨q8, P8, N8, k8, m8, W8, W82, a, b, ⟨q', P', ⟨q6, C6, P6, N6, F6, k6, m6', W6, W62, r6', ⟨-, rfl, rfl, rfl, rfl, rfl, rfl, rfl, rfl⟩, rfl, rfl, g6, tg6, wg6, sg6⟩, -, hq7, rfl, tp⟩, rfl, rfl, rfl, g1, g2, g3, g4, g5, g6', g7, g8, g9, tg8, wg8, sg8⟩, -, hq9, rfl, tp9⟩, rfl, rfl, rfl, j1, j2, j3, j4, j5, j6, j7, j8, j9, tg10, wg10, sg10⟩, rfl, -⟩
    have a1 := xadd_len (C := C9) (x := (nI 25, z3.toInt64 ||| (z5.toInt64 <<< ((nI 16).toInt64 &&& 63))))
    have a2 := xpad_len (P := P') (w := nI 44)
    have a3 := xpad_len (P := P9) (w := nI 44)
    have b1 := xadd_ge (C := C9) (x := (nI 25, z3.toInt64 ||| (z5.toInt64 <<< ((nI 16).toInt64 &&& 63))))
    have b2 := xpad_ge (P := P') (w := nI 44)
    have b3 := xpad_ge (P := P9) (w := nI 44)
    have tall : ∀ i, i < m6' → tb m5 3648 i = tb hm1 3648 i := fun i hi => by rw [tg10 i (by omega), tp9 i (by omega), tg8 i (by omega), tp i (by omega), tg6 i hi]
    refine ⟨⟨by omega, by omega, by omega, by omega, by omega, by omega, by omega, by omega, by omega⟩, tall, ?_, fun ez => ?_⟩
    · rw [mgO_none]
      exact mgO_bd (mgO_bd wg6 wg8 (by omega) (by omega)) wg10 (by omega) (by omega)
    · obtain ⟨w1, w3⟩ := mgO_eq_none ez
      obtain ⟨w0, w2⟩ := mgO_eq_none w1
      obtain ⟨w00, w01⟩ := mgO_eq_none w0
      obtain ⟨D1, E1, L1, G1, R1, u1, u2, u3, u4⟩ := sg6 w01
      obtain ⟨s0, s1, s2, s3⟩ := sg8 w2
      obtain ⟨s4, s5, s6, s7⟩ := sg10 w3
      refine ⟨D1 ++ [(nI 25, lN (a + 256 * b + 65536 * (a' + 256 * b')))], E1 ++ 44 :: clN a ++ 58 :: clN b ++ 44 :: clN a' ++ 58 :: clN b', L1 ++ rgL a b ++ rgL a' b', G1, ?_, ?_, ?_, u4, ?_⟩
      · rw [xadd_eq (by omega), u1, g7, j7, nI_l (by omega), nI_l (by omega), nI_l (by omega), or16 (by omega)]; simp
      · rw [s6, xpad_eq (by omega) (by decide), s2, xpad_eq (by omega) (by decide), u2]; simp
      · rw [s7, s3, u3]; simp
      · intro T' M' r' hr1 hr2 hT hr3
        refine ⟨Rp_mk ?_, NC_end (NC_end (NC_T R1.2 (fun i hi => by rw [hT i (by omega), tg10 i (by omega), tp9 i (by omega), tg8 i (by omega), tp i (by omega)])) ((hT _ (by omega)).trans ((tg10 _ (by omega)).trans ((tp9 _ (by omega)).trans g9))) (by decide)) ((hT _ (by omega)).trans j9) (by decide), Or.inl (by decide)⟩
        refine ⟨hr2, Or.inr (Or.inr (Or.inr (Or.inr (Or.inr (Or.inr (Or.inr (Or.inr (Or.inr (Or.inr (Or.inl ⟨r6', m8, m8 + 1, a, b, a', b', D1, E1, L1, G1, decide_eq_false (by omega), knO_X KX s0, by omega, by omega, by omega, by rw [hr3, g8, j8], ⟨by omega, by rw [hT _ (by omega), tg10 _ (by omega), tp9 _ (by omega)]; exact g9, g5, g6', s1⟩, ⟨by omega, by rw [hT _ (by omega)]; exact j9, j5, j6, s5⟩, ?_, ?_, ?_, rfl, rfl⟩))))))))))⟩
        · exact Rp_mono (M := m8) (by omega) (fun i hi => by rw [hT i (by omega), tg10 i (by omega), tp9 i (by omega), tg8 i (by omega), tp i (by omega)]) (by omega) R1.1
        · simp
        · simp
end WRD4

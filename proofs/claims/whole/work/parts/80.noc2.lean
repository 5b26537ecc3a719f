/-! BOTH PARSERS: a name, a word, or a call, whole -/
section NO2
variable {so s vis on na nc nf : Nat} {oX oM : Int64} {agX agM cnX cnM fnX fnM : Nat → Int64} {fnA : Nat → Nat} {t : Nat → Nat} {n : Nat} {D f : Nat} {d e : Nat}
variable {hx1 hm1 : am_H} {o : Nat} {ltx ltm : Option (Nat × Nat)} {v1 v2 v3 v4 v5 v6 v7 : Option Value}
variable {hx hm : am_H} {q q2 k m : Nat} {C C2 : List (Int32 × Int64)} {P P2 : List Int32} {N : List Nat} {F : Int32}
/-- a word -/
theorem J_nocW (HO : FE so on na nf oM fnM fnA) (Lv : JR t n so s vis on na nc nf oX oM agX agM cnX cnM fnX fnM fnA (lxL 0) lm3 77 211 (e + 10) f) (hf : 11 ≤ f + 1 + o) (ho : o ≤ 10) (hK : lx_K t n q = 258) (hw : lx_wd t n q < 12) (hC : C.length ≤ 3 * k) (hP : P.length ≤ q + 2 * k) (hmk : m ≤ k) (hn : n ≤ 240) (Gv : am_Gv hx) (KX : cfX hx so s vis on na nc nf oX agX cnX fnX fnA) (KM : cfM hm so s vis on na nc nf oM agM cnM fnM fnA) (KR : cfR so na nc nf oX oM agX agM cnX cnM fnX fnM fnA) (Z : SX t n o ltx ltm hx hm m (phN t n hm q C P N F k m) hx1 hm1) : ∃ hx' hm' mr, (∀ Q, am_J (e + 13) 89 38 [some (.ref 301), v1, none, some (.int (nI q)), some (.int (nI (lx_wd t n q)))] [] hx1 Q ↔ Q none hx') ∧ (∀ Q, am_J (e + 11) 221 12 [some (.ref 349), some (.int (nI (lx_wd t n q))), none, none, none, none, none, none] [] hm1 Q ↔ Q (some (.int mr)) hm') ∧ JP t n so on na vis oM agM cnM fnM hx hm hx' hm' q C P N F k o m ltx ltm mr := by
  obtain ⟨S, T⟩ := SX_S Z
  obtain ⟨a1, a2, a3, a4, a5⟩ := lx_name hK
  have A : ∀ i, i < nf → fnA i ≤ 3 := fun i hi => (KR.2.2.1 i hi).2.2
  obtain ⟨F1, F2, ⟨y, B, BB⟩ | ⟨q1, C', P', N', F', k', m', W, lnx, lpx, lnm, lpm, X, LX, Y, LM, hk, hmk', hm0, ⟨hE, rfl, rfl, rfl, rfl, rfl, rfl, rfl⟩⟩⟩ := Z
  · have tk := bx_tok B
    obtain ⟨h1, r1, B1, G1⟩ := bx_pass (d := e + 9) B (c := 40) (by decide)
    have S1 := bx_S B1
    obtain ⟨h2, r2, B2, G2⟩ := bx_callWord (d := e + 5) B1 (cfX_XF (XF_trans F1 G1) KX) KR.2.2.2 A hw
    have S2 := bx_S B2
    obtain ⟨h3, r3, B3, G3⟩ := bx_tail (d := e + 9) (v1 := v1) (v2 := none) (v3 := some (.int (nI q))) (v4 := some (.int (nI (lx_wd t n q)))) B2
    have s0 := fun Q => bm_sign (d := e + 10) (Q := Q) BB (v := 40) (by decide)
    obtain ⟨m1, p1, BB1, H1⟩ := bm_need (d := e + 9) BB false
    rw [bI_f] at p1
    obtain ⟨T1, f1, f10, f1h, f1e⟩ := bm_S BB1
    refine ⟨h3, m1, nI 0, fun Q => ?_, fun Q => ?_, XF_trans F1 (XF_trans G1 (XF_trans G2 G3)), MF_trans F2 H1 (Nat.le_refl _), Or.inl ⟨y, B3, BB1⟩⟩
    · simp (disch := first | with_reducible assumption | omega | exact Or.inl rfl | exact Or.inr rfl | exact bI_01 | exact c_cat | exact vt_ref | exact vt_null | rfl | with_reducible repeat (first | assumption | omega | apply S_I | apply S_L | apply S_D | apply ob_I | apply ob_L | apply ob_D | apply ob_R | apply ax_I | apply ax_L | apply ax_D | apply ax_R | apply o303 | apply o307 | apply o302 | apply o301 | apply ax304 | apply ax305 | apply ax306 | apply ax308 | apply ax309 | apply ax310 | apply lt_S | apply ar305 | apply ar308 | apply ar309)) only [g89_38, g89_40, g89_41, g89_44, g89_45, g89_48, g89_51, g89_53, g89_56, g89_57, g89_58, g89_59, g89_62, g89_63, g89_64, g89_67, g89_70, g89_72, g89_75, g89_76, g89_79, g89_80, g89_82, g89_85, g89_87, g89_88, g89_91, g89_92, g89_93, g89_94, g89_97, g89_100, g89_101, g89_103, Option.toList, List.nil_append, List.cons_append, va_rf, nI_ltI, nI_leI, nI_eq, nI_add, nI_sub, nI_lt0, nI_e0, nI_m1, m1_nI, Nat.reduceEqDiff, Nat.reduceLT, Nat.reduceLeDiff, Nat.reduceAdd, Nat.reduceSub, Nat.reduceMul, ↓reduceIte, eq_self, tk, r1 _, r2 _, r3 _]
    · simp (disch := first | with_reducible assumption | omega | exact Or.inl rfl | exact Or.inr rfl | exact bI_01 | exact c_cat | exact vt_ref | exact vt_null | rfl | with_reducible repeat (first | assumption | omega | apply S_I | apply S_L | apply S_D | apply ob_I | apply ob_L | apply ob_D | apply ob_R | apply ax_I | apply ax_L | apply ax_D | apply ax_R | apply o303 | apply o307 | apply o302 | apply o301 | apply ax304 | apply ax305 | apply ax306 | apply ax308 | apply ax309 | apply ax310 | apply lt_S | apply ar305 | apply ar308 | apply ar309)) only [g221_12, g221_13, g221_14, g221_16, g221_19, g221_22, g221_23, g221_26, g221_29, g221_30, Option.toList, List.nil_append, List.cons_append, va_rf, nI_ltI, nI_leI, nI_eq, nI_add, nI_sub, nI_lt0, nI_e0, nI_m1, m1_nI, Nat.reduceEqDiff, Nat.reduceLT, Nat.reduceLeDiff, Nat.reduceAdd, Nat.reduceSub, Nat.reduceMul, ↓reduceIte, eq_self, s0 _, p1 _, f1e, f10]
  · have tk := x_tok X
    have hk3 := mdK_lt X
    have s0 := fun Q => m_sign (d := e + 10) (Q := Q) Y (v := 40) (by decide)
    obtain ⟨⟨mm1, mm2, mm3, mm4⟩, mk, mq, f22, f4⟩ := Y.2.2.2.1
    by_cases c : lx_K t n q1 = 40
    · rw [show decide (mdK t n (.inl q1) = mcode 40) = true from decide_eq_true c, bI_t] at s0
      rw [show mdK t n (.inl q1) = 40 from c] at tk
      have nT := fun Q => m_needT (d := e + 10) (Q := Q) T
      rw [bI_t] at nT
      obtain ⟨ha, hb, ma, mb, ra, rb, pa, pb, Sa, Ta, Gb, Hb, Zb⟩ := st_open (e := e) X Y ho c
      rcases Zb with ⟨y, B, BB⟩ | ⟨co, q2, hq2, X2, Y2⟩
      · have Sb := bx_S B
        obtain ⟨Tb, -⟩ := bm_S BB
        obtain ⟨h2, r2, B2, G2⟩ := bx_callWord (d := e + 5) B (cfX_XF (XF_trans F1 Gb) KX) KR.2.2.2 A hw
        have S2 := bx_S B2
        obtain ⟨h3, r3, B3, G3⟩ := bx_tail (d := e + 9) (v1 := v1) (v2 := none) (v3 := some (.int (nI q))) (v4 := some (.int (nI (lx_wd t n q)))) B2
        obtain ⟨m3, w3, p3, BB3, H3⟩ := bm_call (d := e + 4) (v2 := none) (v3 := none) (v4 := none) (v5 := none) (v6 := none) BB hw
        refine ⟨h3, m3, w3, fun Q => ?_, fun Q => ?_, XF_trans F1 (XF_trans Gb (XF_trans G2 G3)), MF_trans F2 (MF_trans Hb H3 (Nat.le_refl _)) (Nat.le_refl _), Or.inl ⟨y, B3, BB3⟩⟩
        · simp (disch := first | with_reducible assumption | omega | exact Or.inl rfl | exact Or.inr rfl | exact bI_01 | exact c_cat | exact vt_ref | exact vt_null | rfl | with_reducible repeat (first | assumption | omega | apply S_I | apply S_L | apply S_D | apply ob_I | apply ob_L | apply ob_D | apply ob_R | apply ax_I | apply ax_L | apply ax_D | apply ax_R | apply o303 | apply o307 | apply o302 | apply o301 | apply ax304 | apply ax305 | apply ax306 | apply ax308 | apply ax309 | apply ax310 | apply lt_S | apply ar305 | apply ar308 | apply ar309)) only [g89_38, g89_40, g89_41, g89_44, g89_45, g89_48, g89_51, g89_53, g89_56, g89_57, g89_58, g89_59, g89_62, g89_63, g89_64, g89_67, g89_70, g89_72, g89_75, g89_76, g89_79, g89_80, g89_82, g89_85, g89_87, g89_88, g89_91, g89_92, g89_93, g89_94, g89_97, g89_100, g89_101, g89_103, Option.toList, List.nil_append, List.cons_append, va_rf, nI_ltI, nI_leI, nI_eq, nI_add, nI_sub, nI_lt0, nI_e0, nI_m1, m1_nI, Nat.reduceEqDiff, Nat.reduceLT, Nat.reduceLeDiff, Nat.reduceAdd, Nat.reduceSub, Nat.reduceMul, ↓reduceIte, eq_self, tk, ra _, rb _, r2 _, r3 _]
        · simp (disch := first | with_reducible assumption | omega | exact Or.inl rfl | exact Or.inr rfl | exact bI_01 | exact c_cat | exact vt_ref | exact vt_null | rfl | with_reducible repeat (first | assumption | omega | apply S_I | apply S_L | apply S_D | apply ob_I | apply ob_L | apply ob_D | apply ob_R | apply ax_I | apply ax_L | apply ax_D | apply ax_R | apply o303 | apply o307 | apply o302 | apply o301 | apply ax304 | apply ax305 | apply ax306 | apply ax308 | apply ax309 | apply ax310 | apply lt_S | apply ar305 | apply ar308 | apply ar309)) only [g221_12, g221_13, g221_14, g221_16, g221_19, g221_22, g221_23, g221_26, g221_29, g221_30, g221_31, g221_32, g221_35, g221_36, Option.toList, List.nil_append, List.cons_append, va_rf, nI_ltI, nI_leI, nI_eq, nI_add, nI_sub, nI_lt0, nI_e0, nI_m1, m1_nI, Nat.reduceEqDiff, Nat.reduceLT, Nat.reduceLeDiff, Nat.reduceAdd, Nat.reduceSub, Nat.reduceMul, ↓reduceIte, eq_self, s0 _, nT _, f22, pa _, pb _, p3 _]
      · have Sb := X2.1
        have Tb := Y2.1
        have hq2n : q2 ≤ n := X2.2.2.1.2.2.1
        have F1b := XF_trans F1 Gb
        have F2b := MF_trans F2 Hb (Nat.le_refl _)
        have Gvb : am_Gv hb := Gv_fr F1b.1 (by unfold rX; omega) (by unfold rX; omega) (by unfold rX; omega) Gv
        have eP : xpad (P ++ (tx t q (lx_E t n q - q)).map nI) (nI 40) = P ++ (wdN (lx_wd t n q) ++ [40]).map nI := by
          rw [xpad_eq (by simp [tx_len]; omega) (by decide), wd_text hK hw]; simp
        rw [eP] at X2
        have el : (wdN (lx_wd t n q)).length = lx_E t n q - q := by rw [← wd_text hK hw, tx_len]
        have Z0 : SX t n (o + 1) ltx ltm hb mb m' (ph0 mb q2 (C ++ [ST]) (P ++ (wdN (lx_wd t n q) ++ [40]).map nI) N' F' (k + 1) m') hb mb := ⟨XF_refl, MF_refl, Or.inr ⟨q2, _, _, N', F', k + 1, m', none, lnx, lpx, lnm, lpm, X2, LX, Y2, LM, hk, hmk', Nat.le_refl _, rfl, rfl, rfl, rfl, rfl, rfl, rfl, rfl, rfl⟩⟩
        obtain ⟨h3, m3, r3, Zw⟩ := J_word (v2 := none) (v3 := none) (v4 := none) (v5 := none) (v6 := none) (by omega) HO Lv (by omega) (by omega) hn Gvb (cfX_XF F1b KX) (cfM_MF F2b KM) KR (by simp; omega) (by simp [el]; omega) Z0 hw
        rcases Zw with ⟨w3, y, p3, G3, H3, B, BB⟩ | ⟨a, b, c', fl, p3, Z3⟩
        · have S3 := bx_S B
          obtain ⟨h4, r4, B4, G4⟩ := bx_tail (d := e + 9) (v1 := v1) (v2 := none) (v3 := some (.int (nI q))) (v4 := some (.int (nI (lx_wd t n q)))) B
          refine ⟨h4, m3, w3, fun Q => ?_, fun Q => ?_, XF_trans F1b (XF_trans G3 G4), MF_trans F2b H3 (Nat.le_refl _), Or.inl ⟨y, B4, BB⟩⟩
          · simp (disch := first | with_reducible assumption | omega | exact Or.inl rfl | exact Or.inr rfl | exact bI_01 | exact c_cat | exact vt_ref | exact vt_null | rfl | with_reducible repeat (first | assumption | omega | apply S_I | apply S_L | apply S_D | apply ob_I | apply ob_L | apply ob_D | apply ob_R | apply ax_I | apply ax_L | apply ax_D | apply ax_R | apply o303 | apply o307 | apply o302 | apply o301 | apply ax304 | apply ax305 | apply ax306 | apply ax308 | apply ax309 | apply ax310 | apply lt_S | apply ar305 | apply ar308 | apply ar309)) only [g89_38, g89_40, g89_41, g89_44, g89_45, g89_48, g89_51, g89_53, g89_56, g89_57, g89_58, g89_59, g89_62, g89_63, g89_64, g89_67, g89_70, g89_72, g89_75, g89_76, g89_79, g89_80, g89_82, g89_85, g89_87, g89_88, g89_91, g89_92, g89_93, g89_94, g89_97, g89_100, g89_101, g89_103, Option.toList, List.nil_append, List.cons_append, va_rf, nI_ltI, nI_leI, nI_eq, nI_add, nI_sub, nI_lt0, nI_e0, nI_m1, m1_nI, Nat.reduceEqDiff, Nat.reduceLT, Nat.reduceLeDiff, Nat.reduceAdd, Nat.reduceSub, Nat.reduceMul, ↓reduceIte, eq_self, tk, ra _, rb _, r3 _, r4 _]
          · simp (disch := first | with_reducible assumption | omega | exact Or.inl rfl | exact Or.inr rfl | exact bI_01 | exact c_cat | exact vt_ref | exact vt_null | rfl | with_reducible repeat (first | assumption | omega | apply S_I | apply S_L | apply S_D | apply ob_I | apply ob_L | apply ob_D | apply ob_R | apply ax_I | apply ax_L | apply ax_D | apply ax_R | apply o303 | apply o307 | apply o302 | apply o301 | apply ax304 | apply ax305 | apply ax306 | apply ax308 | apply ax309 | apply ax310 | apply lt_S | apply ar305 | apply ar308 | apply ar309)) only [g221_12, g221_13, g221_14, g221_16, g221_19, g221_22, g221_23, g221_26, g221_29, g221_30, g221_31, g221_32, g221_35, g221_36, Option.toList, List.nil_append, List.cons_append, va_rf, nI_ltI, nI_leI, nI_eq, nI_add, nI_sub, nI_lt0, nI_e0, nI_m1, m1_nI, Nat.reduceEqDiff, Nat.reduceLT, Nat.reduceLeDiff, Nat.reduceAdd, Nat.reduceSub, Nat.reduceMul, ↓reduceIte, eq_self, s0 _, nT _, f22, pa _, pb _, p3 _]
        · have S3 := (SX_S Z3).1
          obtain ⟨h4, m4, mr, r4, p4, JJ⟩ := J_wtail (D := e + 10) (v1 := v1) (v2 := none) (v3 := some (.int (nI q))) (v4 := some (.int (nI (lx_wd t n q)))) (by omega) hw co (by omega) hC hP hmk hn rfl rfl (by omega) F1b F2b Z3
          refine ⟨h4, m4, mr, fun Q => ?_, fun Q => ?_, JJ⟩
          · simp (disch := first | with_reducible assumption | omega | exact Or.inl rfl | exact Or.inr rfl | exact bI_01 | exact c_cat | exact vt_ref | exact vt_null | rfl | with_reducible repeat (first | assumption | omega | apply S_I | apply S_L | apply S_D | apply ob_I | apply ob_L | apply ob_D | apply ob_R | apply ax_I | apply ax_L | apply ax_D | apply ax_R | apply o303 | apply o307 | apply o302 | apply o301 | apply ax304 | apply ax305 | apply ax306 | apply ax308 | apply ax309 | apply ax310 | apply lt_S | apply ar305 | apply ar308 | apply ar309)) only [g89_38, g89_40, g89_41, g89_44, g89_45, g89_48, g89_51, g89_53, g89_56, g89_57, g89_58, g89_59, g89_62, g89_63, g89_64, g89_67, g89_70, g89_72, g89_75, g89_76, g89_79, g89_80, g89_82, g89_85, g89_87, g89_88, g89_91, g89_92, g89_93, g89_94, g89_97, g89_100, g89_101, g89_103, Option.toList, List.nil_append, List.cons_append, va_rf, nI_ltI, nI_leI, nI_eq, nI_add, nI_sub, nI_lt0, nI_e0, nI_m1, m1_nI, Nat.reduceEqDiff, Nat.reduceLT, Nat.reduceLeDiff, Nat.reduceAdd, Nat.reduceSub, Nat.reduceMul, ↓reduceIte, eq_self, tk, ra _, rb _, r3 _, r4 _]
          · simp (disch := first | with_reducible assumption | omega | exact Or.inl rfl | exact Or.inr rfl | exact bI_01 | exact c_cat | exact vt_ref | exact vt_null | rfl | with_reducible repeat (first | assumption | omega | apply S_I | apply S_L | apply S_D | apply ob_I | apply ob_L | apply ob_D | apply ob_R | apply ax_I | apply ax_L | apply ax_D | apply ax_R | apply o303 | apply o307 | apply o302 | apply o301 | apply ax304 | apply ax305 | apply ax306 | apply ax308 | apply ax309 | apply ax310 | apply lt_S | apply ar305 | apply ar308 | apply ar309)) only [g221_12, g221_13, g221_14, g221_16, g221_19, g221_22, g221_23, g221_26, g221_29, g221_30, g221_31, g221_32, g221_35, g221_36, Option.toList, List.nil_append, List.cons_append, va_rf, nI_ltI, nI_leI, nI_eq, nI_add, nI_sub, nI_lt0, nI_e0, nI_m1, m1_nI, Nat.reduceEqDiff, Nat.reduceLT, Nat.reduceLeDiff, Nat.reduceAdd, Nat.reduceSub, Nat.reduceMul, ↓reduceIte, eq_self, s0 _, nT _, f22, pa _, pb _, p3 _, p4 _]
    · rw [show decide (mdK t n (.inl q1) = mcode 40) = false from decide_eq_false c, bI_f] at s0
      have tk' : am_I hx1 302 2 = nI (lx_K t n q1) := tk
      have hk4 : lx_K t n q1 ≤ 263 := hk3
      obtain ⟨h1, r1, X1, G1⟩ := x_pass (d := e + 9) X (c := 40) (by decide)
      rw [show mpass t n (.inl q1) 40 = .inr (2, q1) from if_neg (show ¬ mdK t n (.inl q1) = 40 from c)] at X1
      have B1 := BX_of X1
      have S1 := bx_S B1
      obtain ⟨h2, r2, B2, G2⟩ := bx_callWord (d := e + 5) B1 (cfX_XF (XF_trans F1 G1) KX) KR.2.2.2 A hw
      have S2 := bx_S B2
      obtain ⟨h3, r3, B3, G3⟩ := bx_tail (d := e + 9) (v1 := v1) (v2 := none) (v3 := some (.int (nI q))) (v4 := some (.int (nI (lx_wd t n q)))) B2
      obtain ⟨m1, p1, Y1, H1⟩ := m_needF (d := e + 9) Y
      rw [bI_f] at p1
      have BB1 := BM_of Y1 (Nat.le_refl m')
      obtain ⟨T1, f1, f10, f1h, f1e⟩ := bm_S BB1
      refine ⟨h3, m1, nI 0, fun Q => ?_, fun Q => ?_, XF_trans F1 (XF_trans G1 (XF_trans G2 G3)), MF_trans F2 H1 (Nat.le_refl _), Or.inl ⟨(2, q1), B3, BB1⟩⟩
      · simp (disch := first | with_reducible assumption | omega | exact Or.inl rfl | exact Or.inr rfl | exact bI_01 | exact c_cat | exact vt_ref | exact vt_null | rfl | with_reducible repeat (first | assumption | omega | apply S_I | apply S_L | apply S_D | apply ob_I | apply ob_L | apply ob_D | apply ob_R | apply ax_I | apply ax_L | apply ax_D | apply ax_R | apply o303 | apply o307 | apply o302 | apply o301 | apply ax304 | apply ax305 | apply ax306 | apply ax308 | apply ax309 | apply ax310 | apply lt_S | apply ar305 | apply ar308 | apply ar309)) only [g89_38, g89_40, g89_41, g89_44, g89_45, g89_48, g89_51, g89_53, g89_56, g89_57, g89_58, g89_59, g89_62, g89_63, g89_64, g89_67, g89_70, g89_72, g89_75, g89_76, g89_79, g89_80, g89_82, g89_85, g89_87, g89_88, g89_91, g89_92, g89_93, g89_94, g89_97, g89_100, g89_101, g89_103, Option.toList, List.nil_append, List.cons_append, va_rf, nI_ltI, nI_leI, nI_eq, nI_add, nI_sub, nI_lt0, nI_e0, nI_m1, m1_nI, Nat.reduceEqDiff, Nat.reduceLT, Nat.reduceLeDiff, Nat.reduceAdd, Nat.reduceSub, Nat.reduceMul, ↓reduceIte, eq_self, tk', c, r1 _, r2 _, r3 _]
      · simp (disch := first | with_reducible assumption | omega | exact Or.inl rfl | exact Or.inr rfl | exact bI_01 | exact c_cat | exact vt_ref | exact vt_null | rfl | with_reducible repeat (first | assumption | omega | apply S_I | apply S_L | apply S_D | apply ob_I | apply ob_L | apply ob_D | apply ob_R | apply ax_I | apply ax_L | apply ax_D | apply ax_R | apply o303 | apply o307 | apply o302 | apply o301 | apply ax304 | apply ax305 | apply ax306 | apply ax308 | apply ax309 | apply ax310 | apply lt_S | apply ar305 | apply ar308 | apply ar309)) only [g221_12, g221_13, g221_14, g221_16, g221_19, g221_22, g221_23, g221_26, g221_29, g221_30, Option.toList, List.nil_append, List.cons_append, va_rf, nI_ltI, nI_leI, nI_eq, nI_add, nI_sub, nI_lt0, nI_e0, nI_m1, m1_nI, Nat.reduceEqDiff, Nat.reduceLT, Nat.reduceLeDiff, Nat.reduceAdd, Nat.reduceSub, Nat.reduceMul, ↓reduceIte, eq_self, s0 _, p1 _, f1e, f10]
end NO2

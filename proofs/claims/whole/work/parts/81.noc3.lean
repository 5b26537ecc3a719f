/-! BOTH PARSERS: a name, or a call of a function, whole -/
section NO3
variable {so s vis on na nc nf : Nat} {oX oM : Int64} {agX agM cnX cnM fnX fnM : Nat → Int64} {fnA : Nat → Nat} {t : Nat → Nat} {n : Nat} {D f : Nat} {d e : Nat}
variable {hx1 hm1 : am_H} {o : Nat} {ltx ltm : Option (Nat × Nat)} {v1 v2 v3 v4 v5 v6 v7 : Option Value}
variable {hx hm : am_H} {q q2 k m : Nat} {C C2 : List (Int32 × Int64)} {P P2 : List Int32} {N : List Nat} {F : Int32}
theorem J_nocN (HO : FE so on na nf oM fnM fnA) (Lv : JR t n so s vis on na nc nf oX oM agX agM cnX cnM fnX fnM fnA (lxL 0) lm3 77 211 (e + 10) f) (hf : 11 ≤ f + 1 + o) (ho : o ≤ 10) (hK : lx_K t n q = 258) (hC : C.length ≤ 3 * k) (hP : P.length ≤ q + 2 * k) (hmk : m ≤ k) (hn : n ≤ 240) (Gv : am_Gv hx) (KX : cfX hx so s vis on na nc nf oX agX cnX fnX fnA) (KM : cfM hm so s vis on na nc nf oM agM cnM fnM fnA) (KR : cfR so na nc nf oX oM agX agM cnX cnM fnX fnM fnA) (Z : SX t n o ltx ltm hx hm m (phN t n hm q C P N F k m) hx1 hm1) : ∃ hx' hm' mr, (∀ Q, am_J (e + 13) 89 38 [some (.ref 301), some (.long (lN (lx_w 256 0 t q (lx_E t n q - q)))), none, some (.int (nI q)), some (.int (-1))] [] hx1 Q ↔ Q none hx') ∧ (∀ Q, am_J (e + 11) 219 22 [some (.ref 349), some (.long (lN (lx_w 32 96 t q (lx_E t n q - q)))), none, some (.int (nI q)), none, none, none, none, none, none] [] hm1 Q ↔ Q (some (.int mr)) hm') ∧ JP t n so on na vis oM agM cnM fnM hx hm hx' hm' q C P N F k o m ltx ltm mr := by
  obtain ⟨S, T⟩ := SX_S Z
  obtain ⟨a1, a2, a3, a4, a5⟩ := lx_name hK
  have A : ∀ i, i < nf → fnA i ≤ 3 := fun i hi => (KR.2.2.1 i hi).2.2
  have nm := lx_NM hK
  have en := cf_nmF (vis := vis) KR (by have := KX; exact this.2.2.2.2.1) nm
  obtain ⟨F1, F2, ⟨y, B, BB⟩ | ⟨q1, C', P', N', F', k', m', W, lnx, lpx, lnm, lpm, X, LX, Y, LM, hk, hmk', hm0, ⟨hE, rfl, rfl, rfl, rfl, rfl, rfl, rfl⟩⟩⟩ := Z
  · have tk := bx_tok B
    obtain ⟨h1, r1, B1, G1⟩ := bx_resName (d := e + 11) (x := lN (lx_w 256 0 t q (lx_E t n q - q))) (p := nI q) (v4 := none) B (cfX_XF F1 KX)
    have s0 := fun Q => bm_sign (d := e + 10) (Q := Q) BB (v := 40) (by decide)
    obtain ⟨w, wn⟩ := m_nmF (d := e + 10) (x := lN (lx_w 32 96 t q (lx_E t n q - q))) (v3 := some (.int (nI q))) (v4 := none) (v5 := none) (v6 := none) (v7 := none) (v8 := none) (v9 := none) T (cfM_MF F2 KM)
    have Wc : ∀ Q, am_J (e + 13) 89 38 [some (.ref 301), some (.long (lN (lx_w 256 0 t q (lx_E t n q - q)))), none, some (.int (nI q)), some (.int (-1))] [] hx1 Q ↔ Q none h1 := fun Q => by
      simp (disch := first | with_reducible assumption | omega | exact Or.inl rfl | exact Or.inr rfl | exact bI_01 | exact c_cat | exact vt_ref | exact vt_null | rfl | with_reducible repeat (first | assumption | omega | apply S_I | apply S_L | apply S_D | apply ob_I | apply ob_L | apply ob_D | apply ob_R | apply ax_I | apply ax_L | apply ax_D | apply ax_R | apply o303 | apply o307 | apply o302 | apply o301 | apply ax304 | apply ax305 | apply ax306 | apply ax308 | apply ax309 | apply ax310 | apply lt_S | apply ar305 | apply ar308 | apply ar309)) only [g89_38, g89_40, g89_41, g89_44, g89_45, g89_48, g89_51, g89_53, g89_56, g89_57, g89_58, g89_59, g89_62, Option.toList, List.nil_append, List.cons_append, va_rf, nI_ltI, nI_leI, nI_eq, nI_add, nI_sub, nI_lt0, nI_e0, nI_m1, m1_nI, Nat.reduceEqDiff, Nat.reduceLT, Nat.reduceLeDiff, Nat.reduceAdd, Nat.reduceSub, Nat.reduceMul, ↓reduceIte, eq_self, tk, r1 _]
    by_cases c : nmF so na vis agM cnM (lN (lx_w 32 96 t q (lx_E t n q - q))) = -1
    · obtain ⟨m5, r5, B5, G5⟩ := bm_wrong (d := e + 10) BB (f := nI 4) (p := nI q)
      have S5 := (bm_S B5).1
      obtain ⟨m6, w6, r6, a6, b6, B6, G6⟩ := bm_node (d := e + 10) (v5 := none) B5 (kd := nI 4) (x := -1) (y' := nI 0) (z := nI 0)
      refine ⟨h1, m6, nI w6, Wc, fun Q => ?_, XF_trans F1 G1, MF_trans F2 (MF_trans G5 G6 (Nat.le_refl _)) (Nat.le_refl _), Or.inl ⟨y, B1, B6⟩⟩
      simp (disch := first | with_reducible assumption | omega | exact Or.inl rfl | exact Or.inr rfl | exact bI_01 | exact c_cat | exact vt_ref | exact vt_null | rfl | with_reducible repeat (first | assumption | omega | apply S_I | apply S_L | apply S_D | apply ob_I | apply ob_L | apply ob_D | apply ob_R | apply ax_I | apply ax_L | apply ax_D | apply ax_R | apply o303 | apply o307 | apply o302 | apply o301 | apply ax304 | apply ax305 | apply ax306 | apply ax308 | apply ax309 | apply ax310 | apply lt_S | apply ar305 | apply ar308 | apply ar309)) only [g219_22, g219_23, g219_25, g219_28, g219_116, g219_118, g219_119, g219_122, g219_123, g219_124, g219_125, g219_128, g219_129, g219_130, g219_132, g219_133, g219_134, g219_137, Option.toList, List.nil_append, List.cons_append, va_rf, nI_ltI, nI_leI, nI_eq, nI_add, nI_sub, nI_lt0, nI_e0, nI_m1, m1_nI, Nat.reduceEqDiff, Nat.reduceLT, Nat.reduceLeDiff, Nat.reduceAdd, Nat.reduceSub, Nat.reduceMul, ↓reduceIte, eq_self, s0 _, wn _, c, r5 _, r6 _]
    · obtain ⟨m6, w6, r6, a6, b6, B6, G6⟩ := bm_node (d := e + 10) (v5 := none) BB (kd := nI 4) (x := nmF so na vis agM cnM (lN (lx_w 32 96 t q (lx_E t n q - q)))) (y' := nI 0) (z := nI 0)
      refine ⟨h1, m6, nI w6, Wc, fun Q => ?_, XF_trans F1 G1, MF_trans F2 G6 (Nat.le_refl _), Or.inl ⟨y, B1, B6⟩⟩
      simp (disch := first | with_reducible assumption | omega | exact Or.inl rfl | exact Or.inr rfl | exact bI_01 | exact c_cat | exact vt_ref | exact vt_null | rfl | with_reducible repeat (first | assumption | omega | apply S_I | apply S_L | apply S_D | apply ob_I | apply ob_L | apply ob_D | apply ob_R | apply ax_I | apply ax_L | apply ax_D | apply ax_R | apply o303 | apply o307 | apply o302 | apply o301 | apply ax304 | apply ax305 | apply ax306 | apply ax308 | apply ax309 | apply ax310 | apply lt_S | apply ar305 | apply ar308 | apply ar309)) only [g219_22, g219_23, g219_25, g219_28, g219_116, g219_118, g219_119, g219_122, g219_123, g219_124, g219_125, g219_128, g219_129, g219_130, g219_132, g219_133, g219_134, g219_137, Option.toList, List.nil_append, List.cons_append, va_rf, nI_ltI, nI_leI, nI_eq, nI_add, nI_sub, nI_lt0, nI_e0, nI_m1, m1_nI, Nat.reduceEqDiff, Nat.reduceLT, Nat.reduceLeDiff, Nat.reduceAdd, Nat.reduceSub, Nat.reduceMul, ↓reduceIte, eq_self, s0 _, wn _, c, r6 _]
  · have tk := x_tok X
    have hk3 := mdK_lt X
    have hq1n : q1 ≤ n := X.2.2.1.2.2.1
    have s0 := fun Q => m_sign (d := e + 10) (Q := Q) Y (v := 40) (by decide)
    obtain ⟨⟨mm1, mm2, mm3, mm4⟩, mk, mq, f22, f4⟩ := Y.2.2.2.1
    by_cases c : lx_K t n q1 = 40
    · rw [show decide (mdK t n (.inl q1) = mcode 40) = true from decide_eq_true c, bI_t] at s0
      rw [show mdK t n (.inl q1) = 40 from c] at tk
      obtain ⟨ha, hb, ma, mb, ra, rb, pa, pb, Sa, Ta, Gb, Hb, Zb⟩ := st_open (e := e) X Y ho c
      rcases Zb with ⟨y, B, BB⟩ | ⟨co, q2, hq2, X2, Y2⟩
      · have Sb := bx_S B
        obtain ⟨Tb, -⟩ := bm_S BB
        obtain ⟨h2, r2, B2, G2⟩ := bx_callFn (d := e + 6) (x := lN (lx_w 256 0 t q (lx_E t n q - q))) (p := nI q) B (cfX_XF (XF_trans F1 Gb) KX) KR.2.2.2 A
        have S2 := bx_S B2
        obtain ⟨h3, r3, B3, G3⟩ := bx_tail (d := e + 9) (v1 := some (.long (lN (lx_w 256 0 t q (lx_E t n q - q))))) (v2 := none) (v3 := some (.int (nI q))) (v4 := some (.int (-1))) B2
        obtain ⟨m3, w3, p3, BB3, H3⟩ := bm_named (d := e + 5) (x := lN (lx_w 32 96 t q (lx_E t n q - q))) (p := nI q) (v4 := none) (v5 := none) (v6 := none) (v7 := none) BB (cfM_MF (MF_trans F2 Hb (Nat.le_refl _)) KM) A
        refine ⟨h3, m3, w3, fun Q => ?_, fun Q => ?_, XF_trans F1 (XF_trans Gb (XF_trans G2 G3)), MF_trans F2 (MF_trans Hb H3 (Nat.le_refl _)) (Nat.le_refl _), Or.inl ⟨y, B3, BB3⟩⟩
        · simp (disch := first | with_reducible assumption | omega | exact Or.inl rfl | exact Or.inr rfl | exact bI_01 | exact c_cat | exact vt_ref | exact vt_null | rfl | with_reducible repeat (first | assumption | omega | apply S_I | apply S_L | apply S_D | apply ob_I | apply ob_L | apply ob_D | apply ob_R | apply ax_I | apply ax_L | apply ax_D | apply ax_R | apply o303 | apply o307 | apply o302 | apply o301 | apply ax304 | apply ax305 | apply ax306 | apply ax308 | apply ax309 | apply ax310 | apply lt_S | apply ar305 | apply ar308 | apply ar309)) only [g89_38, g89_40, g89_41, g89_44, g89_45, g89_48, g89_51, g89_53, g89_56, g89_57, g89_58, g89_59, g89_62, g89_63, g89_64, g89_67, g89_70, g89_72, g89_75, g89_76, g89_79, g89_80, g89_82, g89_85, g89_87, g89_88, g89_91, g89_92, g89_93, g89_94, g89_97, g89_100, g89_101, g89_103, Option.toList, List.nil_append, List.cons_append, va_rf, nI_ltI, nI_leI, nI_eq, nI_add, nI_sub, nI_lt0, nI_e0, nI_m1, m1_nI, Nat.reduceEqDiff, Nat.reduceLT, Nat.reduceLeDiff, Nat.reduceAdd, Nat.reduceSub, Nat.reduceMul, ↓reduceIte, eq_self, tk, ra _, rb _, r2 _, r3 _]
        · simp (disch := first | with_reducible assumption | omega | exact Or.inl rfl | exact Or.inr rfl | exact bI_01 | exact c_cat | exact vt_ref | exact vt_null | rfl | with_reducible repeat (first | assumption | omega | apply S_I | apply S_L | apply S_D | apply ob_I | apply ob_L | apply ob_D | apply ob_R | apply ax_I | apply ax_L | apply ax_D | apply ax_R | apply o303 | apply o307 | apply o302 | apply o301 | apply ax304 | apply ax305 | apply ax306 | apply ax308 | apply ax309 | apply ax310 | apply lt_S | apply ar305 | apply ar308 | apply ar309)) only [g219_22, g219_23, g219_25, g219_28, g219_138, g219_139, g219_142, g219_143, Option.toList, List.nil_append, List.cons_append, va_rf, nI_ltI, nI_leI, nI_eq, nI_add, nI_sub, nI_lt0, nI_e0, nI_m1, m1_nI, Nat.reduceEqDiff, Nat.reduceLT, Nat.reduceLeDiff, Nat.reduceAdd, Nat.reduceSub, Nat.reduceMul, ↓reduceIte, eq_self, s0 _, pa _, pb _, p3 _]
      · have Sb := X2.1
        have Tb := Y2.1
        have hq2n : q2 ≤ n := X2.2.2.1.2.2.1
        have F1b := XF_trans F1 Gb
        have F2b := MF_trans F2 Hb (Nat.le_refl _)
        have Gvb : am_Gv hb := Gv_fr F1b.1 (by unfold rX; omega) (by unfold rX; omega) (by unfold rX; omega) Gv
        have eP : xpad (P ++ (tx t q (lx_E t n q - q)).map nI) (nI 40) = P ++ (tx t q (lx_E t n q - q) ++ [40]).map nI := by
          rw [xpad_eq (by simp [tx_len]; omega) (by decide)]; simp
        rw [eP] at X2
        have Z0 : SX t n (o + 1) ltx ltm hb mb m' (ph0 mb q2 (C ++ [ST]) (P ++ (tx t q (lx_E t n q - q) ++ [40]).map nI) N' F' (k + 1) m') hb mb := ⟨XF_refl, MF_refl, Or.inr ⟨q2, _, _, N', F', k + 1, m', none, lnx, lpx, lnm, lpm, X2, LX, Y2, LM, hk, hmk', Nat.le_refl _, rfl, rfl, rfl, rfl, rfl, rfl, rfl, rfl, rfl⟩⟩
        obtain ⟨h3, h4, m4, mr, r3, S3, r4, p4, JJ⟩ := J_fcall (D := e + 10) (v1 := some (.long (lN (lx_w 256 0 t q (lx_E t n q - q))))) (v2 := none) (v3 := some (.int (nI q))) (v4 := some (.int (-1))) (v8 := none) (v5 := none) (v6 := none) (v7 := none) (by omega) HO Lv (by omega) co (by omega) hC hP hmk hn rfl hK rfl (by omega) Gvb (cfX_XF F1b KX) (cfM_MF F2b KM) KR F1b F2b Z0
        have r3' := am_runD r3 (show e + 10 + 1 ≤ e + 12 by omega)
        refine ⟨h4, m4, mr, fun Q => ?_, fun Q => ?_, JJ⟩
        · simp (disch := first | with_reducible assumption | omega | exact Or.inl rfl | exact Or.inr rfl | exact bI_01 | exact c_cat | exact vt_ref | exact vt_null | rfl | with_reducible repeat (first | assumption | omega | apply S_I | apply S_L | apply S_D | apply ob_I | apply ob_L | apply ob_D | apply ob_R | apply ax_I | apply ax_L | apply ax_D | apply ax_R | apply o303 | apply o307 | apply o302 | apply o301 | apply ax304 | apply ax305 | apply ax306 | apply ax308 | apply ax309 | apply ax310 | apply lt_S | apply ar305 | apply ar308 | apply ar309)) only [g89_38, g89_40, g89_41, g89_44, g89_45, g89_48, g89_51, g89_53, g89_56, g89_57, g89_58, g89_59, g89_62, g89_63, g89_64, g89_67, g89_70, g89_72, g89_75, g89_76, g89_79, g89_80, g89_82, g89_85, g89_87, g89_88, g89_91, g89_92, g89_93, g89_94, g89_97, g89_100, g89_101, g89_103, Option.toList, List.nil_append, List.cons_append, va_rf, nI_ltI, nI_leI, nI_eq, nI_add, nI_sub, nI_lt0, nI_e0, nI_m1, m1_nI, Nat.reduceEqDiff, Nat.reduceLT, Nat.reduceLeDiff, Nat.reduceAdd, Nat.reduceSub, Nat.reduceMul, ↓reduceIte, eq_self, tk, ra _, rb _, r3' _, r4 _]
        · simp (disch := first | with_reducible assumption | omega | exact Or.inl rfl | exact Or.inr rfl | exact bI_01 | exact c_cat | exact vt_ref | exact vt_null | rfl | with_reducible repeat (first | assumption | omega | apply S_I | apply S_L | apply S_D | apply ob_I | apply ob_L | apply ob_D | apply ob_R | apply ax_I | apply ax_L | apply ax_D | apply ax_R | apply o303 | apply o307 | apply o302 | apply o301 | apply ax304 | apply ax305 | apply ax306 | apply ax308 | apply ax309 | apply ax310 | apply lt_S | apply ar305 | apply ar308 | apply ar309)) only [g219_22, g219_23, g219_25, g219_28, g219_138, g219_139, g219_142, g219_143, Option.toList, List.nil_append, List.cons_append, va_rf, nI_ltI, nI_leI, nI_eq, nI_add, nI_sub, nI_lt0, nI_e0, nI_m1, m1_nI, Nat.reduceEqDiff, Nat.reduceLT, Nat.reduceLeDiff, Nat.reduceAdd, Nat.reduceSub, Nat.reduceMul, ↓reduceIte, eq_self, s0 _, pa _, pb _, p4 _]
    · rw [show decide (mdK t n (.inl q1) = mcode 40) = false from decide_eq_false c, bI_f] at s0
      have tk' : am_I hx1 302 2 = nI (lx_K t n q1) := tk
      have hk4 : lx_K t n q1 ≤ 263 := hk3
      obtain ⟨h1, r1, X1, G1⟩ := x_resName (d := e + 11) (x := lN (lx_w 256 0 t q (lx_E t n q - q))) (p := nI q) (v4 := none) X (cfX_XF F1 KX)
      rw [en] at X1
      obtain ⟨w, wn⟩ := m_nmF (d := e + 10) (x := lN (lx_w 32 96 t q (lx_E t n q - q))) (v3 := some (.int (nI q))) (v4 := none) (v5 := none) (v6 := none) (v7 := none) (v8 := none) (v9 := none) T (cfM_MF F2 KM)
      have Wc : ∀ Q, am_J (e + 13) 89 38 [some (.ref 301), some (.long (lN (lx_w 256 0 t q (lx_E t n q - q)))), none, some (.int (nI q)), some (.int (-1))] [] hx1 Q ↔ Q none h1 := fun Q => by
        simp (disch := first | with_reducible assumption | omega | exact Or.inl rfl | exact Or.inr rfl | exact bI_01 | exact c_cat | exact vt_ref | exact vt_null | rfl | with_reducible repeat (first | assumption | omega | apply S_I | apply S_L | apply S_D | apply ob_I | apply ob_L | apply ob_D | apply ob_R | apply ax_I | apply ax_L | apply ax_D | apply ax_R | apply o303 | apply o307 | apply o302 | apply o301 | apply ax304 | apply ax305 | apply ax306 | apply ax308 | apply ax309 | apply ax310 | apply lt_S | apply ar305 | apply ar308 | apply ar309)) only [g89_38, g89_40, g89_41, g89_44, g89_45, g89_48, g89_51, g89_53, g89_56, g89_57, g89_58, g89_59, g89_62, Option.toList, List.nil_append, List.cons_append, va_rf, nI_ltI, nI_leI, nI_eq, nI_add, nI_sub, nI_lt0, nI_e0, nI_m1, m1_nI, Nat.reduceEqDiff, Nat.reduceLT, Nat.reduceLeDiff, Nat.reduceAdd, Nat.reduceSub, Nat.reduceMul, ↓reduceIte, eq_self, tk', c, r1 _]
      have l3 := xadd_len (C := C ++ [ST]) (x := (nI (if so = 2 then 5 else 4), (nmF so na vis agM cnM (lN (lx_w 32 96 t q (lx_E t n q - q)))).toInt64))
      have l4 := xadd_ge (C := C ++ [ST]) (x := (nI (if so = 2 then 5 else 4), (nmF so na vis agM cnM (lN (lx_w 32 96 t q (lx_E t n q - q)))).toInt64))
      have eP : (P ++ (tx t q (lx_E t n q - q)).map nI).length = P.length + (lx_E t n q - q) := by simp [tx_len]
      have eC : (C ++ [ST]).length = C.length + 1 := by simp
      by_cases cn : nmF so na vis agM cnM (lN (lx_w 32 96 t q (lx_E t n q - q))) = -1
      · rw [if_pos cn, if_pos cn] at X1
        obtain ⟨m5, r5, Y5, G5⟩ := m_wrong (d := e + 10) Y (f := nI 4) (p := nI q)
        have S5 := Y5.1
        obtain ⟨m6, r6, Y6, G6, tb6⟩ := m_nodeG (d := e + 10) (v5 := none) Y5 (by omega) (kd := nI 4) (x := -1) (y := nI 0) (z := nI 0)
        refine ⟨h1, m6, nI m', Wc, fun Q => ?_, XF_trans F1 G1, MF_trans F2 (MF_trans G5 G6 (Nat.le_refl _)) (Nat.le_refl _), Or.inr ⟨q1, _, _, N', F', k + 1, m' + 1, some (4, q), m', _, _, _, _, ⟨by omega, by omega, by omega, by omega, by omega, by omega, by omega, by omega, by omega, by omega⟩, rfl, X1, LT_mg LX (by omega), Y6, LT_mg LM (by omega), (fun z ez => ?_), fun ez => ?_⟩⟩
        · simp (disch := first | with_reducible assumption | omega | exact Or.inl rfl | exact Or.inr rfl | exact bI_01 | exact c_cat | exact vt_ref | exact vt_null | rfl | with_reducible repeat (first | assumption | omega | apply S_I | apply S_L | apply S_D | apply ob_I | apply ob_L | apply ob_D | apply ob_R | apply ax_I | apply ax_L | apply ax_D | apply ax_R | apply o303 | apply o307 | apply o302 | apply o301 | apply ax304 | apply ax305 | apply ax306 | apply ax308 | apply ax309 | apply ax310 | apply lt_S | apply ar305 | apply ar308 | apply ar309)) only [g219_22, g219_23, g219_25, g219_28, g219_116, g219_118, g219_119, g219_122, g219_123, g219_124, g219_125, g219_128, g219_129, g219_130, g219_132, g219_133, g219_134, g219_137, Option.toList, List.nil_append, List.cons_append, va_rf, nI_ltI, nI_leI, nI_eq, nI_add, nI_sub, nI_lt0, nI_e0, nI_m1, m1_nI, Nat.reduceEqDiff, Nat.reduceLT, Nat.reduceLeDiff, Nat.reduceAdd, Nat.reduceSub, Nat.reduceMul, ↓reduceIte, eq_self, s0 _, wn _, cn, r5 _, r6 _]
        · cases ez; exact ⟨Nat.le_refl _, by show q < q1; omega⟩
        · cases ez
      · rw [if_neg cn, if_neg cn] at X1
        obtain ⟨g, hg, eg, pg⟩ := nmF_some KX.2.2.1 (Nat.le_trans KX.2.2.2.2.1 KX.2.2.2.1) cn
        rw [ltM_tok hK] at pg
        have hvis : knO so na vis % 1000 ≤ 5 := by
          have := KX
          obtain ⟨-, -, z3, z4, z5, -⟩ := this
          unfold knO
          split
          · omega
          · split <;> omega
        obtain ⟨m6, r6, Y6, G6, tb6⟩ := m_nodeG (d := e + 10) (v5 := none) Y (by omega) (kd := nI 4) (x := nmF so na vis agM cnM (lN (lx_w 32 96 t q (lx_E t n q - q)))) (y := nI 0) (z := nI 0)
        refine ⟨h1, m6, nI m', Wc, fun Q => ?_, XF_trans F1 G1, MF_trans F2 G6 (Nat.le_refl _), Or.inr ⟨q1, _, _, N', F', k + 1, m' + 1, none, m', _, _, _, _, ⟨by omega, by omega, by omega, by omega, by omega, by omega, by omega, by omega, by omega, by omega⟩, rfl, X1, LX, Y6, LM, (fun z ez => by cases ez), fun ez => ?_⟩⟩
        · simp (disch := first | with_reducible assumption | omega | exact Or.inl rfl | exact Or.inr rfl | exact bI_01 | exact c_cat | exact vt_ref | exact vt_null | rfl | with_reducible repeat (first | assumption | omega | apply S_I | apply S_L | apply S_D | apply ob_I | apply ob_L | apply ob_D | apply ob_R | apply ax_I | apply ax_L | apply ax_D | apply ax_R | apply o303 | apply o307 | apply o302 | apply o301 | apply ax304 | apply ax305 | apply ax306 | apply ax308 | apply ax309 | apply ax310 | apply lt_S | apply ar305 | apply ar308 | apply ar309)) only [g219_22, g219_23, g219_25, g219_28, g219_116, g219_118, g219_119, g219_122, g219_123, g219_124, g219_125, g219_128, g219_129, g219_130, g219_132, g219_133, g219_134, g219_137, Option.toList, List.nil_append, List.cons_append, va_rf, nI_ltI, nI_leI, nI_eq, nI_add, nI_sub, nI_lt0, nI_e0, nI_m1, m1_nI, Nat.reduceEqDiff, Nat.reduceLT, Nat.reduceLeDiff, Nat.reduceAdd, Nat.reduceSub, Nat.reduceMul, ↓reduceIte, eq_self, s0 _, wn _, cn, r6 _]
        · rw [eg] at tb6
          refine ⟨[ST, (nI (if so = 2 then 5 else 4), lN g)], tx t q (lx_E t n q - q), [], [], ?_, ?_, rfl, rfl, rfl⟩
          · refine ⟨Rp_mono (f := 1) (Nat.le_refl _) (fun _ _ => rfl) (by omega) (Rp_mk (f := 0) ?_), NC_kd tb6 (by decide)⟩
            refine ⟨by omega, Or.inr (Or.inr (Or.inr (Or.inl ⟨g, hg, tb6, ?_, pg.symm, rfl, rfl⟩)))⟩
            by_cases c2 : so = 2
            · rw [if_pos c2, decide_eq_true c2]; rfl
            · rw [if_neg c2, decide_eq_false c2]; rfl
          · rw [xadd_eq (by omega), eg, nI_l (by omega)]; simp
end NO3

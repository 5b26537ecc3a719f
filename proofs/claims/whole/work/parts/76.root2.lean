/-! BOTH PARSERS: root -/
section ROT
variable {so s vis on na nc nf : Nat} {oX oM : Int64} {agX agM cnX cnM fnX fnM : Nat → Int64} {fnA : Nat → Nat} {t : Nat → Nat} {n : Nat} {D f : Nat} {d : Nat}
variable {hx1 hm1 : am_H} {o m1 q1 k1 : Nat} {C1 : List (Int32 × Int64)} {P1 : List Int32} {N1 : List Nat} {F1 : Int32} {ltx ltm : Option (Nat × Nat)} {v2 v3 v4 v5 v6 : Option Value}
/-- behind the name that root begins with -/
def ph1 (t : Nat → Nat) (n : Nat) (hm1 : am_H) (q1 : Nat) (C1 : List (Int32 × Int64)) (P1 : List Int32) (N1 : List Nat) (F1 : Int32) (k1 m1 : Nat) : phT := fun hm q C P N F k m W => lx_E t n q1 ≤ q ∧ C = C1 ∧ P = xcop t n P1 q1 (lx_E t n q1 - q1) ∧ N = N1 ∧ F = F1 ∧ k = k1 ∧ m = m1 ∧ W = none ∧ ∀ i, i < m1 → tb hm 3648 i = tb hm1 3648 i
/-- the name, on both sides: bad, or good -/
theorem st_rootName {d : Nat} {lnx lpx lnm lpm : Int32} (Gv : am_Gv hx1) (KM : cfM hm1 so s vis on na nc nf oM agM cnM fnM fnA) (KR : cfR so na nc nf oX oM agX agM cnX cnM fnX fnM fnA) (hn : n ≤ 240) (hk : k1 ≤ 40) (hmk : m1 ≤ k1) (X : PX hx1 t n (.inl q1) C1 P1 N1 F1 (nI k1) (nI o) lnx lpx) (LX0 : LT lnx lpx ltx) (Y : MX hm1 t n (.inl q1) (nI k1) (nI o) m1 lnm lpm) (LM0 : LT lnm lpm ltm) :
    (∃ hx' hx'' hm', am_run (d + 10) 86 [some (.ref 301), some (.int (nI q1)), none] hx1 none hx' ∧ am_run (d + 10) 104 [some (.ref 301), none, none] hx' (some (.long (lN 0))) hx'' ∧ (∀ Q, am_J (d + 11) 221 39 [some (.ref 349), some (.int (nI 9)), v2, v3, v4, v5, v6, none] [] hm1 Q ↔ Q (some (.int (nI 0))) hm') ∧ XF hx1 hx'' ∧ MF hm1 hm' m1 ∧ am_S hx' ∧ BX hx'' t n (2, q1) ∧ BM hm' t n (2, q1) m1) ∨
    (lx_K t n q1 = 258 ∧ ∃ hx' hx'' hm', am_run (d + 10) 86 [some (.ref 301), some (.int (nI q1)), none] hx1 none hx' ∧ am_run (d + 10) 104 [some (.ref 301), none, none] hx' (some (.long (lN (lx_w 256 0 t q1 (lx_E t n q1 - q1))))) hx'' ∧ (∀ Q, am_J (d + 11) 221 39 [some (.ref 349), some (.int (nI 9)), v2, v3, v4, v5, v6, none] [] hm1 Q ↔ am_J (d + 11) 221 106 [some (.ref 349), some (.int (nI 9)), some (.int (nI 0)), some (.int (-1)), some (.int (-1)), some (.long (fnF so on na nf oM fnM fnA (lN (lx_w 32 96 t q1 (lx_E t n q1 - q1))) 1).toInt64), none, none] [] hm' Q) ∧ am_S hx' ∧ SX t n o ltx (mgO ltm (fnW (fnF so on na nf oM fnM fnA (lN (lx_w 32 96 t q1 (lx_E t n q1 - q1))) 1) q1)) hx1 hm1 m1 (ph1 t n hm1 q1 C1 P1 N1 F1 k1 m1) hx'' hm') := by
  have S := X.1
  have SM := Y.1
  have hq : q1 ≤ n := X.2.2.1.2.2.1
  obtain ⟨⟨l1, l2, l3, l4, l5⟩, lk, lq, f8, f9, cc, hcc, f7⟩ := X.2.2.1
  obtain ⟨⟨m1', m2', m3', m4'⟩, mk, mq, f22, f4⟩ := Y.2.2.2.1
  have hE : lx_E t n q1 ≤ n := lx_E_le lq lk
  obtain ⟨h1, r1, X1, G1⟩ := x_copy (d := d + 9) (e := lx_E t n q1) (a := q1) (by omega) (by omega) X l1
  have Gv1 : am_Gv h1 := Gv_fr (XF_303 G1).1 (by unfold rX; omega) (by unfold rX; omega) (by unfold rX; omega) Gv
  have nm := fun Q => m_isName (d := d + 4) (Q := Q) Y
  by_cases c : lx_K t n q1 = 258 ∧ lx_wd t n q1 = 12
  · rw [decide_eq_true c] at nm
    obtain ⟨a1, a2, a3, a4, a5⟩ := lx_name c.1
    refine Or.inr ⟨c.1, ?_⟩
    obtain ⟨h2, r2, X2, G2⟩ := x_plainGood (d := d + 7) X1 Gv1 c.1 c.2
    have nh := fun Q => m_nameHere (d := d + 10) (Q := Q) (v1 := none) (v2 := none) (v3 := none) Y (fun j h1 h2 => (isL_of (a5 j h1 h2)).1) (Nat.le_of_lt a2)
    have ff := fun Q => m_functionFor (d := d + 9) (x := lN (lx_w 32 96 t q1 (lx_E t n q1 - q1))) (Q := Q) (v4 := none) SM KM (fun i hi => (KR.2.2.1 i hi).2.2) (show 1 ≤ 3 by decide)
    have J : ∀ hm2 lnm2 lpm2, MX hm2 t n (.inl q1) (nI k1) (nI o) m1 lnm2 lpm2 → LT lnm2 lpm2 (mgO ltm (fnW (fnF so on na nf oM fnM fnA (lN (lx_w 32 96 t q1 (lx_E t n q1 - q1))) 1) q1)) → MF hm1 hm2 m1 → ∃ hm3, am_run (d + 10) 193 [some (.ref 349), none] hm2 none hm3 ∧ SX t n o ltx (mgO ltm (fnW (fnF so on na nf oM fnM fnA (lN (lx_w 32 96 t q1 (lx_E t n q1 - q1))) 1) q1)) hx1 hm1 m1 (ph1 t n hm1 q1 C1 P1 N1 F1 k1 m1) h2 hm3 := by
      intro hm2 lnm2 lpm2 Y2 LM2 G5
      obtain ⟨hm3, r3, Y3, G3⟩ := m_nx (d := d + 7) (v1 := none) Y2
      refine ⟨hm3, r3, XF_trans (XF_303 G1) G2, MF_trans G5 G3 (Nat.le_refl _), ?_⟩
      match hA : mdA t n (.inl q1) with
      | .inr y =>
        rw [hA] at X2 Y3
        exact Or.inl ⟨y, BX_of X2, BM_of Y3 (Nat.le_refl _)⟩
      | .inl q' =>
        rw [hA] at X2 Y3
        obtain ⟨g1, g2, g3⟩ := mdA_gt a1 hA
        exact Or.inr ⟨q', C1, _, N1, F1, k1, m1, none, lnx, lpx, lnm2, lpm2, X2, LX0, Y3, LM2, hk, hmk, Nat.le_refl _, g1, rfl, rfl, rfl, rfl, rfl, rfl, rfl, fun i hi => by rw [tb_same G3 hi, tb_same G5 hi]⟩
    by_cases cf : fnF so on na nf oM fnM fnA (lN (lx_w 32 96 t q1 (lx_E t n q1 - q1))) 1 = -1
    · obtain ⟨hm2, r4, Y4, G4⟩ := m_wrong (d := d + 10) Y (f := nI 4) (p := nI q1)
      have S4 := Y4.1
      obtain ⟨hm3, r5, Z⟩ := J hm2 _ _ Y4 (by
        rw [show fnW (fnF so on na nf oM fnM fnA (lN (lx_w 32 96 t q1 (lx_E t n q1 - q1))) 1) q1 = some (4, q1) from if_pos cf]
        exact LT_mg LM0 (by omega)) G4
      refine ⟨h1, h2, hm3, r1, r2, fun Q => ?_, X1.1, Z⟩
      simp (disch := first | with_reducible assumption | omega | exact Or.inl rfl | exact Or.inr rfl | exact bI_01 | exact c_cat | exact vt_ref | exact vt_null | rfl | with_reducible repeat (first | assumption | omega | apply S_I | apply S_L | apply S_D | apply ob_I | apply ob_L | apply ob_D | apply ob_R | apply ax_I | apply ax_L | apply ax_D | apply ax_R | apply o303 | apply o307 | apply o302 | apply o301 | apply ax304 | apply ax305 | apply ax306 | apply ax308 | apply ax309 | apply ax310 | apply lt_S | apply ar305 | apply ar308 | apply ar309)) only [g221_39, g221_40, g221_41, g221_42, g221_43, g221_44, g221_46, g221_47, g221_49, g221_50, g221_52, g221_55, g221_56, g221_57, g221_60, g221_63, g221_64, g221_67, g221_70, g221_71, g221_72, g221_73, g221_74, g221_77, g221_78, g221_81, g221_82, g221_84, g221_86, g221_89, g221_90, g221_93, g221_94, g221_95, g221_96, g221_99, g221_102, g221_103, Option.toList, List.nil_append, List.cons_append, va_rf, nI_ltI, nI_leI, nI_eq, nI_add, nI_sub, nI_lt0, nI_e0, nI_m1, m1_nI, Nat.reduceEqDiff, Nat.reduceLT, Nat.reduceLeDiff, Nat.reduceAdd, Nat.reduceSub, Nat.reduceMul, ↓reduceIte, eq_self, nm _, m_needT, f22, nh _, ff _, cf, m3', show lg_cmp (-1 : Int32).toInt64 (-1) = 0 by decide, r4 _, r5 _]
    · obtain ⟨hm3, r5, Z⟩ := J hm1 _ _ Y (by
        rw [show fnW (fnF so on na nf oM fnM fnA (lN (lx_w 32 96 t q1 (lx_E t n q1 - q1))) 1) q1 = none from if_neg cf]
        exact LM0) MF_refl
      refine ⟨h1, h2, hm3, r1, r2, fun Q => ?_, X1.1, Z⟩
      have cf' : ¬ (fnF so on na nf oM fnM fnA (lN (lx_w 32 96 t q1 (lx_E t n q1 - q1))) 1).toInt64 = -1 := fun e => cf (by simpa using congrArg Int64.toInt32 e)
      simp (disch := first | with_reducible assumption | omega | exact Or.inl rfl | exact Or.inr rfl | exact bI_01 | exact c_cat | exact vt_ref | exact vt_null | rfl | with_reducible repeat (first | assumption | omega | apply S_I | apply S_L | apply S_D | apply ob_I | apply ob_L | apply ob_D | apply ob_R | apply ax_I | apply ax_L | apply ax_D | apply ax_R | apply o303 | apply o307 | apply o302 | apply o301 | apply ax304 | apply ax305 | apply ax306 | apply ax308 | apply ax309 | apply ax310 | apply lt_S | apply ar305 | apply ar308 | apply ar309)) only [g221_39, g221_40, g221_41, g221_42, g221_43, g221_44, g221_46, g221_47, g221_49, g221_50, g221_52, g221_55, g221_56, g221_57, g221_60, g221_63, g221_64, g221_67, g221_70, g221_71, g221_72, g221_73, g221_74, g221_77, g221_78, g221_81, g221_82, g221_84, g221_86, g221_89, g221_90, g221_93, g221_94, g221_95, g221_96, g221_99, g221_102, g221_103, Option.toList, List.nil_append, List.cons_append, va_rf, nI_ltI, nI_leI, nI_eq, nI_add, nI_sub, nI_lt0, nI_e0, nI_m1, m1_nI, Nat.reduceEqDiff, Nat.reduceLT, Nat.reduceLeDiff, Nat.reduceAdd, Nat.reduceSub, Nat.reduceMul, ↓reduceIte, eq_self, nm _, m_needT, f22, nh _, ff _, lg_cmp0, cf', r5 _]
  · rw [decide_eq_false c] at nm
    refine Or.inl ?_
    obtain ⟨h2, r2, B2, G2⟩ := x_plainBad (d := d + 7) X1 Gv1 c
    obtain ⟨hm2, r4, Y4, G4⟩ := m_needF (d := d + 9) Y
    have B4 := BM_of Y4 (Nat.le_refl m1)
    obtain ⟨S4, f4', h40, h41, h42⟩ := bm_S B4
    refine ⟨h1, h2, hm2, r1, r2, fun Q => ?_, XF_trans (XF_303 G1) G2, G4, X1.1, B2, B4⟩
    simp (disch := first | with_reducible assumption | omega | exact Or.inl rfl | exact Or.inr rfl | exact bI_01 | exact c_cat | exact vt_ref | exact vt_null | rfl | with_reducible repeat (first | assumption | omega | apply S_I | apply S_L | apply S_D | apply ob_I | apply ob_L | apply ob_D | apply ob_R | apply ax_I | apply ax_L | apply ax_D | apply ax_R | apply o303 | apply o307 | apply o302 | apply o301 | apply ax304 | apply ax305 | apply ax306 | apply ax308 | apply ax309 | apply ax310 | apply lt_S | apply ar305 | apply ar308 | apply ar309)) only [g221_39, g221_40, g221_41, g221_42, g221_43, g221_44, g221_46, g221_47, g221_49, g221_50, g221_52, g221_55, g221_56, g221_57, g221_60, g221_63, g221_64, g221_67, g221_70, g221_71, Option.toList, List.nil_append, List.cons_append, va_rf, nI_ltI, nI_leI, nI_eq, nI_add, nI_sub, nI_lt0, nI_e0, nI_m1, m1_nI, Nat.reduceEqDiff, Nat.reduceLT, Nat.reduceLeDiff, Nat.reduceAdd, Nat.reduceSub, Nat.reduceMul, ↓reduceIte, eq_self, nm _, r4 _, h42, h40]
theorem J_root (hD : 10 ≤ D) (HO : FE so on na nf oM fnM fnA) (Lv : JR t n so s vis on na nc nf oX oM agX agM cnX cnM fnX fnM fnA (lxL 0) lm3 77 211 D f) (hf : 11 ≤ f + o) (ho : o ≤ 10) (hn : n ≤ 240) (Gv : am_Gv hx1) (KX : cfX hx1 so s vis on na nc nf oX agX cnX fnX fnA) (KM : cfM hm1 so s vis on na nc nf oM agM cnM fnM fnA) (KR : cfR so na nc nf oX oM agX agM cnX cnM fnX fnM fnA) (hC : C1.length + 2 ≤ 3 * k1) (hP : P1.length ≤ q1 + 2 * k1) (Z0 : SX t n o ltx ltm hx1 hm1 m1 (ph0 hm1 q1 C1 P1 N1 F1 k1 m1) hx1 hm1) :
    (∃ hx' hm' r, am_run (D + 2) 96 [some (.ref 301), some (.int (nI 9)), none, none] hx1 none hx' ∧ (∀ Q, am_J (D + 1) 221 39 [some (.ref 349), some (.int (nI 9)), v2, v3, v4, v5, v6, none] [] hm1 Q ↔ Q (some (.int r)) hm') ∧ XF hx1 hx' ∧ MF hm1 hm' m1 ∧ ∃ y, BX hx' t n y ∧ BM hm' t n y m1) ∨
    (∃ hx' hm' a b wv, am_run (D + 2) 96 [some (.ref 301), some (.int (nI 9)), none, none] hx1 none hx' ∧ (∀ Q, am_J (D + 1) 221 39 [some (.ref 349), some (.int (nI 9)), v2, v3, v4, v5, v6, none] [] hm1 Q ↔ am_J (D + 1) 221 238 [some (.ref 349), some (.int (nI 9)), some (.int a), some (.int b), some (.int (-1)), some (.long wv), none, none] [] hm' Q) ∧ SX t n o ltx ltm hx1 hm1 m1 (phW so on na vis oM agM cnM fnM o hm1 q1 C1 P1 N1 F1 k1 m1 9 wv (wdN 9) a b (-1)) hx' hm') := by
  obtain ⟨e, rfl⟩ : ∃ e, D = e + 10 := ⟨D - 10, by omega⟩
  obtain ⟨S0, T0⟩ := SX_S Z0
  obtain ⟨A1, A2, ⟨y, B, BB⟩ | ⟨q, C, P, N, F, k, m, W, lnx, lpx, lnm, lpm, X, LX, Y, LM, hk, hmk, hm0, ⟨-, rfl, rfl, rfl, rfl, rfl, rfl, rfl, rfl⟩⟩⟩ := Z0
  · refine Or.inl ?_
    obtain ⟨h1, r1, B1, G1⟩ := bx_callWord (d := e + 5) B KX KR.2.2.2 (fun i hi => (KR.2.2.1 i hi).2.2) (w := 9) (by decide)
    obtain ⟨h2, r2, W2, B2, G2⟩ := bm_call (d := e + 4) (v2 := v2) (v3 := v3) (v4 := v4) (v5 := v5) (v6 := v6) BB (w := 9) (by decide)
    exact ⟨h1, h2, r2, r1, W2, G1, G2, y, B1, B2⟩
  · have hq : q ≤ n := X.2.2.1.2.2.1
    obtain ⟨⟨l1, l2, l3, l4, l5⟩, lk, lq, f8, f9, cc, hcc, f7⟩ := X.2.2.1
    rcases st_rootName (d := e) (v2 := v2) (v3 := v3) (v4 := v4) (v5 := v5) (v6 := v6) Gv KM KR hn hk hmk X LX Y LM with ⟨h1, h2, hm2, r1, r2, W2, G1, G2, S1, B, BB⟩ | ⟨hK, h1, h2, hm2, r1, r2, W2, S1, Z1⟩
    · refine Or.inl ?_
      have S2 := bx_S B
      obtain ⟨h3, r3, B3, F3⟩ := bx_pass (d := e + 7) B (c := 44) (by decide)
      have S3 := bx_S B3
      obtain ⟨h4, r4, B4, F4⟩ := bx_level (d := e + 5) B3
      have S4 := bx_S B4
      obtain ⟨h5, r5, B5, F5⟩ := bx_pass (d := e + 7) B4 (c := 44) (by decide)
      have S5 := bx_S B5
      obtain ⟨h6, r6, B6, F6⟩ := bx_level (d := e + 5) B5
      have S6 := bx_S B6
      have F06 := XF_trans G1 (XF_trans F3 (XF_trans F4 (XF_trans F5 F6)))
      obtain ⟨h7, z7, r7, B7, F7⟩ := bx_resFn (d := e + 9) (x := lN 0) (p := nI q) (gv := 1) B6 (cfX_XF F06 KX) KR.2.2.2 (fun i hi => (KR.2.2.1 i hi).2.2) (by decide)
      have S7 := bx_S B7
      obtain ⟨h8, p8, hp8, r8, B8, F8⟩ := bx_add (d := e + 10) B7 (w := nI 27) (v := z7.toInt64)
      refine ⟨h8, hm2, nI 0, fun Q => ?_, W2, XF_trans F06 (XF_trans F7 F8), G2, (2, q), B8, by
        obtain ⟨z1, z2, z3, z4, z5, z6, z7⟩ := BB
        exact ⟨z1, z2, z3, z4, z5, by omega, z7⟩⟩
      have W : ∀ Q, am_J (e + 11) 103 0 [some (.ref 301), none, none, none] [] hx1 Q ↔ Q none h8 := fun Q => by
        simp (disch := first | with_reducible assumption | omega | exact Or.inl rfl | exact Or.inr rfl | exact bI_01 | exact c_cat | exact vt_ref | exact vt_null | rfl | with_reducible repeat (first | assumption | omega | apply S_I | apply S_L | apply S_D | apply ob_I | apply ob_L | apply ob_D | apply ob_R | apply ax_I | apply ax_L | apply ax_D | apply ax_R | apply o303 | apply o307 | apply o302 | apply o301 | apply ax304 | apply ax305 | apply ax306 | apply ax308 | apply ax309 | apply ax310 | apply lt_S | apply ar305 | apply ar308 | apply ar309)) only [g103_0, g103_1, g103_4, g103_7, g103_8, g103_9, g103_10, g103_13, g103_14, g103_17, g103_18, g103_19, g103_21, g103_24, g103_25, g103_26, g103_29, g103_30, g103_32, g103_35, g103_36, g103_37, g103_40, g103_41, g103_44, g103_46, g103_47, g103_48, g103_49, g103_50, g103_53, g103_54, g103_57, g103_58, Option.toList, List.nil_append, List.cons_append, va_rf, l3, r1 _, r2 _, r3 _, r4 _, r5 _, r6 _, r7 _, r8 _]
      simp (disch := first | with_reducible assumption | omega | exact Or.inl rfl | exact Or.inr rfl | exact bI_01 | exact c_cat | exact vt_ref | exact vt_null | rfl | with_reducible repeat (first | assumption | omega | apply S_I | apply S_L | apply S_D | apply ob_I | apply ob_L | apply ob_D | apply ob_R | apply ax_I | apply ax_L | apply ax_D | apply ax_R | apply o303 | apply o307 | apply o302 | apply o301 | apply ax304 | apply ax305 | apply ax306 | apply ax308 | apply ax309 | apply ax310 | apply lt_S | apply ar305 | apply ar308 | apply ar309)) only [g96_0, g96_56, g96_57, g96_60, g96_63, g96_64, g96_67, g96_70, g96_71, g96_74, g96_75, g96_76, g96_77, g96_79, g96_82, g96_83, g96_84, g96_87, g96_88, g96_91, g96_93, g96_94, g96_97, g96_98, g96_101, g96_102, g96_103, g96_106, g96_109, g96_110, g96_113, g96_116, g96_117, g96_119, g96_122, g96_123, g96_124, g96_127, g96_128, g96_131, g96_132, g96_134, g96_135, g96_137, g96_138, g96_139, g96_142, g96_143, g96_146, g96_147, g96_150, g96_151, g96_152, g96_153, g96_155, g96_156, g96_157, g96_160, g96_161, g96_164, g96_165, g96_1_9, Option.toList, List.nil_append, List.cons_append, va_rf, W]
    · refine Or.inr ?_
      obtain ⟨a1, a2, a3, a4, a5⟩ := lx_name hK
      obtain ⟨S2, T2⟩ := SX_S Z1
      have xl := xcop_len (t := t) (n := n) (lx_E t n q - q) q P
      have xg := xcop_ge (t := t) (n := n) (lx_E t n q - q) q P
      obtain ⟨h3, m3, x3, y3, Z3⟩ := st_pass (d := e + 6) Z1 (c := 44) (by decide)
      obtain ⟨S3, T3⟩ := SX_S Z3
      obtain ⟨h4, m4, r4, x4, y4, Z4⟩ := st_level (by omega) Lv hf ho hn Gv KX KM KR Z3 (by
        rintro q9 C9 P9 N9 F9 k9 m9 W9 ⟨q8, P8, ⟨hq8, rfl, rfl, rfl, rfl, rfl, rfl, rfl, -⟩, -, hq7, rfl, -⟩
        have b4 := xpad_len (P := xcop t n P q (lx_E t n q - q)) (w := nI 44)
        constructor <;> omega)
      obtain ⟨S4, T4⟩ := SX_S Z4
      obtain ⟨h5, m5, x5, y5, Z5⟩ := st_pass (d := e + 6) Z4 (c := 44) (by decide)
      obtain ⟨S5, T5⟩ := SX_S Z5
      obtain ⟨h6, m6, r6, x6, y6, Z6⟩ := st_level (by omega) Lv hf ho hn Gv KX KM KR Z5 (by
        rintro q9 C9 P9 N9 F9 k9 m9 W9 ⟨q7, P7, ⟨q6, C6, P6, N6, F6, k6, m6, W6, W62, r6, ⟨q8, P8, ⟨hq8, rfl, rfl, rfl, rfl, rfl, rfl, rfl, -⟩, -, hq7', rfl, -⟩, -, -, g6, -⟩, -, hq7, rfl, -⟩
        have b4 := xpad_len (P := xcop t n P q (lx_E t n q - q)) (w := nI 44)
        have b5 := xpad_len (P := P7) (w := nI 44)
        constructor <;> omega)
      obtain ⟨S6, T6⟩ := SX_S Z6
      have nm := lx_NM hK
      have ef := cf_fnF (so := so) (on := on) (na := na) (nf := nf) KR nm (gv := 1)
      obtain ⟨h7, v7, x7, Z7⟩ := st_resFn (d := e + 9) (gv := 1) (p := q) (x := lN (lx_w 256 0 t q (lx_E t n q - q))) KX KR Z6 (by decide) (by omega) (by
        rintro q9 C9 P9 N9 F9 k9 m9 W9 ⟨q10, C10, P10, N10, F10, k10, m10, W10, W102, r10, ⟨q7, P7, ⟨q6, C6, P6, N6, F6, k6, m6, W6, W62, r6, ⟨q8, P8, ⟨hq8, rfl, rfl, rfl, rfl, rfl, rfl, rfl, -⟩, -, hq7', rfl, -⟩, rfl, rfl, g6, -, wg6, -⟩, -, hq7, rfl, -⟩, rfl, rfl, g10, -, wg10, -⟩ z hz
        rw [mgO_none] at hz
        have := mgO_bd wg6 wg10 (by omega) (by omega) z hz
        omega)
      rw [ef] at Z7
      have Z7' := SX_base Z7
      obtain ⟨S7, -⟩ := SX_S Z7'
      obtain ⟨h8, p8, hp8, x8, Z8⟩ := st_add (d := e + 10) Z7' (w := 27) (by decide) (x := v7.toInt64)
      refine ⟨h8, m6, r4, r6, (fnF so on na nf oM fnM fnA (lN (lx_w 32 96 t q (lx_E t n q - q))) 1).toInt64, fun Q => ?_, fun Q => ?_, SX_imp Z8 ?_⟩
      · have W : ∀ Q, am_J (e + 11) 103 0 [some (.ref 301), none, none, none] [] hx1 Q ↔ Q none h8 := fun Q => by
          simp (disch := first | with_reducible assumption | omega | exact Or.inl rfl | exact Or.inr rfl | exact bI_01 | exact c_cat | exact vt_ref | exact vt_null | rfl | with_reducible repeat (first | assumption | omega | apply S_I | apply S_L | apply S_D | apply ob_I | apply ob_L | apply ob_D | apply ob_R | apply ax_I | apply ax_L | apply ax_D | apply ax_R | apply o303 | apply o307 | apply o302 | apply o301 | apply ax304 | apply ax305 | apply ax306 | apply ax308 | apply ax309 | apply ax310 | apply lt_S | apply ar305 | apply ar308 | apply ar309)) only [g103_0, g103_1, g103_4, g103_7, g103_8, g103_9, g103_10, g103_13, g103_14, g103_17, g103_18, g103_19, g103_21, g103_24, g103_25, g103_26, g103_29, g103_30, g103_32, g103_35, g103_36, g103_37, g103_40, g103_41, g103_44, g103_46, g103_47, g103_48, g103_49, g103_50, g103_53, g103_54, g103_57, g103_58, Option.toList, List.nil_append, List.cons_append, va_rf, l3, r1 _, r2 _, x3 _, x4 _, x5 _, x6 _, x7 _, x8 _]
        simp (disch := first | with_reducible assumption | omega | exact Or.inl rfl | exact Or.inr rfl | exact bI_01 | exact c_cat | exact vt_ref | exact vt_null | rfl | with_reducible repeat (first | assumption | omega | apply S_I | apply S_L | apply S_D | apply ob_I | apply ob_L | apply ob_D | apply ob_R | apply ax_I | apply ax_L | apply ax_D | apply ax_R | apply o303 | apply o307 | apply o302 | apply o301 | apply ax304 | apply ax305 | apply ax306 | apply ax308 | apply ax309 | apply ax310 | apply lt_S | apply ar305 | apply ar308 | apply ar309)) only [g96_0, g96_56, g96_57, g96_60, g96_63, g96_64, g96_67, g96_70, g96_71, g96_74, g96_75, g96_76, g96_77, g96_79, g96_82, g96_83, g96_84, g96_87, g96_88, g96_91, g96_93, g96_94, g96_97, g96_98, g96_101, g96_102, g96_103, g96_106, g96_109, g96_110, g96_113, g96_116, g96_117, g96_119, g96_122, g96_123, g96_124, g96_127, g96_128, g96_131, g96_132, g96_134, g96_135, g96_137, g96_138, g96_139, g96_142, g96_143, g96_146, g96_147, g96_150, g96_151, g96_152, g96_153, g96_155, g96_156, g96_157, g96_160, g96_161, g96_164, g96_165, g96_1_9, Option.toList, List.nil_append, List.cons_append, va_rf, W]
      · rw [W2]
        simp (disch := first | with_reducible assumption | omega | exact Or.inl rfl | exact Or.inr rfl | exact bI_01 | exact c_cat | exact vt_ref | exact vt_null | rfl | with_reducible repeat (first | assumption | omega | apply S_I | apply S_L | apply S_D | apply ob_I | apply ob_L | apply ob_D | apply ob_R | apply ax_I | apply ax_L | apply ax_D | apply ax_R | apply o303 | apply o307 | apply o302 | apply o301 | apply ax304 | apply ax305 | apply ax306 | apply ax308 | apply ax309 | apply ax310 | apply lt_S | apply ar305 | apply ar308 | apply ar309)) only [g221_106, g221_107, g221_109, g221_112, g221_113, g221_114, g221_117, g221_118, g221_120, g221_123, g221_124, g221_126, g221_129, g221_130, g221_133, g221_136, g221_137, g221_140, g221_141, g221_142, g221_143, g221_146, g221_147, g221_148, g221_151, g221_152, g221_153, g221_156, g221_157, g221_158, g221_161, g221_162, g221_164, g221_167, g221_168, g221_170, g221_173, g221_174, g221_176, g221_179, g221_180, g221_182, g221_185, g221_186, g221_188, g221_191, g221_192, g221_195, g221_198, g221_199, g221_202, g221_203, g221_204, g221_207, g221_208, g221_210, g221_213, g221_214, g221_216, g221_219, g221_220, g221_222, g221_225, g221_226, g221_229, g221_232, g221_233, g221_236, Option.toList, List.nil_append, List.cons_append, va_rf, nI_ltI, nI_leI, nI_eq, nI_add, nI_sub, nI_lt0, nI_e0, nI_m1, m1_nI, Nat.reduceEqDiff, Nat.reduceLT, Nat.reduceLeDiff, Nat.reduceAdd, Nat.reduceSub, Nat.reduceMul, ↓reduceIte, eq_self, y3 _, y4 _, y5 _, y6 _]
      · rintro q9 C9 P9 N9 F9 k9 m9 W9 hq9 ⟨-, C12, ⟨W12, ⟨⟨-, F11, ⟨q10, C10, P10, N10, F10, k10, m10, W10, W102, r10, ⟨q7, P7, ⟨q6, C6, P6, N6, F6, k6, m6', W6, W62, r6', ⟨q8, P8, ⟨hq8, rfl, rfl, rfl, rfl, rfl, rfl, rfl, tp8⟩, -, hq7', rfl, tp6⟩, rfl, rfl, g6, tg6, wg6, sg6⟩, -, hq7, rfl, tp7⟩, rfl, rfl, g10, tg10, wg10, sg10⟩, rfl⟩, rfl⟩, rfl⟩, rfl, -⟩
        have b4 := xpad_len (P := xcop t n P q (lx_E t n q - q)) (w := nI 44)
        have b5 := xpad_len (P := P7) (w := nI 44)
        have c4 := xpad_ge (P := xcop t n P q (lx_E t n q - q)) (w := nI 44)
        have c5 := xpad_ge (P := P7) (w := nI 44)
        have a1' := xadd_len (C := C12) (x := (nI 27, (if fnF so on na nf oM fnM fnA (lN (lx_w 32 96 t q (lx_E t n q - q))) 1 = -1 then nI 0 else fnF so on na nf oM fnM fnA (lN (lx_w 32 96 t q (lx_E t n q - q))) 1).toInt64))
        have b1' := xadd_ge (C := C12) (x := (nI 27, (if fnF so on na nf oM fnM fnA (lN (lx_w 32 96 t q (lx_E t n q - q))) 1 = -1 then nI 0 else fnF so on na nf oM fnM fnA (lN (lx_w 32 96 t q (lx_E t n q - q))) 1).toInt64))
        have tall : ∀ i, i < m6' → tb m6 3648 i = tb hm1 3648 i := fun i hi => by rw [tg10 i (by omega), tp7 i (by omega), tg6 i (by omega), tp6 i (by omega), tp8 i hi]
        refine ⟨⟨by omega, by omega, by omega, by omega, by omega, by omega, by omega, by omega, by omega⟩, tall, ?_, fun ez => ?_⟩
        · rw [mgO_none]
          refine mgO_bd (a := q) (b := q + 1) ?_ (mgO_bd wg6 wg10 (by omega) (by omega)) (by omega) (by omega)
          intro z hz
          unfold fnW at hz
          split at hz
          · cases hz; exact ⟨Nat.le_refl _, Nat.lt_succ_self _⟩
          · cases hz
        · obtain ⟨w0, w1⟩ := mgO_eq_none ez
          obtain ⟨w2, w3⟩ := mgO_eq_none w1
          obtain ⟨w4, w5⟩ := mgO_eq_none w2
          have nf1 : fnF so on na nf oM fnM fnA (lN (lx_w 32 96 t q (lx_E t n q - q))) 1 ≠ -1 := fun c => by
            unfold fnW at w0; rw [if_pos c] at w0; cases w0
          obtain ⟨g, hg, eg, pg⟩ := fnF_some (by have := KX; exact this.2.2.2.2.2.1) (by have := KX; exact this.2.2.2.2.2.2.1) HO nf1
          rw [ltM_tok hK] at pg
          obtain ⟨D1, E1, L1, G1, R1, u1, u2, u3, u4⟩ := sg6 w5
          obtain ⟨D2, E2, L2, G2, R2, u5, u6, u7, u8⟩ := sg10 w3
          have ng : ¬ nI g = -1 := by rw [← eg]; exact nf1
          rw [eg]
          refine ⟨D1 ++ D2 ++ [(nI 27, lN g)], tx t q (lx_E t n q - q) ++ 44 :: E1 ++ 44 :: E2, L1 ++ L2, G1 ++ G2 ++ [(g, 1)], ?_, ?_, ?_, ?_, ?_⟩
          · rw [xadd_eq (by omega), if_neg ng, nI_l (by omega), u5, u1]; simp
          · rw [u6, xpad_eq (by omega) (by decide), u2, xpad_eq (by omega) (by decide), xcop_eq _ _ _ (by omega) (by omega) (fun i hi => by have := isL_of (a5 (q + i) (by omega) (by omega)); omega)]; simp
          · rw [u7, u3]; simp
          · rw [if_neg ng, u8, u4]; simp [gF]
          · intro T' M' r' hr1 hr2 hT hr3
            rw [nI_l (by omega)] at hr3
            refine ⟨Rp_mk ?_, NC_sub (NC_app (NC_T R1.2 (fun i hi => by rw [hT i (by omega), tg10 i (by omega), tp7 i (by omega)])) (NC_T R2.2 hT)) (fun z hz => List.mem_append.mpr (Or.inl hz)), Or.inr ⟨(g, 1), List.mem_append.mpr (Or.inr (List.mem_singleton.mpr rfl)), nI_l (by omega)⟩⟩
            refine ⟨hr2, Or.inr (Or.inr (Or.inr (Or.inr (Or.inr (Or.inr (Or.inr (Or.inr (Or.inr (Or.inr (Or.inr (Or.inr (Or.inr (Or.inr (Or.inr (Or.inr ⟨g, r6', r10, D1, E1, L1, G1, D2, E2, L2, G2, hg, by rw [pg]; exact tx_ne hK, by omega, by omega, hr3, ?_, ?_, ?_, ?_, rfl, rfl⟩)))))))))))))))⟩
            · exact Rp_mono (M := m10) (by omega) (fun i hi => by rw [hT i (by omega), tg10 i (by omega), tp7 i (by omega)]) (by omega) R1.1
            · exact Rp_mono (M := m9) (by omega) (fun i hi => hT i hi) (by omega) R2.1
            · simp
            · rw [pg]; simp
end ROT

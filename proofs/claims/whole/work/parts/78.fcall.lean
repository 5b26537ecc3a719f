/-! BOTH PARSERS: a call of a function, from its bracket on -/
section FCL
variable {so s vis on na nc nf : Nat} {oX oM : Int64} {agX agM cnX cnM fnX fnM : Nat → Int64} {fnA : Nat → Nat} {t : Nat → Nat} {n : Nat} {D f : Nat} {d : Nat}
variable {hx1 hm1 : am_H} {o : Nat} {ltx ltm : Option (Nat × Nat)} {v1 v2 v3 v4 v5 v6 v7 v8 : Option Value}
variable {hx hm : am_H} {q q2 k m : Nat} {C C2 : List (Int32 × Int64)} {P P2 : List Int32} {N : List Nat} {F : Int32}
theorem J_fcall (hD : 10 ≤ D) (HO : FE so on na nf oM fnM fnA) (Lv : JR t n so s vis on na nc nf oX oM agX agM cnX cnM fnX fnM fnA (lxL 0) lm3 77 211 D f) (hf : 11 ≤ f + (o + 1)) (co : o < 10) (ck : k < 40) (hC : C.length ≤ 3 * k) (hP : P.length ≤ q + 2 * k) (hmk : m ≤ k) (hn : n ≤ 240) (hC2 : C2 = C ++ [ST]) (hK : lx_K t n q = 258) (hP2 : P2 = P ++ (tx t q (lx_E t n q - q) ++ [40]).map nI) (hql : lx_E t n q + 1 ≤ q2) (Gv : am_Gv hx1) (KX : cfX hx1 so s vis on na nc nf oX agX cnX fnX fnA) (KM : cfM hm1 so s vis on na nc nf oM agM cnM fnM fnA) (KR : cfR so na nc nf oX oM agX agM cnX cnM fnX fnM fnA) (F0 : XF hx hx1) (G0 : MF hm hm1 m) (Z0 : SX t n (o + 1) ltx ltm hx1 hm1 m (ph0 hm1 q2 C2 P2 N F (k + 1) m) hx1 hm1) :
    ∃ hx3 hx'' hm'' mr, am_run (D + 1) 94 [some (.ref 301), some (.long (lN (lx_w 256 0 t q (lx_E t n q - q)))), none, some (.int (nI q)), none] hx1 none hx3 ∧ am_S hx3 ∧ (∀ Q, am_J (D + 3) 89 106 [some (.ref 301), v1, v2, v3, v4] [] hx3 Q ↔ Q none hx'') ∧ (∀ Q, am_J (D + 1) 219 146 [some (.ref 349), some (.long (lN (lx_w 32 96 t q (lx_E t n q - q)))), none, some (.int (nI q)), v8, v5, v6, v7, none, none] [] hm1 Q ↔ Q (some (.int mr)) hm'') ∧ JP t n so on na vis oM agM cnM fnM hx hm hx'' hm'' q C P N F k o m ltx ltm mr := by
  obtain ⟨a1, a2, a3, a4, a5⟩ := lx_name hK
  have eC : C2.length = C.length + 1 := by rw [hC2]; simp
  have eP : P2.length = P.length + (lx_E t n q - q) + 1 := by rw [hP2]; simp [tx_len]; omega
  obtain ⟨hxa, hma, ra, rb, rc, gv, gv1, gv3, Wx, Wm, Z1⟩ := J_fnargs (x := lN (lx_w 256 0 t q (lx_E t n q - q))) (y := lN (lx_w 32 96 t q (lx_E t n q - q))) (p := nI q) (v3 := some (.int (nI q))) (v4 := v8) (v5 := v5) (v6 := v6) (v7 := v7) hD Lv hf (by omega) hn Gv KX KM KR (by omega) (by omega) Z0
  obtain ⟨e, rfl⟩ : ∃ e, D = e + 10 := ⟨D - 10, by omega⟩
  obtain ⟨Sa, Ta⟩ := SX_S Z1
  have nm := lx_NM hK
  have ef := cf_fnF (so := so) (on := on) (na := na) (nf := nf) KR nm (gv := gv)
  obtain ⟨h7, v7', x7, Z7⟩ := st_resFn (d := e + 9) (gv := gv) (p := q) (x := lN (lx_w 256 0 t q (lx_E t n q - q))) KX KR Z1 gv3 (by omega) (by
    rintro q9 C9 P9 N9 F9 k9 m9 W9 ⟨-, -, wg, -⟩ z hz
    have := wg z hz
    omega)
  rw [ef] at Z7
  obtain ⟨S7, -⟩ := SX_S Z7
  obtain ⟨h8, p8, hp8, x8, Z8⟩ := st_add (d := e + 10) Z7 (w := 30) (by decide) (x := (v7' * nI 4 + nI gv).toInt64)
  obtain ⟨S8, -⟩ := SX_S Z8
  obtain ⟨h3, m3, x3, y3, Z3⟩ := st_pass (d := e + 6) Z8 (c := 41) (by decide)
  have x3' := am_runD x3 (show e + 6 + 4 ≤ e + 12 by omega)
  obtain ⟨S3, T3⟩ := SX_S Z3
  have R94 : am_run (e + 11) 94 [some (.ref 301), some (.long (lN (lx_w 256 0 t q (lx_E t n q - q)))), none, some (.int (nI q)), none] hx1 none h8 := fun Q => by
    rw [Wx]
    simp (disch := first | with_reducible assumption | omega | exact Or.inl rfl | exact Or.inr rfl | exact bI_01 | exact c_cat | exact vt_ref | exact vt_null | rfl | with_reducible repeat (first | assumption | omega | apply S_I | apply S_L | apply S_D | apply ob_I | apply ob_L | apply ob_D | apply ob_R | apply ax_I | apply ax_L | apply ax_D | apply ax_R | apply o303 | apply o307 | apply o302 | apply o301 | apply ax304 | apply ax305 | apply ax306 | apply ax308 | apply ax309 | apply ax310 | apply lt_S | apply ar305 | apply ar308 | apply ar309)) only [g94_43, g94_44, g94_47, g94_49, g94_50, g94_51, g94_53, g94_54, g94_57, g94_58, g94_59, g94_61, g94_62, g94_63, g94_66, g94_67, Option.toList, List.nil_append, List.cons_append, va_rf, x7 _, x8 _]
  have A : ∀ i, i < nf → fnA i ≤ 3 := fun i hi => (KR.2.2.1 i hi).2.2
  have hfin : ∀ (h4 h5 h6 : am_H) (r : Nat), am_S h4 → am_S h5 → am_S h6 → r ≤ 40 → h4 = am_setI m3 349 26 (am_I m3 349 26 - nI 1) → cfM h4 so s vis on na nc nf oM agM cnM fnM fnA → (fnF so on na nf oM fnM fnA (lN (lx_w 32 96 t q (lx_E t n q - q))) gv = -1 → am_run (e + 10) 207 [some (.ref 349), some (.int (nI 4)), some (.int (nI q))] h4 none h5) → (fnF so on na nf oM fnM fnA (lN (lx_w 32 96 t q (lx_E t n q - q))) gv ≠ -1 → h5 = h4) → am_run (e + 10) 215 [some (.ref 349), some (.int (nI 8)), some (.int ra), some (.int rb), some (.int rc), none] h5 (some (.int (nI r))) h6 → ∀ Q, am_J (e + 11) 219 146 [some (.ref 349), some (.long (lN (lx_w 32 96 t q (lx_E t n q - q)))), none, some (.int (nI q)), v8, v5, v6, v7, none, none] [] hm1 Q ↔ Q (some (.int (nI r))) (am_setL h6 357 (3648 + r) (fnF so on na nf oM fnM fnA (lN (lx_w 32 96 t q (lx_E t n q - q))) gv).toInt64) := by
    intro h4 h5 h6 r S4 S5 S6 hr e4 K4 hb hg p6 Q
    subst e4
    have ff := fun Q => m_functionFor (d := e + 9) (x := lN (lx_w 32 96 t q (lx_E t n q - q))) (Q := Q) (v4 := none) S4 K4 A gv3
    rw [Wm]
    by_cases c : fnF so on na nf oM fnM fnA (lN (lx_w 32 96 t q (lx_E t n q - q))) gv = -1
    · have p5 := hb c
      simp (disch := first | with_reducible assumption | omega | exact Or.inl rfl | exact Or.inr rfl | exact bI_01 | exact c_cat | exact vt_ref | exact vt_null | rfl | with_reducible repeat (first | assumption | omega | apply S_I | apply S_L | apply S_D | apply ob_I | apply ob_L | apply ob_D | apply ob_R | apply ax_I | apply ax_L | apply ax_D | apply ax_R | apply o303 | apply o307 | apply o302 | apply o301 | apply ax304 | apply ax305 | apply ax306 | apply ax308 | apply ax309 | apply ax310 | apply lt_S | apply ar305 | apply ar308 | apply ar309)) only [g219_211, g219_212, g219_214, g219_217, g219_218, g219_219, g219_222, g219_223, g219_224, g219_227, g219_228, g219_229, g219_231, g219_234, g219_236, g219_238, g219_239, g219_242, g219_243, g219_244, g219_245, g219_248, g219_249, g219_251, g219_253, g219_255, g219_257, g219_260, g219_262, g219_263, g219_266, g219_269, g219_271, g219_272, g219_274, g219_275, g219_276, g219_278, Option.toList, List.nil_append, List.cons_append, va_rf, nI_ltI, nI_leI, nI_eq, nI_add, nI_sub, nI_lt0, nI_e0, nI_m1, m1_nI, Nat.reduceEqDiff, Nat.reduceLT, Nat.reduceLeDiff, Nat.reduceAdd, Nat.reduceSub, Nat.reduceMul, ↓reduceIte, eq_self, y3 _, ff _, c, p5 _, p6 _]
    · have p5 := hg c
      subst p5
      simp (disch := first | with_reducible assumption | omega | exact Or.inl rfl | exact Or.inr rfl | exact bI_01 | exact c_cat | exact vt_ref | exact vt_null | rfl | with_reducible repeat (first | assumption | omega | apply S_I | apply S_L | apply S_D | apply ob_I | apply ob_L | apply ob_D | apply ob_R | apply ax_I | apply ax_L | apply ax_D | apply ax_R | apply o303 | apply o307 | apply o302 | apply o301 | apply ax304 | apply ax305 | apply ax306 | apply ax308 | apply ax309 | apply ax310 | apply lt_S | apply ar305 | apply ar308 | apply ar309)) only [g219_211, g219_212, g219_214, g219_217, g219_218, g219_219, g219_222, g219_223, g219_224, g219_227, g219_228, g219_229, g219_231, g219_234, g219_236, g219_238, g219_239, g219_242, g219_243, g219_244, g219_245, g219_248, g219_249, g219_251, g219_253, g219_255, g219_257, g219_260, g219_262, g219_263, g219_266, g219_269, g219_271, g219_272, g219_274, g219_275, g219_276, g219_278, Option.toList, List.nil_append, List.cons_append, va_rf, nI_ltI, nI_leI, nI_eq, nI_add, nI_sub, nI_lt0, nI_e0, nI_m1, m1_nI, Nat.reduceEqDiff, Nat.reduceLT, Nat.reduceLeDiff, Nat.reduceAdd, Nat.reduceSub, Nat.reduceMul, ↓reduceIte, eq_self, y3 _, ff _, c, p6 _]
  obtain ⟨A1, A2, ⟨y, B, BB⟩ | ⟨q', C', P', N', F', k', m', W, lnx, lpx, lnm, lpm, X, LX, Y, LM, hk', hmk', hm0', hΦ⟩⟩ := Z3
  · obtain ⟨B1, G1⟩ := bx_o B (o' := am_I h3 301 10 - nI 1)
    obtain ⟨B2, G2⟩ := bm_o BB (o' := am_I m3 349 26 - nI 1)
    have S2 := (bm_S B2).1
    have K2 := cfM_MF (MF_trans A2 G2 (Nat.le_refl _)) KM
    have Wc : ∀ Q, am_J (e + 13) 89 106 [some (.ref 301), v1, v2, v3, v4] [] h8 Q ↔ Q none (am_setI h3 301 10 (am_I h3 301 10 - nI 1)) := fun Q => by
      simp (disch := first | with_reducible assumption | omega | exact Or.inl rfl | exact Or.inr rfl | exact bI_01 | exact c_cat | exact vt_ref | exact vt_null | rfl | with_reducible repeat (first | assumption | omega | apply S_I | apply S_L | apply S_D | apply ob_I | apply ob_L | apply ob_D | apply ob_R | apply ax_I | apply ax_L | apply ax_D | apply ax_R | apply o303 | apply o307 | apply o302 | apply o301 | apply ax304 | apply ax305 | apply ax306 | apply ax308 | apply ax309 | apply ax310 | apply lt_S | apply ar305 | apply ar308 | apply ar309)) only [g89_106, g89_107, g89_109, g89_112, g89_113, g89_114, g89_117, g89_118, g89_119, g89_122, Option.toList, List.nil_append, List.cons_append, va_rf, x3' _]
    by_cases c : fnF so on na nf oM fnM fnA (lN (lx_w 32 96 t q (lx_E t n q - q))) gv = -1
    · obtain ⟨h5, r5, B5, G5⟩ := bm_wrong (d := e + 10) B2 (f := nI 4) (p := nI q)
      have S5 := (bm_S B5).1
      obtain ⟨h6, w6, r6, a6, b6, B6, G6⟩ := bm_node (d := e + 10) (v5 := none) B5 (kd := nI 8) (x := ra) (y' := rb) (z := rc)
      have S6 := (bm_S B6).1
      obtain ⟨B9, G9⟩ := bm_wh B6 a6 b6 (v := (fnF so on na nf oM fnM fnA (lN (lx_w 32 96 t q (lx_E t n q - q))) gv).toInt64)
      exact ⟨h8, _, _, nI w6, R94, S8, Wc, hfin _ _ _ _ S2 S5 S6 b6 rfl K2 (fun _ => r5) (fun x => absurd c x) r6, XF_trans F0 (XF_trans A1 G1), MF_trans G0 (MF_trans A2 (MF_trans G2 (MF_trans G5 (MF_trans G6 G9 (Nat.le_refl _)) (Nat.le_refl _)) (Nat.le_refl _)) (Nat.le_refl _)) (Nat.le_refl _), Or.inl ⟨y, B1, B9⟩⟩
    · obtain ⟨h6, w6, r6, a6, b6, B6, G6⟩ := bm_node (d := e + 10) (v5 := none) B2 (kd := nI 8) (x := ra) (y' := rb) (z := rc)
      have S6 := (bm_S B6).1
      obtain ⟨B9, G9⟩ := bm_wh B6 a6 b6 (v := (fnF so on na nf oM fnM fnA (lN (lx_w 32 96 t q (lx_E t n q - q))) gv).toInt64)
      exact ⟨h8, _, _, nI w6, R94, S8, Wc, hfin _ _ _ _ S2 S2 S6 b6 rfl K2 (fun x => absurd x c) (fun _ => rfl) r6, XF_trans F0 (XF_trans A1 G1), MF_trans G0 (MF_trans A2 (MF_trans G2 (MF_trans G6 G9 (Nat.le_refl _)) (Nat.le_refl _)) (Nat.le_refl _)) (Nat.le_refl _), Or.inl ⟨y, B1, B9⟩⟩
  · obtain ⟨q'', P'', ⟨-, C'', ⟨⟨-, F'', ⟨⟨g1, g2, g3, g4, g5, g6, g7, g8, g9⟩, tg, wg, sg⟩, eF⟩, ev⟩, rfl, -⟩, -, hq', rfl, tp⟩ := hΦ
    have l1 := xpad_len (P := P'') (w := nI 41)
    have l2 := xpad_ge (P := P'') (w := nI 41)
    have l3 := xadd_len (C := C'') (x := (nI 30, (v7' * nI 4 + nI gv).toInt64))
    have l4 := xadd_ge (C := C'') (x := (nI 30, (v7' * nI 4 + nI gv).toInt64))
    have hq'n : q' ≤ n := X.2.2.1.2.2.1
    have X1 := PX_o (o' := nI o) X
    have Y1 := MX_o (o' := nI o) Y
    have eo1 := X.2.2.2.2.2.2.2.2.1
    have eo2 := Y.2.2.2.2.2.1
    have SY := Y1.1
    have GY : MF m3 (am_setI m3 349 26 (nI o)) m' := MF_I MF_refl (by omega)
    have KY := cfM_MF (MF_trans A2 GY (by omega)) KM
    have Wc : ∀ Q, am_J (e + 13) 89 106 [some (.ref 301), v1, v2, v3, v4] [] h8 Q ↔ Q none (am_setI h3 301 10 (nI o)) := fun Q => by
      simp (disch := first | with_reducible assumption | omega | exact Or.inl rfl | exact Or.inr rfl | exact bI_01 | exact c_cat | exact vt_ref | exact vt_null | rfl | with_reducible repeat (first | assumption | omega | apply S_I | apply S_L | apply S_D | apply ob_I | apply ob_L | apply ob_D | apply ob_R | apply ax_I | apply ax_L | apply ax_D | apply ax_R | apply o303 | apply o307 | apply o302 | apply o301 | apply ax304 | apply ax305 | apply ax306 | apply ax308 | apply ax309 | apply ax310 | apply lt_S | apply ar305 | apply ar308 | apply ar309)) only [g89_106, g89_107, g89_109, g89_112, g89_113, g89_114, g89_117, g89_118, g89_119, g89_122, Option.toList, List.nil_append, List.cons_append, va_rf, x3' _, eo1, nI_pred']
    rw [mgO_assoc] at LX
    by_cases c : fnF so on na nf oM fnM fnA (lN (lx_w 32 96 t q (lx_E t n q - q))) gv = -1
    · obtain ⟨h5, r5, Y5, G5⟩ := m_wrong (d := e + 10) Y1 (f := nI 4) (p := nI q)
      have S5 := Y5.1
      obtain ⟨h6, r6, Y6, G6, tb6⟩ := m_nodeG (d := e + 10) (v5 := none) Y5 (by omega) (kd := nI 8) (x := ra) (y := rb) (z := rc)
      have S6 := Y6.1
      obtain ⟨Y9, G9⟩ := MX_wh (x := (fnF so on na nf oM fnM fnA (lN (lx_w 32 96 t q (lx_E t n q - q))) gv).toInt64) Y6 G6 (by omega)
      have eW : fnW (fnF so on na nf oM fnM fnA (lN (lx_w 32 96 t q (lx_E t n q - q))) gv) q = some (4, q) := if_pos c
      have LM' : LT (xlat lnm lpm (nI 4) (nI q)).1 (xlat lnm lpm (nI 4) (nI q)).2 (mgO ltm (mgO (fnW (fnF so on na nf oM fnM fnA (lN (lx_w 32 96 t q (lx_E t n q - q))) gv) q) W)) := by
        rw [eW, mgO_comm (a := some (4, q)) (b := W) (fun x y hx hy => by cases hx; have := wg y hy; omega), ← mgO_assoc]
        exact LT_mg LM (by omega)
      refine ⟨h8, _, _, nI m', R94, S8, Wc, hfin _ _ _ _ SY S5 S6 (by omega) (by rw [eo2, nI_pred']) KY (fun _ => r5) (fun x => absurd c x) r6, XF_trans F0 (XF_trans A1 (XF_I XF_refl (by omega))), MF_trans G0 (MF_trans A2 (MF_trans GY (MF_trans G5 G9 (Nat.le_refl _)) (Nat.le_refl _)) (by omega)) (Nat.le_refl _), Or.inr ⟨q', _, _, N', F', k', m' + 1, _, m', lnx, lpx, _, _, ⟨by omega, by omega, by omega, by omega, by omega, by omega, by omega, by omega, by omega, by omega⟩, rfl, X1, LX, Y9, LM', (fun z ez => ?_), fun ez => ?_⟩⟩
      · rw [eW] at ez
        have := mgO_bd (a := q) (b := q + 1) (W := some (4, q)) (fun z hz => by cases hz; exact ⟨Nat.le_refl _, Nat.lt_succ_self _⟩) wg (by omega) (by omega) z ez
        omega
      · rw [eW] at ez
        have := (mgO_eq_none ez).1
        cases this
    · obtain ⟨h6, r6, Y6, G6, tb6⟩ := m_nodeG (d := e + 10) (v5 := none) Y1 (by omega) (kd := nI 8) (x := ra) (y := rb) (z := rc)
      have S6 := Y6.1
      obtain ⟨Y9, G9⟩ := MX_wh (x := (fnF so on na nf oM fnM fnA (lN (lx_w 32 96 t q (lx_E t n q - q))) gv).toInt64) Y6 G6 (by omega)
      have eW : fnW (fnF so on na nf oM fnM fnA (lN (lx_w 32 96 t q (lx_E t n q - q))) gv) q = none := if_neg c
      rw [eW, mgO_none] at LX
      have tb9 := tb_wh (v := (fnF so on na nf oM fnM fnA (lN (lx_w 32 96 t q (lx_E t n q - q))) gv).toInt64) tb6
      have G39 := MF_trans GY G9 (Nat.le_refl _)
      refine ⟨h8, _, _, nI m', R94, S8, Wc, hfin _ _ _ _ SY SY S6 (by omega) (by rw [eo2, nI_pred']) KY (fun x => absurd x c) (fun _ => rfl) r6, XF_trans F0 (XF_trans A1 (XF_I XF_refl (by omega))), MF_trans G0 (MF_trans A2 G39 (by omega)) (Nat.le_refl _), Or.inr ⟨q', _, _, N', F', k', m' + 1, W, m', lnx, lpx, lnm, lpm, ⟨by omega, by omega, by omega, by omega, by omega, by omega, by omega, by omega, by omega, by omega⟩, rfl, X1, LX, Y9, LM, (fun z ez => ?_), fun ez => ?_⟩⟩
      · have := wg z ez; omega
      · obtain ⟨Dx, Ex, Lx, Gx, u1, u2, u3, u4, hR⟩ := sg ez
        obtain ⟨g, hg, eg, pg⟩ := fnF_some (by have := KX; exact this.2.2.2.2.2.1) (by have := KX; exact this.2.2.2.2.2.2.1) HO c
        rw [ltM_tok hK] at pg
        have ng : ¬ nI g = -1 := by rw [← eg]; exact c
        rw [eg, nI_l (by omega)] at tb9
        rw [eg, if_neg ng] at ev eF
        have R := hR (tb (am_setL h6 357 (3648 + m') (fnF so on na nf oM fnM fnA (lN (lx_w 32 96 t q (lx_E t n q - q))) gv).toInt64) 3648) (m' + 1) m' g hg (by rw [pg]; exact tx_ne hK) (Nat.le_refl _) (by omega) (fun i hi => by rw [tb_same G39 hi, tp i hi]) (by rw [eg, nI_l (by omega)]; exact tb9)
        rw [pg] at R
        refine ⟨ST :: Dx ++ [(nI 30, lN (g * 4 + gv))], tx t q (lx_E t n q - q) ++ 40 :: Ex ++ [41], Lx, Gx ++ [(g, gv)], ⟨Rp_mono (Nat.le_refl _) (fun _ _ => rfl) (by omega) R.1, ?_⟩, ?_, ?_, u3, ?_⟩
        · exact NC_call (g := (g, gv)) (NC_sub R.2 (fun z hz => List.mem_append.mpr (Or.inl hz))) (by rw [eg, nI_l (by omega)]; exact tb9) (List.mem_append.mpr (Or.inr (List.mem_singleton.mpr rfl)))
        · rw [xadd_eq (by omega), ev, nI_mul, nI_add, nI_l (by omega), u1, hC2]; simp
        · rw [xpad_eq (by omega) (by decide), u2, hP2]; simp
        · rw [eF, u4]; simp [gF]
end FCL

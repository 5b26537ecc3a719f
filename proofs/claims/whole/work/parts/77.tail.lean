/-! BOTH PARSERS: a call of a word, from its bracket on -/
theorem tb_wh {h : am_H} {m : Nat} {v x : Int64} {kd a b c : Int32} (e : tb h 3648 m = (kd, a, b, c, x)) : tb (am_setL h 357 (3648 + m) v) 3648 m = (kd, a, b, c, v) := by
  unfold tb at *
  simp only [Prod.mk.injEq] at e ⊢
  obtain ⟨e1, e2, e3, e4, e5⟩ := e
  refine ⟨e1, e2, e3, e4, ?_⟩
  simp only [hI_I, hI_L, hI_D, hI_R, hL_I, hL_L, hL_D, hL_R, hD_I, hD_L, hD_D, hD_R, hR_I, hR_L, hR_D, ↓reduceIte, Nat.reduceEqDiff]
section TAL
variable {so s vis on na nc nf : Nat} {oX oM : Int64} {agX agM cnX cnM fnX fnM : Nat → Int64} {fnA : Nat → Nat} {t : Nat → Nat} {n : Nat} {D f : Nat} {d : Nat}
variable {hx1 hm1 : am_H} {o m1 q1 k1 : Nat} {C1 : List (Int32 × Int64)} {P1 : List Int32} {N1 : List Nat} {F1 : Int32} {ltx ltm : Option (Nat × Nat)} {v1 v2 v3 v4 v5 v6 : Option Value}
theorem J_word (hD : 10 ≤ D) (HO : FE so on na nf oM fnM fnA) (Lv : JR t n so s vis on na nc nf oX oM agX agM cnX cnM fnX fnM fnA (lxL 0) lm3 77 211 D f) (hf : 11 ≤ f + o) (ho : o ≤ 10) (hn : n ≤ 240) (Gv : am_Gv hx1) (KX : cfX hx1 so s vis on na nc nf oX agX cnX fnX fnA) (KM : cfM hm1 so s vis on na nc nf oM agM cnM fnM fnA) (KR : cfR so na nc nf oX oM agX agM cnX cnM fnX fnM fnA) (hC : C1.length + 2 ≤ 3 * k1) (hP : P1.length ≤ q1 + 2 * k1) (Z0 : SX t n o ltx ltm hx1 hm1 m1 (ph0 hm1 q1 C1 P1 N1 F1 k1 m1) hx1 hm1) {w : Nat} (hw : w < 12) :
    ∃ hx' hm', am_run (D + 2) 96 [some (.ref 301), some (.int (nI w)), none, none] hx1 none hx' ∧ ((∃ r y, (∀ Q, am_J (D + 1) 221 39 [some (.ref 349), some (.int (nI w)), v2, v3, v4, v5, v6, none] [] hm1 Q ↔ Q (some (.int r)) hm') ∧ XF hx1 hx' ∧ MF hm1 hm' m1 ∧ BX hx' t n y ∧ BM hm' t n y m1) ∨
    (∃ a b c fl, (∀ Q, am_J (D + 1) 221 39 [some (.ref 349), some (.int (nI w)), v2, v3, v4, v5, v6, none] [] hm1 Q ↔ am_J (D + 1) 221 238 [some (.ref 349), some (.int (nI w)), some (.int a), some (.int b), some (.int c), some (.long fl), none, none] [] hm' Q) ∧ SX t n o ltx ltm hx1 hm1 m1 (phW so on na vis oM agM cnM fnM o hm1 q1 C1 P1 N1 F1 k1 m1 (if w = 9 then 9 else 7) (if w = 9 then fl else lN w) (wdN w) a b c) hx' hm')) := by
  rcases (show w = 0 ∨ w = 1 ∨ (2 ≤ w ∧ w ≤ 5) ∨ w = 6 ∨ w = 7 ∨ w = 8 ∨ w = 9 ∨ (w = 10 ∨ w = 11) by omega) with rfl | rfl | c | rfl | rfl | rfl | rfl | c
  · obtain ⟨hx', hm', a, b, c, r1, r2, Z⟩ := J_if hD Lv hf ho hn Gv KX KM KR hC hP Z0
    exact ⟨hx', hm', r1, Or.inr ⟨a, b, c, lN 0, r2, Z⟩⟩
  · obtain ⟨hx', hm', a, b, r1, r2, Z⟩ := J_try hD Lv hf ho hn Gv KX KM KR hC hP Z0
    exact ⟨hx', hm', r1, Or.inr ⟨a, b, -1, lN 0, r2, Z⟩⟩
  · obtain ⟨hx', hm', a, r1, r2, Z⟩ := J_fold hD Lv hf ho hn Gv KX KM KR hC hP Z0 c
    have e9 : ¬ w = 9 := by omega
    exact ⟨hx', hm', r1, Or.inr ⟨a, -1, -1, lN 0, r2, (by rw [if_neg e9, if_neg e9]; exact Z)⟩⟩
  · obtain ⟨hx', hm', a, b, r1, r2, Z⟩ := J_at hD Lv hf ho hn Gv KX KM KR hC hP Z0
    exact ⟨hx', hm', r1, Or.inr ⟨a, b, -1, lN 0, r2, Z⟩⟩
  · obtain ⟨hx', hm', a, b, c, r1, r2, Z⟩ := J_line hD Lv hf ho hn Gv KX KM KR hC hP Z0
    exact ⟨hx', hm', r1, Or.inr ⟨a, b, c, lN 0, r2, Z⟩⟩
  · obtain ⟨hx', hm', a, b, r1, r2, Z⟩ := J_area hD Lv hf ho hn Gv KX KM KR hC hP Z0
    exact ⟨hx', hm', r1, Or.inr ⟨a, b, -1, lN 0, r2, Z⟩⟩
  · rcases J_root (v2 := v2) (v3 := v3) (v4 := v4) (v5 := v5) (v6 := v6) hD HO Lv hf ho hn Gv KX KM KR hC hP Z0 with ⟨hx', hm', r, r1, r2, G1, G2, y, B, BB⟩ | ⟨hx', hm', a, b, wv, r1, r2, Z⟩
    · exact ⟨hx', hm', r1, Or.inl ⟨r, y, r2, G1, G2, B, BB⟩⟩
    · exact ⟨hx', hm', r1, Or.inr ⟨a, b, -1, wv, r2, Z⟩⟩
  · obtain ⟨hx', hm', a, r1, r2, Z⟩ := J_cut hD Lv hf ho hn Gv KX KM KR hC hP Z0 c
    have e9 : ¬ w = 9 := by omega
    exact ⟨hx', hm', r1, Or.inr ⟨a, -1, -1, lN 0, r2, (by rw [if_neg e9, if_neg e9]; exact Z)⟩⟩
variable {hx hm hx' hm' : am_H} {q q2 k m : Nat} {C C2 : List (Int32 × Int64)} {P P2 : List Int32} {N : List Nat} {F : Int32} {pre : List Nat} {a b c : Int32} {fl : Int64} {w : Nat}
theorem J_wtail (hD : 10 ≤ D) (hw : w < 12) (co : o < 10) (ck : k < 40) (hC : C.length ≤ 3 * k) (hP : P.length ≤ q + 2 * k) (hmk : m ≤ k) (hn : n ≤ 240) (hC2 : C2 = C ++ [ST]) (hP2 : P2 = P ++ (pre ++ [40]).map nI) (hql : q + pre.length + 1 ≤ q2) (F0 : XF hx hx1) (G0 : MF hm hm1 m) (Z : SX t n (o + 1) ltx ltm hx1 hm1 m (phW so on na vis oM agM cnM fnM (o + 1) hm1 q2 C2 P2 N F (k + 1) m (if w = 9 then 9 else 7) (if w = 9 then fl else lN w) pre a b c) hx' hm') : ∃ hx'' hm'' mr, (∀ Q, am_J (D + 3) 89 106 [some (.ref 301), v1, v2, v3, v4] [] hx' Q ↔ Q none hx'') ∧ (∀ Q, am_J (D + 1) 221 238 [some (.ref 349), some (.int (nI w)), some (.int a), some (.int b), some (.int c), some (.long fl), none, none] [] hm' Q ↔ Q (some (.int mr)) hm'') ∧ JP t n so on na vis oM agM cnM fnM hx hm hx'' hm'' q C P N F k o m ltx ltm mr := by
  obtain ⟨e, rfl⟩ : ∃ e, D = e + 10 := ⟨D - 10, by omega⟩
  obtain ⟨S0, T0⟩ := SX_S Z
  obtain ⟨h3, m3, x3, y3, Z3⟩ := st_pass (d := e + 6) Z (c := 41) (by decide)
  have x3' := am_runD x3 (show e + 6 + 4 ≤ e + 12 by omega)
  obtain ⟨S3, T3⟩ := SX_S Z3
  have hkd : ∀ (h4 h5 : am_H) (r : Nat), am_S h4 → am_S h5 → r ≤ 40 → h4 = am_setI m3 349 26 (am_I m3 349 26 - nI 1) → am_run (e + 10) 215 [some (.ref 349), some (.int (nI (if w = 9 then 9 else 7))), some (.int a), some (.int b), some (.int c), none] h4 (some (.int (nI r))) h5 → ∀ Q, am_J (e + 11) 221 238 [some (.ref 349), some (.int (nI w)), some (.int a), some (.int b), some (.int c), some (.long fl), none, none] [] hm' Q ↔ Q (some (.int (nI r))) (am_setL h5 357 (3648 + r) (if w = 9 then fl else lN w)) := by
    intro h4 h5 r S4 S5 hr e4 p5 Q
    subst e4
    by_cases ew : w = 9
    · simp only [ew, ↓reduceIte] at p5 ⊢
      simp (disch := first | with_reducible assumption | omega | exact Or.inl rfl | exact Or.inr rfl | exact bI_01 | exact c_cat | exact vt_ref | exact vt_null | rfl | with_reducible repeat (first | assumption | omega | apply S_I | apply S_L | apply S_D | apply ob_I | apply ob_L | apply ob_D | apply ob_R | apply ax_I | apply ax_L | apply ax_D | apply ax_R | apply o303 | apply o307 | apply o302 | apply o301 | apply ax304 | apply ax305 | apply ax306 | apply ax308 | apply ax309 | apply ax310 | apply lt_S | apply ar305 | apply ar308 | apply ar309)) only [g221_238, g221_239, g221_241, g221_244, g221_245, g221_246, g221_249, g221_250, g221_251, g221_254, g221_255, g221_256, g221_258, g221_261, g221_263, g221_266, g221_268, g221_269, g221_270, g221_272, g221_275, g221_277, g221_278, g221_281, g221_284, g221_286, g221_287, g221_288, g221_290, g221_293, g221_295, g221_298, g221_299, g221_300, g221_301, g221_303, Option.toList, List.nil_append, List.cons_append, va_rf, nI_ltI, nI_leI, nI_eq, nI_add, nI_sub, nI_lt0, nI_e0, nI_m1, m1_nI, Nat.reduceEqDiff, Nat.reduceLT, Nat.reduceLeDiff, Nat.reduceAdd, Nat.reduceSub, Nat.reduceMul, ↓reduceIte, eq_self, y3 _, p5 _]
    · simp only [ew, ↓reduceIte] at p5 ⊢
      simp (disch := first | with_reducible assumption | omega | exact Or.inl rfl | exact Or.inr rfl | exact bI_01 | exact c_cat | exact vt_ref | exact vt_null | rfl | with_reducible repeat (first | assumption | omega | apply S_I | apply S_L | apply S_D | apply ob_I | apply ob_L | apply ob_D | apply ob_R | apply ax_I | apply ax_L | apply ax_D | apply ax_R | apply o303 | apply o307 | apply o302 | apply o301 | apply ax304 | apply ax305 | apply ax306 | apply ax308 | apply ax309 | apply ax310 | apply lt_S | apply ar305 | apply ar308 | apply ar309)) only [g221_238, g221_239, g221_241, g221_244, g221_245, g221_246, g221_249, g221_250, g221_251, g221_254, g221_255, g221_256, g221_258, g221_261, g221_263, g221_266, g221_268, g221_269, g221_270, g221_272, g221_275, g221_277, g221_278, g221_281, g221_284, g221_286, g221_287, g221_288, g221_290, g221_293, g221_295, g221_298, g221_299, g221_300, g221_301, g221_303, Option.toList, List.nil_append, List.cons_append, va_rf, nI_ltI, nI_leI, nI_eq, nI_add, nI_sub, nI_lt0, nI_e0, nI_m1, m1_nI, Nat.reduceEqDiff, Nat.reduceLT, Nat.reduceLeDiff, Nat.reduceAdd, Nat.reduceSub, Nat.reduceMul, ↓reduceIte, eq_self, y3 _, ew, p5 _, nI_l]
  obtain ⟨A1, A2, ⟨y, B, BB⟩ | ⟨q', C', P', N', F', k', m', W, lnx, lpx, lnm, lpm, X, LX, Y, LM, hk', hmk', hm0', hΦ⟩⟩ := Z3
  · obtain ⟨B1, G1⟩ := bx_o B (o' := am_I h3 301 10 - nI 1)
    obtain ⟨B2, G2⟩ := bm_o BB (o' := am_I m3 349 26 - nI 1)
    have S2 := (bm_S B2).1
    obtain ⟨h4, w4, r4, a4, b4, B4, G4⟩ := bm_node (d := e + 10) (v5 := none) B2 (kd := nI (if w = 9 then 9 else 7)) (x := a) (y' := b) (z := c)
    have S4 := (bm_S B4).1
    obtain ⟨B5, G5⟩ := bm_wh B4 a4 b4 (v := if w = 9 then fl else lN w)
    refine ⟨_, _, nI w4, fun Q => ?_, fun Q => hkd _ _ _ S2 S4 b4 rfl r4 Q, XF_trans F0 (XF_trans A1 G1), MF_trans G0 (MF_trans A2 (MF_trans G2 (MF_trans G4 G5 (Nat.le_refl _)) (Nat.le_refl _)) (Nat.le_refl _)) (Nat.le_refl _), Or.inl ⟨y, B1, B5⟩⟩
    simp (disch := first | with_reducible assumption | omega | exact Or.inl rfl | exact Or.inr rfl | exact bI_01 | exact c_cat | exact vt_ref | exact vt_null | rfl | with_reducible repeat (first | assumption | omega | apply S_I | apply S_L | apply S_D | apply ob_I | apply ob_L | apply ob_D | apply ob_R | apply ax_I | apply ax_L | apply ax_D | apply ax_R | apply o303 | apply o307 | apply o302 | apply o301 | apply ax304 | apply ax305 | apply ax306 | apply ax308 | apply ax309 | apply ax310 | apply lt_S | apply ar305 | apply ar308 | apply ar309)) only [g89_106, g89_107, g89_109, g89_112, g89_113, g89_114, g89_117, g89_118, g89_119, g89_122, Option.toList, List.nil_append, List.cons_append, va_rf, x3' _]
  · obtain ⟨q'', P'', ⟨⟨g1, g2, g3, g4, g5, g6, g7, g8, g9⟩, tg, wg, sg⟩, -, hq', rfl, tp⟩ := hΦ
    have l1 := xpad_len (P := P'') (w := nI 41)
    have l2 := xpad_ge (P := P'') (w := nI 41)
    have eC : C2.length = C.length + 1 := by rw [hC2]; simp
    have eP : P2.length = P.length + pre.length + 1 := by rw [hP2]; simp; omega
    have hq'n : q' ≤ n := X.2.2.1.2.2.1
    have X1 := PX_o (o' := nI o) X
    have Y1 := MX_o (o' := nI o) Y
    have eo1 := X.2.2.2.2.2.2.2.2.1
    have eo2 := Y.2.2.2.2.2.1
    have SY := Y1.1
    obtain ⟨h4, r4, Y4, G4, tb4⟩ := m_nodeG (d := e + 10) (v5 := none) Y1 (by omega) (kd := nI (if w = 9 then 9 else 7)) (x := a) (y := b) (z := c)
    have S4 := Y4.1
    obtain ⟨Y5, G5⟩ := MX_wh (x := if w = 9 then fl else lN w) Y4 G4 (by omega)
    have tb5 := tb_wh (v := if w = 9 then fl else lN w) tb4
    have G35 : MF m3 (am_setL h4 357 (3648 + m') (if w = 9 then fl else lN w)) m' := MF_trans (MF_I MF_refl (by omega)) G5 (Nat.le_refl _)
    have hY := hkd _ _ _ SY S4 (by omega) (by rw [eo2, nI_pred']) r4
    refine ⟨am_setI h3 301 10 (nI o), _, nI m', fun Q => ?_, hY, XF_trans F0 (XF_trans A1 (XF_I XF_refl (by omega))), MF_trans G0 (MF_trans A2 G35 (by omega)) (Nat.le_refl _), Or.inr ⟨q', C', _, N', F', k', m' + 1, W, m', lnx, lpx, lnm, lpm, ⟨by omega, by omega, by omega, by omega, by omega, by omega, by omega, by omega, by omega, by omega⟩, rfl, X1, LX, Y5, LM, (fun z ez => ?_), fun ez => ?_⟩⟩
    · simp (disch := first | with_reducible assumption | omega | exact Or.inl rfl | exact Or.inr rfl | exact bI_01 | exact c_cat | exact vt_ref | exact vt_null | rfl | with_reducible repeat (first | assumption | omega | apply S_I | apply S_L | apply S_D | apply ob_I | apply ob_L | apply ob_D | apply ob_R | apply ax_I | apply ax_L | apply ax_D | apply ax_R | apply o303 | apply o307 | apply o302 | apply o301 | apply ax304 | apply ax305 | apply ax306 | apply ax308 | apply ax309 | apply ax310 | apply lt_S | apply ar305 | apply ar308 | apply ar309)) only [g89_106, g89_107, g89_109, g89_112, g89_113, g89_114, g89_117, g89_118, g89_119, g89_122, Option.toList, List.nil_append, List.cons_append, va_rf, x3' _, eo1, nI_pred']
    · have := wg z ez; omega
    · obtain ⟨Dx, Ex, Lx, Gx, u1, u2, u3, u4, hR⟩ := sg ez
      have R := hR (tb (am_setL h4 357 (3648 + m') (if w = 9 then fl else lN w)) 3648) (m' + 1) m' (Nat.le_refl _) (by omega) (fun i hi => by rw [tb_same G35 hi, tp i hi]) tb5
      refine ⟨ST :: Dx, pre ++ 40 :: Ex ++ [41], Lx, Gx, ⟨Rp_mono (Nat.le_refl _) (fun _ _ => rfl) (by omega) R.1, ?_⟩, ?_, ?_, u3, u4⟩
      · rcases R.2.2 with hk | ⟨z, hz, e⟩
        · exact NC_end R.2.1 tb5 hk
        · exact NC_call (g := z) R.2.1 (tb5.trans (by rw [e])) hz
      · rw [u1, hC2]; simp
      · rw [xpad_eq (by omega) (by decide), u2, hP2]; simp
end TAL

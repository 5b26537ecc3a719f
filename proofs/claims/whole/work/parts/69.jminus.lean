/-! BOTH PARSERS: minus, groups -/
section JMN
variable {so s vis on na nc nf : Nat} {oX oM : Int64} {agX agM cnX cnM fnX fnM : Nat → Int64} {fnA : Nat → Nat} {t : Nat → Nat} {n : Nat} {D f : Nat}
variable {hx hm : am_H} {q : Nat} {C : List (Int32 × Int64)} {P : List Int32} {N : List Nat} {F : Int32} {k o m : Nat} {ltx ltm : Option (Nat × Nat)}
theorem nI_pred' {a : Nat} : nI (a + 1) - nI 1 = nI a := by rw [nI_sub (by omega), Nat.add_sub_cancel]
theorem J_minus (hD : 10 ≤ D) (At : JR t n so s vis on na nc nf oX oM agX agM cnX cnM fnX fnM fnA lxA lm1 78 214 D f) (hf : 11 ≤ f + 1 + o) (hK : lx_K t n q = 45) (J : JS t n so s vis on na nc nf oX oM agX agM cnX cnM fnX fnM fnA hx hm q C P N F k o m ltx ltm) : ∃ hx' hm' mr, am_run (D + 2) 78 lxA hx none hx' ∧ am_run (D + 2) 214 lm1 hm (some (.int mr)) hm' ∧ JP t n so on na vis oM agM cnM fnM hx hm hx' hm' q C P N F k o m ltx ltm mr := by
  obtain ⟨e, rfl⟩ : ∃ e, D = e + 10 := ⟨D - 10, by omega⟩
  obtain ⟨⟨lnx, lpx, X, LX0⟩, ⟨lnm, lpm, Y, LM0⟩, Gv, KX, KM, KR, hC, hP, hmk, hk, ho, hq, hn⟩ := J
  unfold lxA lm1
  have hqn : q < n := lx_K_lt (by rw [hK]; decide)
  have S := X.1
  have tk : am_I hx 302 2 = nI (lx_K t n q) := x_tok X
  rw [hK] at tk
  obtain ⟨R0, R1, R2, R3, R4, R5⟩ := S303r S
  -- the class up to the atom
  obtain ⟨h1, r1, X1, F1⟩ := x_tellStep (d := e + 8) X
  have S1 := X1.1
  obtain ⟨h2, r2, X2, F2⟩ := x_tellOpen (d := e + 9) X1
  have S2 := X2.1
  obtain ⟨-, -, R22, -, -, -⟩ := S303r S2
  obtain ⟨h3, r3, X3, F3⟩ := x_padd (d := e + 10) X2 (w := nI 40)
  have S3 := X3.1
  obtain ⟨-, -, R23, -, -, -⟩ := S303r S3
  obtain ⟨h4, r4, X4, F4⟩ := x_padd (d := e + 10) X3 (w := nI 45)
  have S4 := X4.1
  obtain ⟨h5, r5, X5, F5⟩ := x_adv (d := e + 8) (v1 := none) X4
  have S5 := X5.1
  have F05 := XF_trans F1 (XF_trans F2 (XF_trans (XF_303 F3) (XF_trans (XF_303 F4) F5)))
  have Wx : ∀ Q, am_J (e + 12) 78 0 [some (.ref 301)] [] hx Q ↔ am_J (e + 10) 78 0 [some (.ref 301)] [] h5 (fun r h' => am_J (e + 11) 79 43 [some (.ref 301)] (r.toList ++ []) h' (fun r h' => am_J (e + 12) 78 68 [some (.ref 301)] (r.toList ++ []) h' Q)) := by
    intro Q
    rw [g78_0, g78_1 S, g78_4 S, tk, g78_7_45]
    simp (disch := first | with_reducible assumption | omega | exact Or.inl rfl | exact Or.inr rfl | exact bI_01 | exact c_cat | exact vt_ref | exact vt_null | rfl | with_reducible repeat (first | assumption | omega | apply S_I | apply S_L | apply S_D | apply ob_I | apply ob_L | apply ob_D | apply ob_R | apply ax_I | apply ax_L | apply ax_D | apply ax_R | apply o303 | apply o307 | apply o302 | apply o301 | apply ax304 | apply ax305 | apply ax306 | apply ax308 | apply ax309 | apply ax310 | apply lt_S | apply ar305 | apply ar308 | apply ar309)) only [g78_64, g78_65, g79_0, g79_1, g79_4, g79_5, g79_8, g79_9, g79_12, g79_15, g79_17, g79_20, g79_21, g79_24, g79_27, g79_29, g79_32, g79_33, g79_36, g79_39, g79_40, Option.toList, List.nil_append, List.cons_append, va_rf, r1 _, r2 _, R22, r3 _, R23, r4 _, r5 _]
  -- the class behind the atom
  have tail : ∀ (h : am_H) (md : Nat ⊕ (Nat × Nat)) C' P' N' F' k' o' ln lp, PX h t n md C' P' N' F' k' o' ln lp → ∃ h', (∀ Q, am_J (e + 11) 79 43 [some (.ref 301)] [] h (fun r h' => am_J (e + 12) 78 68 [some (.ref 301)] (r.toList ++ []) h' Q) ↔ Q none h') ∧ XF h h' ∧ PX h' t n md (xadd C' (nI 6, lN 0)) (xpad P' (nI 41)) N' F' k' (o' - nI 1) ln lp := by
    intro h md C' P' N' F' k' o' ln lp X'
    have S' := X'.1
    obtain ⟨-, -, R2', -, -, -⟩ := S303r S'
    obtain ⟨g1, p1, Y1, G1⟩ := x_padd (d := e + 10) X' (w := nI 41)
    have S1' := Y1.1
    obtain ⟨g2, p2, Y2, G2⟩ := x_add (d := e + 10) Y1 (w := nI 6) (v := lN 0)
    rw [by8_nI 6 (by decide)] at Y2 p2
    have S2' := Y2.1
    have eo := Y2.2.2.2.2.2.2.2.2.1
    refine ⟨am_setI g2 301 10 (o' - nI 1), fun Q => ?_, XF_trans (XF_303 G1) (XF_trans (XF_303 G2) (XF_I XF_refl (by omega))), PX_o Y2⟩
    simp (disch := first | with_reducible assumption | omega | exact Or.inl rfl | exact Or.inr rfl | exact bI_01 | exact c_cat | exact vt_ref | exact vt_null | rfl | with_reducible repeat (first | assumption | omega | apply S_I | apply S_L | apply S_D | apply ob_I | apply ob_L | apply ob_D | apply ob_R | apply ax_I | apply ax_L | apply ax_D | apply ax_R | apply o303 | apply o307 | apply o302 | apply o301 | apply ax304 | apply ax305 | apply ax306 | apply ax308 | apply ax309 | apply ax310 | apply lt_S | apply ar305 | apply ar308 | apply ar309)) only [g79_43, g79_44, g79_47, g79_50, g79_52, g79_55, g79_56, g79_59, g79_61, g79_62, g79_65, g79_66, g79_67, g79_68, g79_71, g79_72, g79_73, g79_76, g78_68, g78_179, Option.toList, List.nil_append, List.cons_append, va_rf, R2', p1 _, p2 _, eo]
  -- the model up to the atom
  obtain ⟨SM, GM, TM, ⟨⟨l1, l2, l3, l4⟩, lk, lq, f22, f4⟩, e1, e2, e3, e4, e5, e6⟩ := id Y
  have s45 : ∀ Q, am_J (e + 11) 205 0 [some (.ref 349), some (.int (nI 45))] [] hm Q ↔ Q (some (.int (nI 1))) hm := fun Q => by rw [m_sign Y (by decide), show decide (mdK t n (.inl q) = mcode 45) = true from decide_eq_true hK]; rfl
  by_cases cg : k < 40 ∧ o < 10
  · obtain ⟨ck, co⟩ := cg
    rw [xpart_good ck] at X1 X2 X3 X4 X5
    rw [show xopen (Sum.inl q) (nI o) = (.inl q, nI (o + 1)) from xopen_good co] at X2 X3 X4 X5
    have Ya := MX_o (o' := nI (o + 1)) (MX_k (k' := nI (k + 1)) Y)
    have Sa := Ya.1
    obtain ⟨m2, p2, Y2, G2⟩ := m_nx (d := e + 8) (v1 := none) Ya
    have SM2 := Y2.1
    have G02 : MF hm m2 m := MF_trans (MF_I (MF_I MF_refl (by omega)) (by omega)) G2 (Nat.le_refl _)
    have Wm : ∀ Q, am_J (e + 12) 214 0 [some (.ref 349), none] [] hm Q ↔ am_J (e + 11) 214 0 [some (.ref 349), none] [] m2 (fun r h' => am_J (e + 12) 214 73 [some (.ref 349), none] (r.toList ++ []) h' Q) := by
      intro Q
      rw [g214_0, g214_1 SM, g214_4, f22]
      simp (disch := first | with_reducible assumption | omega | exact Or.inl rfl | exact Or.inr rfl | exact bI_01 | exact c_cat | exact vt_ref | exact vt_null | rfl | with_reducible repeat (first | assumption | omega | apply S_I | apply S_L | apply S_D | apply ob_I | apply ob_L | apply ob_D | apply ob_R | apply ax_I | apply ax_L | apply ax_D | apply ax_R | apply o303 | apply o307 | apply o302 | apply o301 | apply ax304 | apply ax305 | apply ax306 | apply ax308 | apply ax309 | apply ax310 | apply lt_S | apply ar305 | apply ar308 | apply ar309)) only [g214_9, g214_10, g214_12, g214_15, g214_18, g214_19, g214_22, g214_24, g214_27, g214_28, g214_31, g214_33, g214_36, g214_37, g214_38, g214_39, g214_42, g214_45, g214_46, g214_47, g214_50, g214_51, g214_52, g214_55, g214_56, g214_57, g214_60, g214_61, g214_62, g214_65, g214_66, g214_69, g214_70, Option.toList, List.nil_append, List.cons_append, va_rf, nI_ltI, nI_leI, nI_eq, nI_add, nI_sub, nI_lt0, nI_e0, nI_m1, m1_nI, Nat.reduceEqDiff, Nat.reduceLT, Nat.reduceLeDiff, Nat.reduceAdd, Nat.reduceSub, Nat.reduceMul, ↓reduceIte, eq_self, s45, e1, e2, hI_I, hI_L, hI_D, hI_R, hL_I, hL_L, hL_D, hL_R, hD_I, hD_L, hD_D, hD_R, hR_I, hR_L, hR_D, ↓reduceIte, Nat.reduceEqDiff, show ¬ k = 40 by omega, show ¬ o = 10 by omega, p2 _]
    match hA : mdA t n (.inl q) with
    | .inr y =>
      rw [hA] at X5 Y2
      obtain ⟨h6, r6, B6, F6⟩ := bx_atom (d := e + 9) (BX_of X5)
      obtain ⟨C6, P6, N6, F6', k6, o6, ln6, lp6, X6⟩ := id B6
      obtain ⟨h7, W7, F7, X7⟩ := tail h6 _ _ _ _ _ _ _ _ _ X6
      have B2 := BM_of Y2 (Nat.le_refl m)
      obtain ⟨B3, G3⟩ := bm_o B2 (o' := am_I m2 349 26 - nI 1)
      have SM3 := (bm_S B3).1
      obtain ⟨m4, w4, p4, -, -, B4, G4⟩ := bm_node (d := e + 11) (v5 := none) B3 (kd := nI 5) (x := nI 0) (y' := nI 0) (z := nI 0)
      refine ⟨h7, m4, nI w4, fun Q => ?_, fun Q => ?_, XF_trans F05 (XF_trans F6 F7), MF_trans G02 (MF_trans G3 G4 (Nat.le_refl _)) (Nat.le_refl _), Or.inl ⟨y, BX_of X7, B4⟩⟩
      · rw [Wx, r6 _]; exact W7 Q
      · rw [Wm, bm_atom B2]
        simp (disch := first | with_reducible assumption | omega | exact Or.inl rfl | exact Or.inr rfl | exact bI_01 | exact c_cat | exact vt_ref | exact vt_null | rfl | with_reducible repeat (first | assumption | omega | apply S_I | apply S_L | apply S_D | apply ob_I | apply ob_L | apply ob_D | apply ob_R | apply ax_I | apply ax_L | apply ax_D | apply ax_R | apply o303 | apply o307 | apply o302 | apply o301 | apply ax304 | apply ax305 | apply ax306 | apply ax308 | apply ax309 | apply ax310 | apply lt_S | apply ar305 | apply ar308 | apply ar309)) only [g214_73, g214_74, g214_75, g214_76, g214_79, g214_80, g214_81, g214_84, g214_85, g214_86, g214_87, g214_88, g214_89, g214_92, Option.toList, List.nil_append, List.cons_append, va_rf, p4 _]
    | .inl q' =>
      rw [hA] at X5 Y2
      obtain ⟨g4, g5, g6⟩ := mdA_gt hqn hA
      have hq' : q' ≤ n := X5.2.2.1.2.2.1
      have a1 := xadd_len (C := C) (x := (nI 0, lN 0))
      have a2 := xadd_ge (C := C) (x := (nI 0, lN 0))
      have a3 := xpad_len (P := P) (w := nI 40)
      have a4 := xpad_len (P := xpad P (nI 40)) (w := nI 45)
      have a5 := xpad_ge (P := P) (w := nI 40)
      have a6 := xpad_ge (P := xpad P (nI 40)) (w := nI 45)
      have Gv5 : am_Gv h5 := Gv_fr F05.1 (by unfold rX; omega) (by unfold rX; omega) (by unfold rX; omega) Gv
      obtain ⟨hx3, hm3, mr3, rx3, rm3, Fx3, Fm3, J3⟩ := At h5 m2 q' _ _ N F (k + 1) (o + 1) m ltx ltm (by omega) ⟨⟨lnx, lpx, X5, LX0⟩, ⟨lnm, lpm, Y2, LM0⟩, Gv5, cfX_XF F05 KX, cfM_MF G02 KM, KR, by omega, by omega, by omega, by omega, by omega, hq', hn⟩
      unfold lxA at rx3
      unfold lm1 at rm3
      have rm3' := am_runD rm3 (show e + 10 ≤ e + 11 by omega)
      have SM3 : am_S hm3 := MF_S (MF_trans G02 Fm3 (Nat.le_refl _)) SM
      rcases J3 with ⟨y, B3, BB3⟩ | ⟨q3, C3, P3, N3, F3, k3, m3, W3, r3', lnx3, lpx3, lnm3, lpm3, ⟨c1, c2, c3, c4, c5, c6, c7, c8, c9, c10⟩, e3', X3', LX3, Y4, LM3, hW3, hR3⟩
      · obtain ⟨C6, P6, N6, F6', k6, o6, ln6, lp6, X6⟩ := id B3
        obtain ⟨h7, W7, F7, X7⟩ := tail hx3 _ _ _ _ _ _ _ _ _ X6
        obtain ⟨B3', G3⟩ := bm_o BB3 (o' := am_I hm3 349 26 - nI 1)
        have SM3' := (bm_S B3').1
        obtain ⟨m4, w4, p4, -, -, B4, G4⟩ := bm_node (d := e + 11) (v5 := none) B3' (kd := nI 5) (x := mr3) (y' := nI 0) (z := nI 0)
        refine ⟨h7, m4, nI w4, fun Q => ?_, fun Q => ?_, XF_trans F05 (XF_trans Fx3 F7), MF_trans G02 (MF_trans Fm3 (MF_trans G3 G4 (Nat.le_refl _)) (Nat.le_refl _)) (Nat.le_refl _), Or.inl ⟨y, BX_of X7, B4⟩⟩
        · rw [Wx, rx3 _]; exact W7 Q
        · rw [Wm, rm3' _]
          simp (disch := first | with_reducible assumption | omega | exact Or.inl rfl | exact Or.inr rfl | exact bI_01 | exact c_cat | exact vt_ref | exact vt_null | rfl | with_reducible repeat (first | assumption | omega | apply S_I | apply S_L | apply S_D | apply ob_I | apply ob_L | apply ob_D | apply ob_R | apply ax_I | apply ax_L | apply ax_D | apply ax_R | apply o303 | apply o307 | apply o302 | apply o301 | apply ax304 | apply ax305 | apply ax306 | apply ax308 | apply ax309 | apply ax310 | apply lt_S | apply ar305 | apply ar308 | apply ar309)) only [g214_73, g214_74, g214_75, g214_76, g214_79, g214_80, g214_81, g214_84, g214_85, g214_86, g214_87, g214_88, g214_89, g214_92, Option.toList, List.nil_append, List.cons_append, va_rf, p4 _]
      · subst e3'
        obtain ⟨h7, W7, F7, X7⟩ := tail hx3 _ _ _ _ _ _ _ _ _ X3'
        rw [nI_pred'] at X7
        have eo := Y4.2.2.2.2.2.1
        have Yo := MX_o (o' := nI o) Y4
        have SMo := Yo.1
        obtain ⟨m6, p6, Y6, G6, tb6⟩ := m_nodeG (d := e + 11) (v5 := none) Yo (by omega) (kd := nI 5) (x := nI r3') (y := nI 0) (z := nI 0)
        have G46 : MF hm3 m6 m3 := MF_trans (MF_I MF_refl (by omega)) G6 (Nat.le_refl _)
        have d1 := xadd_len (C := C3) (x := (nI 6, lN 0))
        have d2 := xadd_ge (C := C3) (x := (nI 6, lN 0))
        have d3 := xpad_len (P := P3) (w := nI 41)
        have d4 := xpad_ge (P := P3) (w := nI 41)
        have hq3 : q3 ≤ n := X3'.2.2.1.2.2.1
        refine ⟨h7, m6, nI m3, fun Q => ?_, fun Q => ?_, XF_trans F05 (XF_trans Fx3 F7), MF_trans G02 (MF_trans Fm3 G46 c4) (Nat.le_refl _), Or.inr ⟨q3, _, _, N3, F3, k3, m3 + 1, W3, m3, lnx3, lpx3, lnm3, lpm3, ⟨by omega, by omega, c3, by omega, by omega, by omega, by omega, by omega, by omega, by omega⟩, rfl, X7, LX3, Y6, LM3, (fun z ez => ?_), fun ez => ?_⟩⟩
        · rw [Wx, rx3 _]; exact W7 Q
        · rw [Wm, rm3' _]
          simp (disch := first | with_reducible assumption | omega | exact Or.inl rfl | exact Or.inr rfl | exact bI_01 | exact c_cat | exact vt_ref | exact vt_null | rfl | with_reducible repeat (first | assumption | omega | apply S_I | apply S_L | apply S_D | apply ob_I | apply ob_L | apply ob_D | apply ob_R | apply ax_I | apply ax_L | apply ax_D | apply ax_R | apply o303 | apply o307 | apply o302 | apply o301 | apply ax304 | apply ax305 | apply ax306 | apply ax308 | apply ax309 | apply ax310 | apply lt_S | apply ar305 | apply ar308 | apply ar309)) only [g214_73, g214_74, g214_75, g214_76, g214_79, g214_80, g214_81, g214_84, g214_85, g214_86, g214_87, g214_88, g214_89, g214_92, Option.toList, List.nil_append, List.cons_append, va_rf, eo, nI_pred', p6 _]
        · have := hW3 z ez; omega
        · obtain ⟨D2, E2, L2, G2', R2', v1', v2', v3', v4'⟩ := hR3 ez
          refine ⟨ST :: D2 ++ [(nI 6, lN 0)], [40, 45] ++ E2 ++ [41], L2, G2', ?_, ?_, ?_, v3', v4'⟩
          · refine ⟨?_, NC_end (NC_T R2'.2 (fun i hi => tb_same G46 hi)) tb6 (by decide)⟩
            obtain ⟨fw, hfw⟩ : ∃ fw, k3 - k + 41 * (10 - o) = fw + 1 := ⟨k3 - k + 41 * (10 - o) - 1, by omega⟩
            rw [hfw]
            apply Rp_mk
            refine ⟨by omega, Or.inr (Or.inr (Or.inr (Or.inr (Or.inl ⟨r3', D2, E2, L2, G2', c6, tb6, ?_, rfl, rfl, rfl, rfl⟩))))⟩
            exact Rp_mono (M := m3) (by omega) (fun i hi => tb_same G46 hi) (by omega) R2'.1
          · rw [xadd_eq (by omega), v1', xadd_eq (C := C) (by omega)]; simp [ST]
          · rw [xpad_eq (by omega) (by decide), v2', xpad_eq (P := P) (by omega) (by decide), xpad_eq (by simp; omega) (by decide)]; simp
  · have hm3 : k = 40 ∨ o = 10 := by omega
    have hmd : (xopen (xpart (.inl q) (nI k)).1 (nI o)).1 = .inr (3, q) := by
      by_cases ck : k < 40
      · rw [xpart_good ck]
        obtain rfl : o = 10 := by omega
        rw [xopen_bad]
      · obtain rfl : k = 40 := by omega
        rw [xpart_bad]
        unfold xopen; split <;> rfl
    rw [hmd] at X2 X3 X4 X5
    obtain ⟨h6, r6, B6, F6⟩ := bx_atom (d := e + 9) (BX_of X5)
    obtain ⟨C6, P6, N6, F6', k6, o6, ln6, lp6, X6⟩ := id B6
    obtain ⟨h7, W7, F7, X7⟩ := tail h6 _ _ _ _ _ _ _ _ _ X6
    obtain ⟨m1, p1, Y1, G1⟩ := m_stp (d := e + 11) Y (f := 3) (p := nI q) (by decide) (by decide) (fun q' e => by cases e; rfl)
    have SM1 := Y1.1
    have B1 := BM_of Y1 (Nat.le_refl m)
    obtain ⟨Ba, Ga⟩ := bm_k B1 (o' := am_I m1 349 25 + nI 1)
    obtain ⟨Bb, Gb⟩ := bm_o Ba (o' := am_I m1 349 26 + nI 1)
    have SMb := (bm_S Bb).1
    obtain ⟨m2, p2, B2, G2⟩ := bm_nx (d := e + 8) (v1 := none) Bb
    have SM2 := (bm_S B2).1
    obtain ⟨B3, G3⟩ := bm_o B2 (o' := am_I m2 349 26 - nI 1)
    have SM3 := (bm_S B3).1
    obtain ⟨m4, w4, p4, -, -, B4, G4⟩ := bm_node (d := e + 11) (v5 := none) B3 (kd := nI 5) (x := nI 0) (y' := nI 0) (z := nI 0)
    refine ⟨h7, m4, nI w4, fun Q => ?_, fun Q => ?_, XF_trans F05 (XF_trans F6 F7), MF_trans G1 (MF_trans Ga (MF_trans Gb (MF_trans G2 (MF_trans G3 G4 (Nat.le_refl _)) (Nat.le_refl _)) (Nat.le_refl _)) (Nat.le_refl _)) (Nat.le_refl _), Or.inl ⟨(3, q), BX_of X7, B4⟩⟩
    · rw [Wx, r6 _]; exact W7 Q
    · rw [g214_0, g214_1 SM, g214_4, f22]
      by_cases ck : k = 40
      · simp (disch := first | with_reducible assumption | omega | exact Or.inl rfl | exact Or.inr rfl | exact bI_01 | exact c_cat | exact vt_ref | exact vt_null | rfl | with_reducible repeat (first | assumption | omega | apply S_I | apply S_L | apply S_D | apply ob_I | apply ob_L | apply ob_D | apply ob_R | apply ax_I | apply ax_L | apply ax_D | apply ax_R | apply o303 | apply o307 | apply o302 | apply o301 | apply ax304 | apply ax305 | apply ax306 | apply ax308 | apply ax309 | apply ax310 | apply lt_S | apply ar305 | apply ar308 | apply ar309)) only [g214_9, g214_10, g214_12, g214_15, g214_18, g214_19, g214_22, g214_24, g214_27, g214_28, g214_31, g214_33, g214_36, g214_37, g214_38, g214_39, g214_42, g214_45, g214_46, g214_47, g214_50, g214_51, g214_52, g214_55, g214_56, g214_57, g214_60, g214_61, g214_62, g214_65, g214_66, g214_69, g214_70, Option.toList, List.nil_append, List.cons_append, va_rf, nI_ltI, nI_leI, nI_eq, nI_add, nI_sub, nI_lt0, nI_e0, nI_m1, m1_nI, Nat.reduceEqDiff, Nat.reduceLT, Nat.reduceLeDiff, Nat.reduceAdd, Nat.reduceSub, Nat.reduceMul, ↓reduceIte, eq_self, s45, e1, l3, ck, p1 _, hI_I, hI_L, hI_D, hI_R, hL_I, hL_L, hL_D, hL_R, hD_I, hD_L, hD_D, hD_R, hR_I, hR_L, hR_D, ↓reduceIte, Nat.reduceEqDiff, p2 _]
        rw [bm_atom B2]
        simp (disch := first | with_reducible assumption | omega | exact Or.inl rfl | exact Or.inr rfl | exact bI_01 | exact c_cat | exact vt_ref | exact vt_null | rfl | with_reducible repeat (first | assumption | omega | apply S_I | apply S_L | apply S_D | apply ob_I | apply ob_L | apply ob_D | apply ob_R | apply ax_I | apply ax_L | apply ax_D | apply ax_R | apply o303 | apply o307 | apply o302 | apply o301 | apply ax304 | apply ax305 | apply ax306 | apply ax308 | apply ax309 | apply ax310 | apply lt_S | apply ar305 | apply ar308 | apply ar309)) only [g214_73, g214_74, g214_75, g214_76, g214_79, g214_80, g214_81, g214_84, g214_85, g214_86, g214_87, g214_88, g214_89, g214_92, Option.toList, List.nil_append, List.cons_append, va_rf, p4 _]
      · have co : o = 10 := by omega
        simp (disch := first | with_reducible assumption | omega | exact Or.inl rfl | exact Or.inr rfl | exact bI_01 | exact c_cat | exact vt_ref | exact vt_null | rfl | with_reducible repeat (first | assumption | omega | apply S_I | apply S_L | apply S_D | apply ob_I | apply ob_L | apply ob_D | apply ob_R | apply ax_I | apply ax_L | apply ax_D | apply ax_R | apply o303 | apply o307 | apply o302 | apply o301 | apply ax304 | apply ax305 | apply ax306 | apply ax308 | apply ax309 | apply ax310 | apply lt_S | apply ar305 | apply ar308 | apply ar309)) only [g214_9, g214_10, g214_12, g214_15, g214_18, g214_19, g214_22, g214_24, g214_27, g214_28, g214_31, g214_33, g214_36, g214_37, g214_38, g214_39, g214_42, g214_45, g214_46, g214_47, g214_50, g214_51, g214_52, g214_55, g214_56, g214_57, g214_60, g214_61, g214_62, g214_65, g214_66, g214_69, g214_70, Option.toList, List.nil_append, List.cons_append, va_rf, nI_ltI, nI_leI, nI_eq, nI_add, nI_sub, nI_lt0, nI_e0, nI_m1, m1_nI, Nat.reduceEqDiff, Nat.reduceLT, Nat.reduceLeDiff, Nat.reduceAdd, Nat.reduceSub, Nat.reduceMul, ↓reduceIte, eq_self, s45, e1, e2, l3, ck, co, p1 _, hI_I, hI_L, hI_D, hI_R, hL_I, hL_L, hL_D, hL_R, hD_I, hD_L, hD_D, hD_R, hR_I, hR_L, hR_D, ↓reduceIte, Nat.reduceEqDiff, p2 _]
        rw [bm_atom B2]
        simp (disch := first | with_reducible assumption | omega | exact Or.inl rfl | exact Or.inr rfl | exact bI_01 | exact c_cat | exact vt_ref | exact vt_null | rfl | with_reducible repeat (first | assumption | omega | apply S_I | apply S_L | apply S_D | apply ob_I | apply ob_L | apply ob_D | apply ob_R | apply ax_I | apply ax_L | apply ax_D | apply ax_R | apply o303 | apply o307 | apply o302 | apply o301 | apply ax304 | apply ax305 | apply ax306 | apply ax308 | apply ax309 | apply ax310 | apply lt_S | apply ar305 | apply ar308 | apply ar309)) only [g214_73, g214_74, g214_75, g214_76, g214_79, g214_80, g214_81, g214_84, g214_85, g214_86, g214_87, g214_88, g214_89, g214_92, Option.toList, List.nil_append, List.cons_append, va_rf, p4 _]
theorem J_group (hD : 14 ≤ D) (Lv : JR t n so s vis on na nc nf oX oM agX agM cnX cnM fnX fnM fnA (lxL 0) lm3 77 211 D f) (hf : 11 ≤ f + 1 + o) (hK : lx_K t n q = 40) (J : JS t n so s vis on na nc nf oX oM agX agM cnX cnM fnX fnM fnA hx hm q C P N F k o m ltx ltm) : ∃ hx' hm' mr, am_run (D + 2) 78 lxA hx none hx' ∧ am_run (D + 2) 214 lm1 hm (some (.int mr)) hm' ∧ JP t n so on na vis oM agM cnM fnM hx hm hx' hm' q C P N F k o m ltx ltm mr := by
  obtain ⟨e, rfl⟩ : ∃ e, D = e + 10 := ⟨D - 10, by omega⟩
  obtain ⟨⟨lnx, lpx, X, LX0⟩, ⟨lnm, lpm, Y, LM0⟩, Gv, KX, KM, KR, hC, hP, hmk, hk, ho, hq, hn⟩ := J
  unfold lxA lm1
  have hqn : q < n := lx_K_lt (by rw [hK]; decide)
  have S := X.1
  have tk : am_I hx 302 2 = nI (lx_K t n q) := x_tok X
  rw [hK] at tk
  obtain ⟨h2, r2, X2, F2⟩ := x_tellOpen (d := e + 9) X
  have S2 := X2.1
  obtain ⟨h5, r5, X5, F5⟩ := x_adv (d := e + 8) (v1 := none) X2
  have S5 := X5.1
  have F05 := XF_trans F2 F5
  have Wx : ∀ Q, am_J (e + 12) 78 0 [some (.ref 301)] [] hx Q ↔ am_J (e + 10) 77 0 [some (.ref 301), some (.int (nI 0)), none, none, none, none, none] [] h5 (fun r h' => am_J (e + 11) 83 16 [some (.ref 301)] (r.toList ++ []) h' (fun r h' => am_J (e + 12) 78 75 [some (.ref 301)] (r.toList ++ []) h' Q)) := by
    intro Q
    rw [g78_0, g78_1 S, g78_4 S, tk, g78_7_40]
    simp (disch := first | with_reducible assumption | omega | exact Or.inl rfl | exact Or.inr rfl | exact bI_01 | exact c_cat | exact vt_ref | exact vt_null | rfl | with_reducible repeat (first | assumption | omega | apply S_I | apply S_L | apply S_D | apply ob_I | apply ob_L | apply ob_D | apply ob_R | apply ax_I | apply ax_L | apply ax_D | apply ax_R | apply o303 | apply o307 | apply o302 | apply o301 | apply ax304 | apply ax305 | apply ax306 | apply ax308 | apply ax309 | apply ax310 | apply lt_S | apply ar305 | apply ar308 | apply ar309)) only [g78_71, g78_72, g83_0, g83_1, g83_4, g83_5, g83_8, g83_11, g83_12, g83_13, Option.toList, List.nil_append, List.cons_append, va_rf, r2 _, r5 _]
  have tail : ∀ (h : am_H) (md : Nat ⊕ (Nat × Nat)) C' P' N' F' k' o' ln lp, PX h t n md C' P' N' F' k' o' ln lp → ∃ h', (∀ Q, am_J (e + 11) 83 16 [some (.ref 301)] [] h (fun r h' => am_J (e + 12) 78 75 [some (.ref 301)] (r.toList ++ []) h' Q) ↔ Q none h') ∧ XF h h' ∧ PX h' t n (mpass t n md 41) C' P' N' F' k' (o' - nI 1) ln lp := by
    intro h md C' P' N' F' k' o' ln lp X'
    have S' := X'.1
    obtain ⟨g1, p1, Y1, G1⟩ := x_expect (d := e + 7) X' (c := 41) (by decide)
    have S1' := Y1.1
    have eo := Y1.2.2.2.2.2.2.2.2.1
    refine ⟨am_setI g1 301 10 (o' - nI 1), fun Q => ?_, XF_trans G1 (XF_I XF_refl (by omega)), PX_o Y1⟩
    simp (disch := first | with_reducible assumption | omega | exact Or.inl rfl | exact Or.inr rfl | exact bI_01 | exact c_cat | exact vt_ref | exact vt_null | rfl | with_reducible repeat (first | assumption | omega | apply S_I | apply S_L | apply S_D | apply ob_I | apply ob_L | apply ob_D | apply ob_R | apply ax_I | apply ax_L | apply ax_D | apply ax_R | apply o303 | apply o307 | apply o302 | apply o301 | apply ax304 | apply ax305 | apply ax306 | apply ax308 | apply ax309 | apply ax310 | apply lt_S | apply ar305 | apply ar308 | apply ar309)) only [g83_16, g83_17, g83_19, g83_22, g83_23, g83_24, g83_27, g83_28, g83_29, g83_32, g78_75, g78_179, Option.toList, List.nil_append, List.cons_append, va_rf, p1 _, eo]
  obtain ⟨SM, GM, TM, ⟨⟨l1, l2, l3, l4⟩, lk, lq, f22, f4⟩, e1, e2, e3, e4, e5, e6⟩ := id Y
  have s45 : ∀ Q, am_J (e + 11) 205 0 [some (.ref 349), some (.int (nI 45))] [] hm Q ↔ Q (some (.int (nI 0))) hm := fun Q => by rw [m_sign Y (by decide), show decide (mdK t n (.inl q) = mcode 45) = false from decide_eq_false (by show ¬ lx_K t n q = 45; omega)]; rfl
  have s40 : ∀ Q, am_J (e + 11) 205 0 [some (.ref 349), some (.int (nI 40))] [] hm Q ↔ Q (some (.int (nI 1))) hm := fun Q => by rw [m_sign Y (by decide), show decide (mdK t n (.inl q) = mcode 40) = true from decide_eq_true hK]; rfl
  obtain ⟨m1, p1, Y1, G1⟩ := m_opens (d := e + 10) Y
  rw [nI_add] at Y1
  have SM1 := Y1.1
  obtain ⟨m2, p2, Y2, G2⟩ := m_nx (d := e + 8) (v1 := none) Y1
  have SM2 := Y2.1
  have G02 := MF_trans G1 G2 (Nat.le_refl _)
  have Wm : ∀ Q, am_J (e + 12) 214 0 [some (.ref 349), none] [] hm Q ↔ am_J (e + 11) 211 0 [some (.ref 349), none, none, none] [] m2 (fun r h' => am_J (e + 12) 214 114 [some (.ref 349), none] (r.toList ++ []) h' Q) := by
    intro Q
    rw [g214_0, g214_1 SM, g214_4, f22]
    simp (disch := first | with_reducible assumption | omega | exact Or.inl rfl | exact Or.inr rfl | exact bI_01 | exact c_cat | exact vt_ref | exact vt_null | rfl | with_reducible repeat (first | assumption | omega | apply S_I | apply S_L | apply S_D | apply ob_I | apply ob_L | apply ob_D | apply ob_R | apply ax_I | apply ax_L | apply ax_D | apply ax_R | apply o303 | apply o307 | apply o302 | apply o301 | apply ax304 | apply ax305 | apply ax306 | apply ax308 | apply ax309 | apply ax310 | apply lt_S | apply ar305 | apply ar308 | apply ar309)) only [g214_9, g214_10, g214_12, g214_15, g214_93, g214_94, g214_96, g214_99, g214_102, g214_103, g214_106, g214_107, g214_110, g214_111, Option.toList, List.nil_append, List.cons_append, va_rf, nI_ltI, nI_leI, nI_eq, nI_add, nI_sub, nI_lt0, nI_e0, nI_m1, m1_nI, Nat.reduceEqDiff, Nat.reduceLT, Nat.reduceLeDiff, Nat.reduceAdd, Nat.reduceSub, Nat.reduceMul, ↓reduceIte, eq_self, s45, s40, p1 _, p2 _]
  have mtailB : ∀ (h : am_H) y (B : BM h t n y m) (a : Int32), ∃ h', (∀ Q, am_J (e + 12) 214 114 [some (.ref 349), none] [.int a] h Q ↔ Q (some (.int a)) h') ∧ BM h' t n y m ∧ MF h h' m := by
    intro h y B a
    have SB := (bm_S B).1
    obtain ⟨g1, r1, B1, F1⟩ := bm_pass (d := e + 7) B (v := 41) (by decide)
    have SB1 := (bm_S B1).1
    obtain ⟨B2, F2⟩ := bm_o B1 (o' := am_I g1 349 26 - nI 1)
    refine ⟨_, fun Q => ?_, B2, MF_trans F1 F2 (Nat.le_refl _)⟩
    simp (disch := first | with_reducible assumption | omega | exact Or.inl rfl | exact Or.inr rfl | exact bI_01 | exact c_cat | exact vt_ref | exact vt_null | rfl | with_reducible repeat (first | assumption | omega | apply S_I | apply S_L | apply S_D | apply ob_I | apply ob_L | apply ob_D | apply ob_R | apply ax_I | apply ax_L | apply ax_D | apply ax_R | apply o303 | apply o307 | apply o302 | apply o301 | apply ax304 | apply ax305 | apply ax306 | apply ax308 | apply ax309 | apply ax310 | apply lt_S | apply ar305 | apply ar308 | apply ar309)) only [g214_114, g214_115, g214_116, g214_118, g214_121, g214_122, g214_123, g214_126, g214_127, g214_128, g214_131, g214_132, Option.toList, List.nil_append, List.cons_append, va_rf, r1 _]
  have bad : ∀ y, BX h5 t n y → BM m2 t n y m → ∃ hx' hm' mr, am_run (e + 12) 78 [some (.ref 301)] hx none hx' ∧ am_run (e + 12) 214 [some (.ref 349), none] hm (some (.int mr)) hm' ∧ JP t n so on na vis oM agM cnM fnM hx hm hx' hm' q C P N F k o m ltx ltm mr := by
    intro y B BB
    obtain ⟨h6, r6, B6, F6⟩ := bx_level (d := e + 5) B
    obtain ⟨C6, P6, N6, F6', k6, o6, ln6, lp6, X6⟩ := id B6
    obtain ⟨h7, W7, F7, X7⟩ := tail h6 _ _ _ _ _ _ _ _ _ X6
    rw [show mpass t n (.inr y) 41 = .inr y from if_neg (show ¬ 263 = 41 by decide)] at X7
    obtain ⟨m3, W3, B3, G3⟩ := mtailB m2 y BB (nI 0)
    refine ⟨h7, m3, nI 0, fun Q => ?_, fun Q => ?_, XF_trans F05 (XF_trans F6 F7), MF_trans G02 G3 (Nat.le_refl _), Or.inl ⟨y, BX_of X7, B3⟩⟩
    · rw [Wx, r6 _]; exact W7 Q
    · rw [Wm, bm_e (d := e + 8) BB]; exact W3 Q
  by_cases co : o < 10
  · rw [xopen_good co] at X2 X5
    rw [mopen_good co] at Y1 Y2
    match hA : mdA t n (.inl q) with
    | .inr y =>
      rw [hA] at X5 Y2
      exact bad y (BX_of X5) (BM_of Y2 (Nat.le_refl _))
    | .inl q' =>
      rw [hA] at X5 Y2
      obtain ⟨g4, g5, g6⟩ := mdA_gt hqn hA
      have hq' : q' ≤ n := X5.2.2.1.2.2.1
      have Gv5 : am_Gv h5 := Gv_fr F05.1 (by unfold rX; omega) (by unfold rX; omega) (by unfold rX; omega) Gv
      obtain ⟨hx3, hm3, mr3, rx3, rm3, Fx3, Fm3, J3⟩ := Lv h5 m2 q' C P N F k (o + 1) m ltx ltm (by omega) ⟨⟨lnx, lpx, X5, LX0⟩, ⟨lnm, lpm, Y2, LM0⟩, Gv5, cfX_XF F05 KX, cfM_MF G02 KM, KR, by omega, by omega, by omega, by omega, by omega, hq', hn⟩
      unfold lxL at rx3
      unfold lm3 at rm3
      have rm3' := am_runD rm3 (show e + 10 ≤ e + 11 by omega)
      rcases J3 with ⟨y, B3, BB3⟩ | ⟨q3, C3, P3, N3, F3, k3, m3, W3, r3', lnx3, lpx3, lnm3, lpm3, ⟨c1, c2, c3, c4, c5, c6, c7, c8, c9, c10⟩, e3', X3', LX3, Y4, LM3, hW3, hR3⟩
      · obtain ⟨C6, P6, N6, F6', k6, o6, ln6, lp6, X6⟩ := id B3
        obtain ⟨h7, W7, F7, X7⟩ := tail hx3 _ _ _ _ _ _ _ _ _ X6
        rw [show mpass t n (.inr y) 41 = .inr y from if_neg (show ¬ 263 = 41 by decide)] at X7
        obtain ⟨m4, W4, B4, G4⟩ := mtailB hm3 y BB3 mr3
        refine ⟨h7, m4, mr3, fun Q => ?_, fun Q => ?_, XF_trans F05 (XF_trans Fx3 F7), MF_trans G02 (MF_trans Fm3 G4 (Nat.le_refl _)) (Nat.le_refl _), Or.inl ⟨y, BX_of X7, B4⟩⟩
        · rw [Wx, rx3 _]; exact W7 Q
        · rw [Wm, rm3' _]; exact W4 Q
      · subst e3'
        obtain ⟨h7, W7, F7, X7⟩ := tail hx3 _ _ _ _ _ _ _ _ _ X3'
        rw [nI_pred'] at X7
        have SM4 := Y4.1
        obtain ⟨m5, p5, Y5, G5⟩ := m_pass (d := e + 7) Y4 (v := 41) (by decide)
        have SM5 := Y5.1
        have eo := Y5.2.2.2.2.2.1
        have Y6 := MX_o (o' := nI o) Y5
        have G6 : MF hm3 (am_setI m5 349 26 (nI o)) m3 := MF_trans G5 (MF_I MF_refl (by omega)) (Nat.le_refl _)
        have rm : ∀ Q, am_J (e + 12) 214 0 [some (.ref 349), none] [] hm Q ↔ Q (some (.int (nI r3'))) (am_setI m5 349 26 (nI o)) := fun Q => by
          rw [Wm, rm3' _]
          simp (disch := first | with_reducible assumption | omega | exact Or.inl rfl | exact Or.inr rfl | exact bI_01 | exact c_cat | exact vt_ref | exact vt_null | rfl | with_reducible repeat (first | assumption | omega | apply S_I | apply S_L | apply S_D | apply ob_I | apply ob_L | apply ob_D | apply ob_R | apply ax_I | apply ax_L | apply ax_D | apply ax_R | apply o303 | apply o307 | apply o302 | apply o301 | apply ax304 | apply ax305 | apply ax306 | apply ax308 | apply ax309 | apply ax310 | apply lt_S | apply ar305 | apply ar308 | apply ar309)) only [g214_114, g214_115, g214_116, g214_118, g214_121, g214_122, g214_123, g214_126, g214_127, g214_128, g214_131, g214_132, Option.toList, List.nil_append, List.cons_append, va_rf, p5 _, eo, nI_pred']
        have rx : ∀ Q, am_J (e + 12) 78 0 [some (.ref 301)] [] hx Q ↔ Q none h7 := fun Q => by
          rw [Wx, rx3 _]; exact W7 Q
        match hB : mpass t n (.inl q3) 41 with
        | .inr y =>
          rw [hB] at X7 Y6
          exact ⟨h7, _, nI r3', rx, rm, XF_trans F05 (XF_trans Fx3 F7), MF_trans G02 (MF_trans Fm3 G6 c4) (Nat.le_refl _), Or.inl ⟨y, BX_of X7, BM_of Y6 (by omega)⟩⟩
        | .inl q4 =>
          rw [hB] at X7 Y6
          have k41 : lx_K t n q3 = 41 := by
            rcases Nat.decEq (lx_K t n q3) 41 with e | e
            · unfold mpass at hB; rw [if_neg (show ¬ mdK t n (.inl q3) = 41 from e)] at hB; cases hB
            · exact e
          have hA3 : mdA t n (.inl q3) = .inl q4 := by unfold mpass at hB; rw [if_pos (show mdK t n (.inl q3) = 41 from k41)] at hB; exact hB
          obtain ⟨i1, i2, i3⟩ := mdA_gt (lx_K_lt (by rw [k41]; decide)) hA3
          refine ⟨h7, _, nI r3', rx, rm, XF_trans F05 (XF_trans Fx3 F7), MF_trans G02 (MF_trans Fm3 G6 c4) (Nat.le_refl _), Or.inr ⟨q4, C3, P3, N3, F3, k3, m3, W3, r3', lnx3, lpx3, lnm3, lpm3, ⟨by omega, by omega, c3, by omega, by omega, by omega, by omega, by omega, by omega, by omega⟩, rfl, X7, LX3, Y6, LM3, (fun z ez => by have := hW3 z ez; omega), fun ez => ?_⟩⟩
          obtain ⟨D2, E2, L2, G2', R2', v1', v2', v3', v4'⟩ := hR3 ez
          exact ⟨D2, E2, L2, G2', ⟨Rp_mono (M := m3) (Nat.le_refl _) (fun i hi => tb_same G6 hi) (by omega) R2'.1, NC_T R2'.2 (fun i hi => tb_same G6 hi)⟩, v1', v2', v3', v4'⟩
  · obtain rfl : o = 10 := by omega
    rw [xopen_bad] at X2 X5
    rw [mopen_bad] at Y1 Y2
    exact bad (3, q) (BX_of X5) (BM_of Y2 (Nat.le_refl _))
end JMN

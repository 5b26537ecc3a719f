/-! BOTH: the pieces of a function's head around its arguments -/
section FHP
variable {d : Nat} {h g : am_H} {Q : Option Value → am_H → Prop} {w1 v2 : Option Value} {t : Nat → Nat} {n s nc nf : Nat} {x y : Int64} {cnX fnX cnM fnM ag : Nat → Int64} {fnA : Nat → Nat} {md : Nat ⊕ (Nat × Nat)} {C : List (Int32 × Int64)} {P : List Int32} {N : List Nat} {F k o ln lp wn wp p : Int32}
theorem bX_frF (B : bX h s nc nf cnX fnX fnA) (Fr : am_fr rX (am_setR h 302 0 (some 5)) g) : bX g s nc nf cnX fnX fnA := by
  obtain ⟨b1, b2, b3, b4, b5, b6⟩ := B
  refine ⟨b1, b2, b3, ?_, fun i hi => ?_, fun i hi => ⟨fun hi2 => ?_, fun hi2 => ?_⟩⟩
  · rw [fr_rdI Fr (by unfold rX; omega), hI_R]; exact b4
  · obtain ⟨e, h1, h2', h3, h4⟩ := b5 i hi
    refine ⟨e, h1, ?_, fr_ob Fr (ob_R h3), ?_⟩
    · rw [fr_rdR Fr, hR_R, if_neg (by omega)]; exact h2'
    · rw [fr_rdL Fr (by unfold rX; omega), hL_R]; exact h4
  · obtain ⟨e, h1, h2', h3, h4, h5⟩ := (b6 i hi).1 hi2
    refine ⟨e, h1, ?_, fr_ob Fr (ob_R h3), ?_, ?_⟩
    · rw [fr_rdR Fr, hR_R, if_neg (by decide)]; exact h2'
    · rw [fr_rdL Fr (by unfold rX; omega), hL_R]; exact h4
    · rw [fr_rdI Fr (by unfold rX; omega), hI_R]; exact h5
  · rw [fr_rdR Fr, hR_R, if_neg (by decide)]; exact (b6 i hi).2 hi2
theorem bX_fr0 (B : bX h s nc nf cnX fnX fnA) (Fr : am_fr rX h g) : bX g s nc nf cnX fnX fnA := by
  obtain ⟨b1, b2, b3, b4, b5, b6⟩ := B
  refine ⟨b1, b2, b3, ?_, fun i hi => ?_, fun i hi => ⟨fun hi2 => ?_, fun hi2 => ?_⟩⟩
  · rw [fr_rdI Fr (by unfold rX; omega)]; exact b4
  · obtain ⟨e, h1, h2', h3, h4⟩ := b5 i hi
    refine ⟨e, h1, ?_, fr_ob Fr h3, ?_⟩
    · rw [fr_rdR Fr]; exact h2'
    · rw [fr_rdL Fr (by unfold rX; omega)]; exact h4
  · obtain ⟨e, h1, h2', h3, h4, h5⟩ := (b6 i hi).1 hi2
    refine ⟨e, h1, ?_, fr_ob Fr h3, ?_, ?_⟩
    · rw [fr_rdR Fr]; exact h2'
    · rw [fr_rdL Fr (by unfold rX; omega)]; exact h4
    · rw [fr_rdI Fr (by unfold rX; omega)]; exact h5
  · rw [fr_rdR Fr]; exact (b6 i hi).2 hi2
/-- the class, up to the first argument -/
theorem x_fhead1 (S : am_S h) (G : am_Gv h) (T : tX h t n) {cc : Nat} (hcc : cc < 256) (h7 : am_I h 302 7 = nI cc) : ∃ h1 md2 x p, (∀ Q, am_J (d + 5) 108 0 [some (.ref 301), some (.ref 5), none] [] h Q ↔ am_J (d + 5) 108 28 [some (.ref 301), some (.ref 5), some (.int p)] [] h1 Q) ∧ am_fr rX (am_setR h 302 0 (some 5)) h1 ∧ mdN t n (md1 t n) md2 x ∧ PX h1 t n (mpass t n md2 40) [] [] [] (nI 0) (nI 0) (nI 0) (nI 0) (-1) ∧ am_I h1 301 5 = nI 2 ∧ am_I h1 301 4 = nI 0 ∧ am_L h1 301 8 = x ∧ ∀ q, md1 t n = .inl q → p = nI q := by
  obtain ⟨h1, r1, Fr, X, e5, e4, e8, e9⟩ := x_begin (d := d) S T hcc h7 (so := 2)
  have S1 := X.1
  have G1 : am_Gv h1 := Gv_fr Fr (by unfold rX; omega) (by unfold rX; omega) (by unfold rX; omega) (Gv_R G (by decide))
  obtain ⟨g2, md2, x, r2, X2, F2, hN⟩ := x_plain (d := d + 1) X G1
  have S2 := X2.1
  have X3 : PX (am_setL g2 301 8 x) t n md2 [] [] [] (nI 0) (nI 0) (nI 0) (nI 0) (-1) := PX_fr301 (fr_L fr_refl rfl) X2 X2.2.2.2.2.2.2.2.2.1 X2.2.2.2.2.2.2.2.2.2.1 X2.2.2.2.2.2.2.2.2.2.2
  have S3 := X3.1
  obtain ⟨g4, r4, X4, F4⟩ := x_expect (d := d + 1) X3 (c := 40) (by decide)
  obtain ⟨p, ep⟩ : ∃ p, p = am_I h1 302 3 := ⟨_, rfl⟩
  refine ⟨g4, md2, x, p, fun Q => ?_, fr_trans Fr (fr_trans F2.1 (fr_trans (fr_L fr_refl (by unfold rX; omega)) F4.1)), hN, X4, ?_, ?_, ?_, fun q eq => ?_⟩
  · simp (disch := first | with_reducible assumption | omega | exact Or.inl rfl | exact Or.inr rfl | exact bI_01 | exact c_cat | exact vt_ref | exact vt_null | rfl | with_reducible repeat (first | assumption | omega | apply S_I | apply S_L | apply S_D | apply ob_I | apply ob_L | apply ob_D | apply ob_R | apply ax_I | apply ax_L | apply ax_D | apply ax_R | apply o303 | apply o307 | apply o302 | apply o301 | apply ax304 | apply ax305 | apply ax306 | apply ax308 | apply ax309 | apply ax310 | apply lt_S | apply ar305 | apply ar308 | apply ar309)) only [g108_0, g108_1, g108_2, g108_3, g108_6, g108_7, g108_10, g108_13, g108_14, g108_15, g108_16, g108_19, g108_22, g108_23, g108_25, Option.toList, List.nil_append, List.cons_append, va_rf, nI_ltI, nI_leI, nI_eq, nI_add, nI_sub, nI_lt0, nI_e0, nI_m1, m1_nI, Nat.reduceEqDiff, Nat.reduceLT, Nat.reduceLeDiff, Nat.reduceAdd, Nat.reduceSub, Nat.reduceMul, ↓reduceIte, eq_self, ← ep, r1 _, r2 _, r4 _]
  · rw [F4.2.1 5 (by decide), hI_L, F2.2.1 5 (by decide)]; exact e5
  · rw [F4.2.1 4 (by decide), hI_L, F2.2.1 4 (by decide)]; exact e4
  · rw [F4.2.2.1 8, rL_eq]
  · rw [eq] at X; rw [ep]; exact X.2.2.1.1.2.2.1
/-- the class, behind the arguments -/
theorem x_ftail (X : PX h t n md C P N F k o ln lp) (B : bX h s nc nf cnX fnX fnA) (A : ∀ i, i < nf → fnA i ≤ 3) {na : Nat} (hna : na ≤ 3) (e4 : am_I h 301 4 = nI na) (e8 : am_L h 301 8 = x) : ∃ h', (∀ Q, am_J (d + 5) 108 66 [some (.ref 301), w1, some (.int p)] [] h Q ↔ am_J (d + 5) 108 83 [some (.ref 301), w1, some (.int p)] [] h' Q) ∧ PX h' t n (mpass t n (mpass t n md 41) 61) C P N F k o (if fdI fnX x nf < nf ∧ fnA (fdI fnX x nf) ≠ na then (xlat ln lp (nI 5) p).1 else ln) (if fdI fnX x nf < nf ∧ fnA (fdI fnX x nf) ≠ na then (xlat ln lp (nI 5) p).2 else lp) ∧ am_fr rX h h' ∧ am_I h' 301 9 = nI (fdI fnX x nf) ∧ (∀ k, k ≤ 8 → am_I h' 301 k = am_I h 301 k) ∧ (∀ k, am_L h' 301 k = am_L h 301 k) ∧ ∀ k, am_L h' 310 k = am_L h 310 k := by
  have S := X.1
  obtain ⟨h1, r1, X1, F1⟩ := x_expect (d := d + 1) X (c := 41) (by decide)
  obtain ⟨h2, r2, X2, F2⟩ := x_expect (d := d + 1) X1 (c := 61) (by decide)
  have F12 := XF_trans F1 F2
  obtain ⟨b1, b2, b3, b4, b5, b6⟩ := bX_fr0 B F12.1
  obtain ⟨h3, r3, X3, F3, e9, k3, l3, l310⟩ := x_ownNumber (d := d + 3) (p := p) (x := x) X2 b3 b6 A hna (by rw [F12.2.1 4 (by decide)]; exact e4) (by rw [F12.2.2.1 8]; exact e8)
  have S1 := X1.1
  have S2 := X2.1
  refine ⟨h3, fun Q => ?_, X3, fr_trans F12.1 F3, e9, fun k hk => (k3 k hk).trans (F12.2.1 k (by omega)), fun k => (l3 k).trans (F12.2.2.1 k), fun k => (l310 k).trans (F12.2.2.2 k)⟩
  simp (disch := first | with_reducible assumption | omega | exact Or.inl rfl | exact Or.inr rfl | exact bI_01 | exact c_cat | exact vt_ref | exact vt_null | rfl | with_reducible repeat (first | assumption | omega | apply S_I | apply S_L | apply S_D | apply ob_I | apply ob_L | apply ob_D | apply ob_R | apply ax_I | apply ax_L | apply ax_D | apply ax_R | apply o303 | apply o307 | apply o302 | apply o301 | apply ax304 | apply ax305 | apply ax306 | apply ax308 | apply ax309 | apply ax310 | apply lt_S | apply ar305 | apply ar308 | apply ar309)) only [g108_66, g108_67, g108_69, g108_72, g108_73, g108_75, g108_78, g108_79, g108_80, Option.toList, List.nil_append, List.cons_append, va_rf, nI_ltI, nI_leI, nI_eq, nI_add, nI_sub, nI_lt0, nI_e0, nI_m1, m1_nI, Nat.reduceEqDiff, Nat.reduceLT, Nat.reduceLeDiff, Nat.reduceAdd, Nat.reduceSub, Nat.reduceMul, ↓reduceIte, eq_self, r1 _, r2 _, r3 _]
/-- the model, up to the first argument -/
theorem m_fhead1 (Y : MX h t n md k (nI 0) 0 wn wp) (e28 : am_I h 349 28 = nI 1) : ∃ h', MH h h' ∧ am_I h' 349 31 = am_I h 349 31 ∧ ((∃ q q0, md = .inl q ∧ lx_K t n q = 258 ∧ lx_wd t n q = 12 ∧ mdA t n md = .inl q0 ∧ lx_K t n q0 = 40 ∧ (∀ Q, am_J (d + 8) 200 0 [some (.ref 349), none, none] [] h Q ↔ am_J (d + 8) 200 63 [some (.ref 349), some (.int (nI q)), none] [] h' Q) ∧ MX h' t n (.inl q0) k (nI 1) 0 wn wp ∧ am_L h' 349 32 = lN (lx_w 32 96 t q (lx_E t n q - q))) ∨ ((∀ Q, am_J (d + 8) 200 0 [some (.ref 349), none, none] [] h Q ↔ Q none h') ∧ ((¬ isNm t n md ∧ MX h' t n (mdR 2 md) k (nI 0) 0 wn wp) ∨ (isNm t n md ∧ mdK t n (mdA t n md) ≠ 40 ∧ MX h' t n (mdR 2 (mdA t n md)) k (nI 0) 0 wn wp)))) := by
  have S := Y.1
  match md, Y with
  | .inr y, Y =>
    have BB := BM_of Y (Nat.le_refl 0)
    obtain ⟨b, Wn⟩ := bm_isName (d := d + 1) BB
    have hb : ∃ h1, am_run (d + 7) 203 [some (.ref 349), some (.int (bI b))] h none h1 ∧ MX h1 t n (.inr y) k (nI 0) 0 wn wp ∧ MF h h1 0 := by
      cases b with
      | true => exact ⟨h, fun Q => m_needT S, Y, MF_refl⟩
      | false =>
        obtain ⟨h1, r1, Y1, F1⟩ := m_needF (d := d + 6) Y
        exact ⟨h1, r1, Y1, F1⟩
    obtain ⟨h1, r1, Y1, F1⟩ := hb
    obtain ⟨S1, f1, f10, f1h, f1e⟩ := bm_S (BM_of Y1 (Nat.le_refl 0))
    refine ⟨h1, MH_of F1, F1.2.1 31 (by omega), Or.inr ⟨fun Q => ?_, Or.inl ⟨fun e => e, Y1⟩⟩⟩
    simp (disch := first | with_reducible assumption | omega | exact Or.inl rfl | exact Or.inr rfl | exact bI_01 | exact c_cat | exact vt_ref | exact vt_null | rfl | with_reducible repeat (first | assumption | omega | apply S_I | apply S_L | apply S_D | apply ob_I | apply ob_L | apply ob_D | apply ob_R | apply ax_I | apply ax_L | apply ax_D | apply ax_R | apply o303 | apply o307 | apply o302 | apply o301 | apply ax304 | apply ax305 | apply ax306 | apply ax308 | apply ax309 | apply ax310 | apply lt_S | apply ar305 | apply ar308 | apply ar309)) only [g200_0, g200_1, g200_2, g200_5, g200_8, g200_9, g200_12, g200_15, Option.toList, List.nil_append, List.cons_append, va_rf, nI_ltI, nI_leI, nI_eq, nI_add, nI_sub, nI_lt0, nI_e0, nI_m1, m1_nI, Nat.reduceEqDiff, Nat.reduceLT, Nat.reduceLeDiff, Nat.reduceAdd, Nat.reduceSub, Nat.reduceMul, ↓reduceIte, eq_self, Wn, r1 _, f1e, f10]
  | .inl q, Y =>
    obtain ⟨⟨m1', m2', m3', m4'⟩, mk, mq, f22, f4⟩ := Y.2.2.2.1
    have nm := fun Q => m_isName (d := d + 1) (Q := Q) Y
    by_cases c : lx_K t n q = 258 ∧ lx_wd t n q = 12
    · rw [decide_eq_true c] at nm
      obtain ⟨a1, a2, a3, a4, a5⟩ := lx_name c.1
      have nh := fun Q => m_nameHere (d := d + 7) (Q := Q) (v1 := none) (v2 := none) (v3 := none) Y (fun j h1 h2 => (isL_of (a5 j h1 h2)).1) (Nat.le_of_lt a2)
      generalize ey : lN (lx_w 32 96 t q (lx_E t n q - q)) = y at nh ⊢
      have Y1 : MX (am_setL h 349 32 y) t n (.inl q) k (nI 0) 0 wn wp := MX_fr349 (fr_L fr_refl rfl) (fun j hj => rfl) Y
      have S1 := Y1.1
      obtain ⟨h2, r2, Y2, F2⟩ := m_nx (d := d + 4) (v1 := none) Y1
      have S2 := Y2.1
      have H2 : MH h h2 := MH_trans MH_L (MH_of F2)
      have e31' : am_I h2 349 31 = am_I h 349 31 := F2.2.1 31 (by omega)
      have e2 : am_L h2 349 32 = y := by rw [F2.2.2.1 32]; simp only [hI_I, hI_L, hI_D, hI_R, hL_I, hL_L, hL_D, hL_R, hD_I, hD_L, hD_D, hD_R, hR_I, hR_L, hR_D, ↓reduceIte, Nat.reduceEqDiff]
      have e28' : am_I h2 349 28 = nI 1 := by rw [H2.2.1 28 (by omega)]; exact e28
      have sg := fun Q => m_sign (d := d + 7) (Q := Q) Y2 (v := 40) (by decide)
      rw [show mcode 40 = 40 from rfl] at sg
      by_cases c4 : mdK t n (mdA t n (.inl q)) = 40
      · rw [decide_eq_true c4] at sg
        obtain ⟨q0, eq0, hK0⟩ := mdK_sign (by decide) c4
        rw [eq0] at Y2
        have f22' := Y2.2.2.2.1.2.2.2.1
        obtain ⟨h3, r3, Y3, F3⟩ := m_opens (d := d + 6) Y2
        rw [show mopen (.inl q0) (nI 0) = .inl q0 from if_neg (by decide), show nI 0 + nI 1 = nI 1 from by decide] at Y3
        refine ⟨h3, MH_trans H2 (MH_of F3), (F3.2.1 31 (by omega)).trans e31', Or.inl ⟨q, q0, rfl, c.1, c.2, eq0, hK0, fun Q => ?_, Y3, by rw [F3.2.2.1 32, ey]; exact e2⟩⟩
        simp (disch := first | with_reducible assumption | omega | exact Or.inl rfl | exact Or.inr rfl | exact bI_01 | exact c_cat | exact vt_ref | exact vt_null | rfl | with_reducible repeat (first | assumption | omega | apply S_I | apply S_L | apply S_D | apply ob_I | apply ob_L | apply ob_D | apply ob_R | apply ax_I | apply ax_L | apply ax_D | apply ax_R | apply o303 | apply o307 | apply o302 | apply o301 | apply ax304 | apply ax305 | apply ax306 | apply ax308 | apply ax309 | apply ax310 | apply lt_S | apply ar305 | apply ar308 | apply ar309)) only [g200_0, g200_1, g200_2, g200_5, g200_8, g200_9, g200_12, g200_15, g200_16, g200_17, g200_18, g200_21, g200_24, g200_25, g200_28, g200_29, g200_30, g200_33, g200_34, g200_37, g200_38, g200_41, g200_42, g200_43, g200_45, g200_48, g200_51, g200_52, g200_55, g200_58, g200_59, g200_60, Option.toList, List.nil_append, List.cons_append, va_rf, nI_ltI, nI_leI, nI_eq, nI_add, nI_sub, nI_lt0, nI_e0, nI_m1, m1_nI, Nat.reduceEqDiff, Nat.reduceLT, Nat.reduceLeDiff, Nat.reduceAdd, Nat.reduceSub, Nat.reduceMul, ↓reduceIte, eq_self, hI_I, hI_L, hI_D, hI_R, hL_I, hL_L, hL_D, hL_R, hD_I, hD_L, hD_D, hD_R, hR_I, hR_L, hR_D, ↓reduceIte, Nat.reduceEqDiff, nm _, m_needT, f22, nh _, m3', r2 _, e28', sg _, f22', r3 _]
      · rw [decide_eq_false c4] at sg
        obtain ⟨h3, r3, Y3, F3⟩ := m_needF (d := d + 6) Y2
        obtain ⟨y', ey'⟩ := mdR_inr (f := 2) (md := mdA t n (.inl q))
        have Y3' := Y3
        rw [ey'] at Y3'
        obtain ⟨S3, f1, f10, f1h, f1e⟩ := bm_S (BM_of Y3' (Nat.le_refl 0))
        refine ⟨h3, MH_trans H2 (MH_of F3), (F3.2.1 31 (by omega)).trans e31', Or.inr ⟨fun Q => ?_, Or.inr ⟨c, c4, Y3⟩⟩⟩
        simp (disch := first | with_reducible assumption | omega | exact Or.inl rfl | exact Or.inr rfl | exact bI_01 | exact c_cat | exact vt_ref | exact vt_null | rfl | with_reducible repeat (first | assumption | omega | apply S_I | apply S_L | apply S_D | apply ob_I | apply ob_L | apply ob_D | apply ob_R | apply ax_I | apply ax_L | apply ax_D | apply ax_R | apply o303 | apply o307 | apply o302 | apply o301 | apply ax304 | apply ax305 | apply ax306 | apply ax308 | apply ax309 | apply ax310 | apply lt_S | apply ar305 | apply ar308 | apply ar309)) only [g200_0, g200_1, g200_2, g200_5, g200_8, g200_9, g200_12, g200_15, g200_16, g200_17, g200_18, g200_21, g200_24, g200_25, g200_28, g200_29, g200_30, g200_33, g200_34, g200_37, g200_38, g200_41, g200_42, g200_43, g200_45, g200_48, g200_51, g200_52, g200_55, g200_58, Option.toList, List.nil_append, List.cons_append, va_rf, nI_ltI, nI_leI, nI_eq, nI_add, nI_sub, nI_lt0, nI_e0, nI_m1, m1_nI, Nat.reduceEqDiff, Nat.reduceLT, Nat.reduceLeDiff, Nat.reduceAdd, Nat.reduceSub, Nat.reduceMul, ↓reduceIte, eq_self, hI_I, hI_L, hI_D, hI_R, hL_I, hL_L, hL_D, hL_R, hD_I, hD_L, hD_D, hD_R, hR_I, hR_L, hR_D, ↓reduceIte, Nat.reduceEqDiff, nm _, m_needT, f22, nh _, m3', r2 _, e28', sg _, r3 _, f1e, f10]
    · rw [decide_eq_false c] at nm
      obtain ⟨h1, r1, Y1, F1⟩ := m_needF (d := d + 6) Y
      obtain ⟨S1, f1, f10, f1h, f1e⟩ := bm_S (BM_of Y1 (Nat.le_refl 0))
      refine ⟨h1, MH_of F1, F1.2.1 31 (by omega), Or.inr ⟨fun Q => ?_, Or.inl ⟨c, Y1⟩⟩⟩
      simp (disch := first | with_reducible assumption | omega | exact Or.inl rfl | exact Or.inr rfl | exact bI_01 | exact c_cat | exact vt_ref | exact vt_null | rfl | with_reducible repeat (first | assumption | omega | apply S_I | apply S_L | apply S_D | apply ob_I | apply ob_L | apply ob_D | apply ob_R | apply ax_I | apply ax_L | apply ax_D | apply ax_R | apply o303 | apply o307 | apply o302 | apply o301 | apply ax304 | apply ax305 | apply ax306 | apply ax308 | apply ax309 | apply ax310 | apply lt_S | apply ar305 | apply ar308 | apply ar309)) only [g200_0, g200_1, g200_2, g200_5, g200_8, g200_9, g200_12, g200_15, Option.toList, List.nil_append, List.cons_append, va_rf, nI_ltI, nI_leI, nI_eq, nI_add, nI_sub, nI_lt0, nI_e0, nI_m1, m1_nI, Nat.reduceEqDiff, Nat.reduceLT, Nat.reduceLeDiff, Nat.reduceAdd, Nat.reduceSub, Nat.reduceMul, ↓reduceIte, eq_self, nm _, r1 _, f1e, f10]
theorem m_fnOf {v3 : Option Value} (S : am_S h) (hnf : nf ≤ 8) (b8 : am_I h 349 16 = nI nf) (b9 : ∀ i, i < nf → am_L h 358 i = fnM i) : am_J d 209 0 [some (.ref 349), some (.long y), none, v3] [] h Q ↔ Q (some (.int (xI nf (fdI fnM y nf)))) h := by
  have L : ∀ r i, nf - i = r → i ≤ nf → (am_J d 209 2 [some (.ref 349), some (.long y), none, some (.int (nI i))] [] h Q ↔ Q (some (.int (xI nf (am_scan (fun i => !decide (fnM i = y)) nf i)))) h) := by
    intro r
    induction r with
    | zero =>
      intro i hr hi
      obtain rfl : i = nf := by omega
      rw [scan_stop (fun q => absurd q.1 (Nat.lt_irrefl _)), g209_2]
      simp (disch := first | with_reducible assumption | omega | exact Or.inl rfl | exact Or.inr rfl | exact bI_01 | exact c_cat | exact vt_ref | exact vt_null | rfl | with_reducible repeat (first | assumption | omega | apply S_I | apply S_L | apply S_D | apply ob_I | apply ob_L | apply ob_D | apply ob_R | apply ax_I | apply ax_L | apply ax_D | apply ax_R | apply o303 | apply o307 | apply o302 | apply o301 | apply ax304 | apply ax305 | apply ax306 | apply ax308 | apply ax309 | apply ax310 | apply lt_S | apply ar305 | apply ar308 | apply ar309)) only [g209_3, g209_4, g209_7, g209_10, g209_11, g209_14, g209_15, g209_16, g209_17, g209_18, g209_21, g209_22, g209_23, g209_26, g209_29, g209_30, b8, nI_ltI, nI_leI, nI_eq, nI_add, nI_sub, nI_lt0, nI_e0, nI_m1, m1_nI, Nat.reduceEqDiff, Nat.reduceLT, Nat.reduceLeDiff, Nat.reduceAdd, Nat.reduceSub, Nat.reduceMul, ↓reduceIte, eq_self, Nat.le_refl, xI, Nat.lt_irrefl]
    | succ r ih =>
      intro i hr hi
      have e := b9 i (by omega)
      rw [g209_2]
      by_cases c : fnM i = y
      · rw [scan_stop (fun q => by simp [c] at q)]
        simp (disch := first | with_reducible assumption | omega | exact Or.inl rfl | exact Or.inr rfl | exact bI_01 | exact c_cat | exact vt_ref | exact vt_null | rfl | with_reducible repeat (first | assumption | omega | apply S_I | apply S_L | apply S_D | apply ob_I | apply ob_L | apply ob_D | apply ob_R | apply ax_I | apply ax_L | apply ax_D | apply ax_R | apply o303 | apply o307 | apply o302 | apply o301 | apply ax304 | apply ax305 | apply ax306 | apply ax308 | apply ax309 | apply ax310 | apply lt_S | apply ar305 | apply ar308 | apply ar309)) only [g209_3, g209_4, g209_7, g209_10, g209_11, g209_14, g209_15, g209_16, g209_17, g209_18, g209_21, g209_22, g209_23, g209_26, g209_29, g209_30, b8, nI_ltI, nI_leI, nI_eq, nI_add, nI_sub, nI_lt0, nI_e0, nI_m1, m1_nI, Nat.reduceEqDiff, Nat.reduceLT, Nat.reduceLeDiff, Nat.reduceAdd, Nat.reduceSub, Nat.reduceMul, ↓reduceIte, eq_self, show ¬ nf ≤ i by omega, e, c, lg_cmp0, xI, show i < nf by omega]
      · rw [scan_step (by omega) (by simp [c]), ← ih (i + 1) (by omega) (by omega)]
        simp (disch := first | with_reducible assumption | omega | exact Or.inl rfl | exact Or.inr rfl | exact bI_01 | exact c_cat | exact vt_ref | exact vt_null | rfl | with_reducible repeat (first | assumption | omega | apply S_I | apply S_L | apply S_D | apply ob_I | apply ob_L | apply ob_D | apply ob_R | apply ax_I | apply ax_L | apply ax_D | apply ax_R | apply o303 | apply o307 | apply o302 | apply o301 | apply ax304 | apply ax305 | apply ax306 | apply ax308 | apply ax309 | apply ax310 | apply lt_S | apply ar305 | apply ar308 | apply ar309)) only [g209_3, g209_4, g209_7, g209_10, g209_11, g209_14, g209_15, g209_16, g209_17, g209_18, g209_21, g209_22, g209_23, g209_26, g209_29, g209_30, b8, nI_ltI, nI_leI, nI_eq, nI_add, nI_sub, nI_lt0, nI_e0, nI_m1, m1_nI, Nat.reduceEqDiff, Nat.reduceLT, Nat.reduceLeDiff, Nat.reduceAdd, Nat.reduceSub, Nat.reduceMul, ↓reduceIte, eq_self, show ¬ nf ≤ i by omega, e, c, lg_cmp0]
  rw [g209_0, g209_1, L nf 0 (by omega) (by omega)]
  rfl
/-- the model, behind the arguments -/
theorem m_ftail (Y : MX h t n md k (nI 1) 0 wn wp) (hnf : nf ≤ 8) (b8 : am_I h 349 16 = nI nf) (b9 : ∀ i, i < nf → am_L h 358 i = fnM i ∧ am_I h 361 i = nI (fnA i)) (A : ∀ i, i < nf → fnA i ≤ 3) {na : Nat} (hna : na ≤ 3) (e31 : am_I h 349 31 = nI na) (e32 : am_L h 349 32 = y) : ∃ h', (∀ Q, am_J (d + 8) 200 196 [some (.ref 349), some (.int p), v2] [] h Q ↔ Q none h') ∧ MX h' t n (mpass t n (mpass t n md 41) 61) k (nI 0) 0 (if fdI fnM y nf < nf ∧ fnA (fdI fnM y nf) ≠ na then (xlat wn wp (nI 5) p).1 else wn) (if fdI fnM y nf < nf ∧ fnA (fdI fnM y nf) ≠ na then (xlat wn wp (nI 5) p).2 else wp) ∧ MHF h h' ∧ am_I h' 349 30 = nI (fdI fnM y nf) ∧ am_I h' 349 31 = nI na ∧ ∀ i, am_L h' 363 i = am_L h 363 i := by
  have S := Y.1
  obtain ⟨h1, r1, Y1, F1⟩ := m_pass (d := d + 3) Y (v := 41) (by decide)
  have S1 := Y1.1
  have e26 : am_I h1 349 26 = nI 1 := Y1.2.2.2.2.2.1
  have hle : fdI fnM y nf ≤ nf := fdI_le
  have Y2 : MX (am_setI h1 349 26 (nI 0)) t n (mpass t n md 41) k (nI 0) 0 wn wp := by
    obtain ⟨z1, z2, z3, z4, z5, z6, z7, z8, z9, z10⟩ := Y1
    have Fr : am_fr (fun a => a = 349) h1 (am_setI h1 349 26 (nI 0)) := fr_I fr_refl rfl
    refine ⟨fr_S Fr z1, Gv_fr Fr (by omega) (by omega) (by omega) z2, mT_fr Fr (by omega) (rI_k (by decide)) z3, ?_, (rI_k (by decide)).trans z5, rI_eq, (rI_k (by decide)).trans z7, z8, (rI_k (by decide)).trans z9, (rI_k (by decide)).trans z10⟩
    match hB : mpass t n md 41 with
    | .inl q =>
      rw [hB] at z4
      simp only [mS, LM, rI_k (show 17 ≠ 26 by decide), rI_k (show 18 ≠ 26 by decide), rI_k (show 19 ≠ 26 by decide), rI_k (show 20 ≠ 26 by decide), rI_k (show 22 ≠ 26 by decide), rI_k (show 4 ≠ 26 by decide)] at z4 ⊢
      exact z4
    | .inr y' =>
      rw [hB] at z4
      simp only [mS, MB, rI_k (show 17 ≠ 26 by decide), rI_k (show 18 ≠ 26 by decide), rI_k (show 19 ≠ 26 by decide), rI_k (show 20 ≠ 26 by decide), rI_k (show 22 ≠ 26 by decide), rI_k (show 4 ≠ 26 by decide)] at z4 ⊢
      exact z4
  have F2 : MF h1 (am_setI h1 349 26 (nI 0)) 0 := ⟨fr_I fr_refl (Or.inl rfl), fun k hk => rI_k (by omega), fun k => rfl, fun a i h1 h2 hi => ⟨rI_a (by omega), rfl⟩⟩
  have F12 : MF h (am_setI h1 349 26 (nI 0)) 0 := MF_trans F1 F2 (Nat.le_refl _)
  generalize hg : am_setI h1 349 26 (nI 0) = g at Y2 F2 F12
  have Sg := Y2.1
  have e16 : am_I g 349 16 = nI nf := by rw [F12.2.1 16 (by omega)]; exact b8
  have e31g : am_I g 349 31 = nI na := by rw [F12.2.1 31 (by omega)]; exact e31
  have e32g : am_L g 349 32 = y := by rw [F12.2.2.1 32]; exact e32
  have b9g : ∀ i, i < nf → am_L g 358 i = fnM i ∧ am_I g 361 i = nI (fnA i) := fun i hi => ⟨by rw [fr_rdL F12.1 (by omega)]; exact (b9 i hi).1, by rw [fr_rdI F12.1 (by omega)]; exact (b9 i hi).2⟩
  have fo := fun Q => m_fnOf (d := d + 7) (Q := Q) (v3 := none) (y := y) Sg hnf e16 (fun i hi => (b9g i hi).1)
  have st : ∀ Q, am_J (d + 8) 200 196 [some (.ref 349), some (.int p), v2] [] h Q ↔ am_J (d + 8) 200 221 [some (.ref 349), some (.int p), some (.int (xI nf (fdI fnM y nf)))] [] g Q := fun Q => by
    simp (disch := first | with_reducible assumption | omega | exact Or.inl rfl | exact Or.inr rfl | exact bI_01 | exact c_cat | exact vt_ref | exact vt_null | rfl | with_reducible repeat (first | assumption | omega | apply S_I | apply S_L | apply S_D | apply ob_I | apply ob_L | apply ob_D | apply ob_R | apply ax_I | apply ax_L | apply ax_D | apply ax_R | apply o303 | apply o307 | apply o302 | apply o301 | apply ax304 | apply ax305 | apply ax306 | apply ax308 | apply ax309 | apply ax310 | apply lt_S | apply ar305 | apply ar308 | apply ar309)) only [g200_196, g200_197, g200_199, g200_202, g200_203, g200_204, g200_207, g200_208, g200_209, g200_212, g200_213, g200_214, g200_217, g200_220, Option.toList, List.nil_append, List.cons_append, va_rf, nI_ltI, nI_leI, nI_eq, nI_add, nI_sub, nI_lt0, nI_e0, nI_m1, m1_nI, Nat.reduceEqDiff, Nat.reduceLT, Nat.reduceLeDiff, Nat.reduceAdd, Nat.reduceSub, Nat.reduceMul, ↓reduceIte, eq_self, r1 _, e26, hg, e32g, fo _]
  have fin2 : ∀ g2 wn' wp', MX g2 t n (mpass t n md 41) k (nI 0) 0 wn' wp' → MF g g2 0 → ∃ h', am_run (d + 7) 208 [some (.ref 349), some (.int (nI 61))] (am_setI g2 349 30 (nI (fdI fnM y nf))) none h' ∧ MX h' t n (mpass t n (mpass t n md 41) 61) k (nI 0) 0 wn' wp' ∧ MHF h h' ∧ am_I h' 349 30 = nI (fdI fnM y nf) ∧ am_I h' 349 31 = nI na ∧ ∀ i, am_L h' 363 i = am_L h 363 i := by
    intro g2 wn' wp' Yg Fg
    have Y3 := MX_fr349 (g := am_setI g2 349 30 (nI (fdI fnM y nf))) (fr_I fr_refl rfl) (fun j hj => by rw [rI_k (by omega)]) Yg
    obtain ⟨h4, r4, Y4, F4⟩ := m_pass (d := d + 3) Y3 (v := 61) (by decide)
    refine ⟨h4, r4, Y4, MHF_trans (MHF_of F12) (MHF_trans (MHF_of Fg) (MHF_trans (MHF_I (Or.inl rfl)) (MHF_of F4))), ?_, ?_, fun i => ?_⟩
    · rw [F4.2.1 30 (by omega), rI_eq]
    · rw [F4.2.1 31 (by omega), rI_k (by decide), Fg.2.1 31 (by omega)]; exact e31g
    · rw [fr_rdL F4.1 (by omega), hL_I, fr_rdL Fg.1 (by omega), fr_rdL F12.1 (by omega)]
  by_cases c : fdI fnM y nf < nf
  · rw [show xI nf (fdI fnM y nf) = nI (fdI fnM y nf) from if_pos c] at st
    obtain ⟨u1, u2⟩ := b9g _ c
    have hA := A _ c
    by_cases c2 : fnA (fdI fnM y nf) = na
    · obtain ⟨h', r', Y', H', q30, q31, q363⟩ := fin2 g _ _ Y2 MF_refl
      refine ⟨h', fun Q => ?_, by rw [if_neg (fun q => q.2 c2), if_neg (fun q => q.2 c2)]; exact Y', H', q30, q31, q363⟩
      rw [st]
      simp (disch := first | with_reducible assumption | omega | exact Or.inl rfl | exact Or.inr rfl | exact bI_01 | exact c_cat | exact vt_ref | exact vt_null | rfl | with_reducible repeat (first | assumption | omega | apply S_I | apply S_L | apply S_D | apply ob_I | apply ob_L | apply ob_D | apply ob_R | apply ax_I | apply ax_L | apply ax_D | apply ax_R | apply o303 | apply o307 | apply o302 | apply o301 | apply ax304 | apply ax305 | apply ax306 | apply ax308 | apply ax309 | apply ax310 | apply lt_S | apply ar305 | apply ar308 | apply ar309)) only [g200_221, g200_222, g200_223, g200_226, g200_227, g200_230, g200_231, g200_232, g200_233, g200_236, g200_239, g200_240, g200_241, g200_242, g200_245, g200_246, g200_247, g200_248, g200_251, g200_252, g200_255, g200_258, g200_259, g200_262, g200_300, g200_301, g200_303, g200_306, Option.toList, List.nil_append, List.cons_append, va_rf, nI_ltI, nI_leI, nI_eq, nI_add, nI_sub, nI_lt0, nI_e0, nI_m1, m1_nI, Nat.reduceEqDiff, Nat.reduceLT, Nat.reduceLeDiff, Nat.reduceAdd, Nat.reduceSub, Nat.reduceMul, ↓reduceIte, eq_self, u2, e31g, c2, r' _]
    · obtain ⟨g2, r2, Yg, Fg⟩ := m_wrong (d := d + 7) Y2 (f := nI 5) (p := p)
      obtain ⟨h', r', Y', H', q30, q31, q363⟩ := fin2 g2 _ _ Yg Fg
      have Sg2 := Yg.1
      refine ⟨h', fun Q => ?_, by rw [if_pos ⟨c, c2⟩, if_pos ⟨c, c2⟩]; exact Y', H', q30, q31, q363⟩
      rw [st]
      simp (disch := first | with_reducible assumption | omega | exact Or.inl rfl | exact Or.inr rfl | exact bI_01 | exact c_cat | exact vt_ref | exact vt_null | rfl | with_reducible repeat (first | assumption | omega | apply S_I | apply S_L | apply S_D | apply ob_I | apply ob_L | apply ob_D | apply ob_R | apply ax_I | apply ax_L | apply ax_D | apply ax_R | apply o303 | apply o307 | apply o302 | apply o301 | apply ax304 | apply ax305 | apply ax306 | apply ax308 | apply ax309 | apply ax310 | apply lt_S | apply ar305 | apply ar308 | apply ar309)) only [g200_221, g200_222, g200_223, g200_226, g200_227, g200_230, g200_231, g200_232, g200_233, g200_236, g200_239, g200_240, g200_241, g200_242, g200_245, g200_246, g200_247, g200_248, g200_251, g200_252, g200_255, g200_258, g200_259, g200_262, g200_300, g200_301, g200_303, g200_306, Option.toList, List.nil_append, List.cons_append, va_rf, nI_ltI, nI_leI, nI_eq, nI_add, nI_sub, nI_lt0, nI_e0, nI_m1, m1_nI, Nat.reduceEqDiff, Nat.reduceLT, Nat.reduceLeDiff, Nat.reduceAdd, Nat.reduceSub, Nat.reduceMul, ↓reduceIte, eq_self, u2, e31g, c2, r2 _, r' _]
  · rw [show xI nf (fdI fnM y nf) = -1 from if_neg c] at st
    obtain ⟨h', r', Y', H', q30, q31, q363⟩ := fin2 g _ _ Y2 MF_refl
    have e : fdI fnM y nf = nf := by omega
    rw [e] at r'
    refine ⟨h', fun Q => ?_, by rw [if_neg (fun q => c q.1), if_neg (fun q => c q.1)]; exact Y', H', q30, q31, q363⟩
    rw [st]
    simp (disch := first | with_reducible assumption | omega | exact Or.inl rfl | exact Or.inr rfl | exact bI_01 | exact c_cat | exact vt_ref | exact vt_null | rfl | with_reducible repeat (first | assumption | omega | apply S_I | apply S_L | apply S_D | apply ob_I | apply ob_L | apply ob_D | apply ob_R | apply ax_I | apply ax_L | apply ax_D | apply ax_R | apply o303 | apply o307 | apply o302 | apply o301 | apply ax304 | apply ax305 | apply ax306 | apply ax308 | apply ax309 | apply ax310 | apply lt_S | apply ar305 | apply ar308 | apply ar309)) only [g200_221, g200_222, g200_223, g200_226, g200_227, g200_230, g200_231, g200_232, g200_233, g200_236, g200_239, g200_240, g200_241, g200_242, g200_245, g200_246, g200_247, g200_248, g200_251, g200_252, g200_255, g200_258, g200_259, g200_262, g200_300, g200_301, g200_303, g200_306, Option.toList, List.nil_append, List.cons_append, va_rf, nI_ltI, nI_leI, nI_eq, nI_add, nI_sub, nI_lt0, nI_e0, nI_m1, m1_nI, Nat.reduceEqDiff, Nat.reduceLT, Nat.reduceLeDiff, Nat.reduceAdd, Nat.reduceSub, Nat.reduceMul, ↓reduceIte, eq_self, e16, r' _]
end FHP

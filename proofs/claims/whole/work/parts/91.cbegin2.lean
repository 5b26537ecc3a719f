/-! THE CLASS: readConstant, up to its E -/
section CB2
variable {d : Nat} {h g : am_H} {t : Nat → Nat} {n s nc nf : Nat} {cnX fnX : Nat → Int64} {fnA : Nat → Nat} {md : Nat ⊕ (Nat × Nat)} {C : List (Int32 × Int64)} {P : List Int32} {N : List Nat} {F k o ln lp : Int32}
theorem bX_fr {y : Option Nat} (B : bX h s nc nf cnX fnX fnA) (Fr : am_fr rX (am_setR (am_setR h 302 0 (some 5)) 301 6 y) g) : bX g s nc nf cnX fnX fnA := by
  obtain ⟨b1, b2, b3, b4, b5, b6⟩ := B
  refine ⟨b1, b2, b3, ?_, fun i hi => ?_, fun i hi => ⟨fun hi2 => ?_, fun hi2 => ?_⟩⟩
  · rw [fr_rdI Fr (by unfold rX; omega), hI_R, hI_R]; exact b4
  · obtain ⟨e, h1, h2', h3, h4⟩ := b5 i hi
    refine ⟨e, h1, ?_, fr_ob Fr (ob_R (ob_R h3)), ?_⟩
    · rw [fr_rdR Fr, hR_R, if_neg (by omega), hR_R, if_neg (by omega)]; exact h2'
    · rw [fr_rdL Fr (by unfold rX; omega), hL_R, hL_R]; exact h4
  · obtain ⟨e, h1, h2', h3, h4, h5⟩ := (b6 i hi).1 hi2
    refine ⟨e, h1, ?_, fr_ob Fr (ob_R (ob_R h3)), ?_, ?_⟩
    · rw [fr_rdR Fr, hR_R, if_neg (by decide), hR_R, if_neg (by decide)]; exact h2'
    · rw [fr_rdL Fr (by unfold rX; omega), hL_R, hL_R]; exact h4
    · rw [fr_rdI Fr (by unfold rX; omega), hI_R, hI_R]; exact h5
  · rw [fr_rdR Fr, hR_R, if_neg (by decide), hR_R, if_neg (by decide)]; exact (b6 i hi).2 hi2
theorem x_cbegin (S : am_S h) (G : am_Gv h) (T : tX h t n) {cc : Nat} (hcc : cc < 256) (h7 : am_I h 302 7 = nI cc) (B : bX h s nc nf cnX fnX fnA) : ∃ h2 md2 x v, (∀ Q, am_J (d + 5) 111 0 [some (.ref 301), some (.ref 5), some (.ref (321 + 7 * s)), none] [] h Q ↔ am_J (d + 5) 111 63 [some (.ref 301), some (.ref 5), some (.ref (321 + 7 * s)), v] [] h2 Q) ∧ am_fr rX (am_setR (am_setR h 302 0 (some 5)) 301 6 (some (321 + 7 * s))) h2 ∧ mdN t n (md1 t n) md2 x ∧ PX h2 t n (mpass t n md2 61) [] [] [] (nI 0) (nI 0) (nI 0) (nI 0) (-1) ∧ am_I h2 301 5 = nI 1 ∧ am_I h2 301 7 = nI (fdI cnX x nc) ∧ am_I h2 301 9 = nI (fdI cnX x nc) ∧ am_L h2 301 8 = x := by
  obtain ⟨h1, r1, Fr, X, e5, e4, e8, e9⟩ := x_begin (d := d) S T hcc h7 (so := 1)
  have S1 := X.1
  have X1 := PX_R (x := some (321 + 7 * s)) X
  have Sg1 := X1.1
  have Fr1 := fr_setR (a := 301) (j := 6) (x := some (321 + 7 * s)) Fr
  have G1 : am_Gv (am_setR h1 301 6 (some (321 + 7 * s))) := Gv_fr Fr1 (by unfold rX; omega) (by unfold rX; omega) (by unfold rX; omega) (Gv_R (Gv_R G (by decide)) (by decide))
  obtain ⟨g2, md2, x, r2, X2, F2, hN⟩ := x_plain (d := d + 1) X1 G1
  have S2 := X2.1
  have X3 : PX (am_setL g2 301 8 x) t n md2 [] [] [] (nI 0) (nI 0) (nI 0) (nI 0) (-1) := PX_fr301 (fr_L fr_refl rfl) X2 X2.2.2.2.2.2.2.2.2.1 X2.2.2.2.2.2.2.2.2.2.1 X2.2.2.2.2.2.2.2.2.2.2
  have S3 := X3.1
  obtain ⟨g4, r4, X4, F4⟩ := x_expect (d := d + 1) X3 (c := 61) (by decide)
  have S4 := X4.1
  have e48 : am_L g4 301 8 = x := by rw [F4.2.2.1 8]; simp only [hI_I, hI_L, hI_D, hI_R, hL_I, hL_L, hL_D, hL_R, hD_I, hD_L, hD_D, hD_R, hR_I, hR_L, hR_D, ↓reduceIte, Nat.reduceEqDiff]
  have Fr4 : am_fr rX (am_setR (am_setR h 302 0 (some 5)) 301 6 (some (321 + 7 * s))) g4 := fr_trans Fr1 (fr_trans F2.1 (fr_trans (fr_L fr_refl (by unfold rX; omega)) F4.1))
  obtain ⟨b1, b2, b3, b4, b5, b6⟩ := bX_fr B Fr4
  have fd := fun Q => x_shFind (d := d + 4) (x := x) (vis := nc) (Q := Q) S4 b1 b2 (Nat.le_refl _) b4 b5
  have hle : fdI cnX x nc ≤ nc := fdI_le
  have O := (o321 S4 b1).1
  have e55 : am_I g4 301 5 = nI 1 := by rw [F4.2.1 5 (by decide), hI_L, F2.2.1 5 (by decide), hI_R]; exact e5
  have X5 : PX (am_setI (am_setI g4 301 9 (nI (fdI cnX x nc))) 301 7 (nI (fdI cnX x nc))) t n (mpass t n md2 61) [] [] [] (nI 0) (nI 0) (nI 0) (nI 0) (-1) := PX_fr301 (fr_I (fr_I fr_refl rfl) rfl) X4 (by simp only [hI_I, hI_L, hI_D, hI_R, hL_I, hL_L, hL_D, hL_R, hD_I, hD_L, hD_D, hD_R, hR_I, hR_L, hR_D, ↓reduceIte, Nat.reduceEqDiff]; exact X4.2.2.2.2.2.2.2.2.1) (by simp only [hI_I, hI_L, hI_D, hI_R, hL_I, hL_L, hL_D, hL_R, hD_I, hD_L, hD_D, hD_R, hR_I, hR_L, hR_D, ↓reduceIte, Nat.reduceEqDiff]; exact X4.2.2.2.2.2.2.2.2.2.1) (by simp only [hI_I, hI_L, hI_D, hI_R, hL_I, hL_L, hL_D, hL_R, hD_I, hD_L, hD_D, hD_R, hR_I, hR_L, hR_D, ↓reduceIte, Nat.reduceEqDiff]; exact X4.2.2.2.2.2.2.2.2.2.2)
  refine ⟨am_setI (am_setI g4 301 9 (nI (fdI cnX x nc))) 301 7 (nI (fdI cnX x nc)), md2, x, some (.int (xI nc (fdI cnX x nc))), fun Q => ?_, fr_I (fr_I Fr4 (by unfold rX; omega)) (by unfold rX; omega), hN, X5, ?_, ?_, ?_, ?_⟩
  · by_cases c : fdI cnX x nc < nc
    · rw [show xI nc (fdI cnX x nc) = nI (fdI cnX x nc) from if_pos c] at fd ⊢
      simp (disch := first | with_reducible assumption | omega | exact Or.inl rfl | exact Or.inr rfl | exact bI_01 | exact c_cat | exact vt_ref | exact vt_null | rfl | with_reducible repeat (first | assumption | omega | apply S_I | apply S_L | apply S_D | apply ob_I | apply ob_L | apply ob_D | apply ob_R | apply ax_I | apply ax_L | apply ax_D | apply ax_R | apply o303 | apply o307 | apply o302 | apply o301 | apply ax304 | apply ax305 | apply ax306 | apply ax308 | apply ax309 | apply ax310 | apply lt_S | apply ar305 | apply ar308 | apply ar309)) only [g111_0, g111_1, g111_2, g111_3, g111_6, g111_7, g111_8, g111_8r, g111_8n, g111_11, g111_12, g111_13, g111_16, g111_19, g111_20, g111_22, g111_25, g111_26, g111_27, g111_30, g111_31, g111_34, g111_37, g111_38, g111_39, g111_40, g111_41, g111_44, g111_45, g111_48, g111_51, g111_52, g111_55, g111_56, g111_57, g111_60, g111_8r, Option.toList, List.nil_append, List.cons_append, va_rf, nI_ltI, nI_leI, nI_eq, nI_add, nI_sub, nI_lt0, nI_e0, nI_m1, m1_nI, Nat.reduceEqDiff, Nat.reduceLT, Nat.reduceLeDiff, Nat.reduceAdd, Nat.reduceSub, Nat.reduceMul, ↓reduceIte, eq_self, hI_I, hI_L, hI_D, hI_R, hL_I, hL_L, hL_D, hL_R, hD_I, hD_L, hD_D, hD_R, hR_I, hR_L, hR_D, ↓reduceIte, Nat.reduceEqDiff, r1 _, r2 _, r4 _, e48, b4, fd _]
    · have e : fdI cnX x nc = nc := by omega
      rw [show xI nc (fdI cnX x nc) = -1 from if_neg c] at fd ⊢
      simp (disch := first | with_reducible assumption | omega | exact Or.inl rfl | exact Or.inr rfl | exact bI_01 | exact c_cat | exact vt_ref | exact vt_null | rfl | with_reducible repeat (first | assumption | omega | apply S_I | apply S_L | apply S_D | apply ob_I | apply ob_L | apply ob_D | apply ob_R | apply ax_I | apply ax_L | apply ax_D | apply ax_R | apply o303 | apply o307 | apply o302 | apply o301 | apply ax304 | apply ax305 | apply ax306 | apply ax308 | apply ax309 | apply ax310 | apply lt_S | apply ar305 | apply ar308 | apply ar309)) only [g111_0, g111_1, g111_2, g111_3, g111_6, g111_7, g111_8, g111_8r, g111_8n, g111_11, g111_12, g111_13, g111_16, g111_19, g111_20, g111_22, g111_25, g111_26, g111_27, g111_30, g111_31, g111_34, g111_37, g111_38, g111_39, g111_40, g111_41, g111_44, g111_45, g111_48, g111_51, g111_52, g111_55, g111_56, g111_57, g111_60, g111_8r, Option.toList, List.nil_append, List.cons_append, va_rf, nI_ltI, nI_leI, nI_eq, nI_add, nI_sub, nI_lt0, nI_e0, nI_m1, m1_nI, Nat.reduceEqDiff, Nat.reduceLT, Nat.reduceLeDiff, Nat.reduceAdd, Nat.reduceSub, Nat.reduceMul, ↓reduceIte, eq_self, hI_I, hI_L, hI_D, hI_R, hL_I, hL_L, hL_D, hL_R, hD_I, hD_L, hD_D, hD_R, hR_I, hR_L, hR_D, ↓reduceIte, Nat.reduceEqDiff, r1 _, r2 _, r4 _, e48, b4, fd _, e]
  · simp only [hI_I, hI_L, hI_D, hI_R, hL_I, hL_L, hL_D, hL_R, hD_I, hD_L, hD_D, hD_R, hR_I, hR_L, hR_D, ↓reduceIte, Nat.reduceEqDiff]; exact e55
  · simp only [hI_I, hI_L, hI_D, hI_R, hL_I, hL_L, hL_D, hL_R, hD_I, hD_L, hD_D, hD_R, hR_I, hR_L, hR_D, ↓reduceIte, Nat.reduceEqDiff]
  · simp only [hI_I, hI_L, hI_D, hI_R, hL_I, hL_L, hL_D, hL_R, hD_I, hD_L, hD_D, hD_R, hR_I, hR_L, hR_D, ↓reduceIte, Nat.reduceEqDiff]
  · simp only [hI_I, hI_L, hI_D, hI_R, hL_I, hL_L, hL_D, hL_R, hD_I, hD_L, hD_D, hD_R, hR_I, hR_L, hR_D, ↓reduceIte, Nat.reduceEqDiff]; exact e48
end CB2

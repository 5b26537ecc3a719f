/-! BOTH: a constant is read -/
section JCO
variable {s nc nf : Nat} {cnX cnM fnX fnM : Nat → Int64} {fnA : Nat → Nat} {t : Nat → Nat} {n : Nat} {hx hm h2 : am_H}
theorem cfX_const {vis : Nat} (hv : vis ≤ nc) (B : bX hx s nc nf cnX fnX fnA) (Fr : am_fr rX (am_setR (am_setR hx 302 0 (some 5)) 301 6 (some (321 + 7 * s))) h2) (e5 : am_I h2 301 5 = nI 1) (e7 : am_I h2 301 7 = nI vis) : cfX h2 1 s vis 0 0 nc nf (lN 0) (fun _ => lN 0) cnX fnX fnA := by
  obtain ⟨b1, b2, b3, b4, b5, b6⟩ := bX_fr B Fr
  refine ⟨by decide, b1, by decide, b2, hv, b3, by decide, e5, fun _ => ⟨?_, e7⟩, fun c => absurd c (by decide), b4, b5, b6⟩
  rw [fr_rdR Fr, hR_R, if_pos rfl, if_pos rfl]
theorem J_constant (SX0 : am_S hx) (SM0 : am_S hm) (Gx : am_Gv hx) (Gm : am_Gv hm) (T : tX hx t n) {cc : Nat} (hcc : cc < 256) (h7 : am_I hx 302 7 = nI cc) (hm2 : am_I hm 349 2 = nI n) (TM : ∀ j, j < n → 1 ≤ t j ∧ t j ≤ 255 ∧ am_I hm 350 j = nI (t j)) (w28 : am_I hm 349 28 = nI 2) (w29 : am_I hm 349 29 = nI s) (BX0 : bX hx s nc nf cnX fnX fnA) (BM0 : bM hm s nc nf cnM fnM fnA) (KR : cfR 1 0 nc nf (lN 0) (lN 0) (fun _ => lN 0) (fun _ => lN 0) cnX cnM fnX fnM fnA) :
    ∃ ft hx' hm', am_run 103 111 [some (.ref 301), some (.ref 5), some (.ref (321 + 7 * s)), none] hx (some (.int (foI ft))) hx' ∧ am_run 103 192 [some (.ref 349), none] hm (some (.int (foI ft))) hm' ∧ am_fr rX (am_setR (am_setR hx 302 0 (some 5)) 301 6 (some (321 + 7 * s))) hx' ∧ am_I hx' 302 9 = fpI ft ∧ (∃ c, c < 256 ∧ am_I hx' 302 7 = nI c) ∧ (∀ z, ft = some z → z.1 ≠ 0 ∧ z.1 < 100) ∧
      (∃ h1 h2 h3 m, am_fr (fun a => a = 349) hm h1 ∧ (∀ k, k ∉ [2, 4, 17, 18, 19, 20, 21, 22, 23, 25, 26, 27, 31] → am_I h1 349 k = am_I hm 349 k) ∧ am_I h1 349 2 = nI 0 ∧ MH h1 h2 ∧ MF h2 h3 0 ∧ ME h3 hm' m) ∧ am_I hm' 349 22 = foI ft ∧ am_I hm' 349 4 = fpI ft ∧ (ft = none → ∃ q own, lx_K t n q = 258 ∧ own = fdI cnX (lN (lx_w 256 0 t q (lx_E t n q - q))) nc ∧ am_L hx' 301 8 = lN (lx_w 256 0 t q (lx_E t n q - q)) ∧ am_I hx' 301 9 = nI own ∧ am_L hm' 349 32 = lN (lx_w 32 96 t q (lx_E t n q - q)) ∧ am_I hm' 349 30 = nI own ∧ RD3 1 0 own 0 nf (lN 0) (fun _ => lN 0) cnM fnM fnA hx' hm') := by
  obtain ⟨b1, b2, b3, b4, b5, b6⟩ := id BX0
  obtain ⟨h2, md2, x, v, W2, Fr, hN, X, e5, e7, e9, e8⟩ := x_cbegin (d := 98) SX0 Gx T hcc h7 BX0
  obtain ⟨m1, V1, Fm, Y, k1, l1, e31, e2⟩ := m_begin (d := 99) SM0 Gm hm2 T.2.1 TM
  have BM1 : bM m1 s nc nf cnM fnM fnA := by
    obtain ⟨c1, c2, c3, c4⟩ := BM0
    exact ⟨by rw [fr_rdI Fm (by decide)]; exact c1, fun i hi => by rw [fr_rdL Fm (by decide)]; exact c2 i hi, by rw [k1 16 (by decide)]; exact c3, fun i hi => ⟨by rw [fr_rdL Fm (by decide)]; exact (c4 i hi).1, by rw [fr_rdI Fm (by decide)]; exact (c4 i hi).2⟩⟩
  have w28' : am_I m1 349 28 = nI 2 := by rw [k1 28 (by decide)]; exact w28
  have w29' : am_I m1 349 29 = nI s := by rw [k1 29 (by decide)]; exact w29
  obtain ⟨m2, V2, H2, hM⟩ := m_chead (d := 94) Y w28' w29' b1 b2 BM1
  have T1 := Y.1
  have KX := cfX_const (fdI_le) BX0 Fr e5 e7
  have Gv2 : am_Gv h2 := Gv_fr Fr (by unfold rX; omega) (by unfold rX; omega) (by unfold rX; omega) (Gv_R (Gv_R Gx (by decide)) (by decide))
  have Z : ((∃ y, BX h2 t n y ∧ BM m2 t n y 0) ∨ ∃ q lnx lpx lnm lpm, PX h2 t n (.inl q) [] [] [] (nI 0) (nI 0) (nI 0) lnx lpx ∧ LT lnx lpx (mgO (some (0, 2000)) none) ∧ MX m2 t n (.inl q) (nI 0) (nI 0) 0 lnm lpm ∧ LT lnm lpm none ∧ (∀ z : Nat × Nat, none = some z → z.2 ≤ 240) ∧ cfM m2 1 s (fdI cnX x nc) 0 0 nc nf (lN 0) (fun _ => lN 0) cnM fnM fnA) ∧ am_S m2 ∧ ((∃ y, BX h2 t n y) ∨ ∃ q, lx_K t n q = 258 ∧ x = lN (lx_w 256 0 t q (lx_E t n q - q)) ∧ am_I m2 349 30 = nI (fdI cnX x nc) ∧ am_L m2 349 32 = lN (lx_w 32 96 t q (lx_E t n q - q))) := by
    rcases hN with ⟨q, eq, hK, hw, rfl, rfl⟩ | ⟨hb, rfl, rfl⟩
    · rcases hM with ⟨q', eq', hK', hw', Y2, e30, e32⟩ | ⟨hb', -⟩
      · rw [eq] at eq'
        cases eq'
        have ef : fdI cnM (lN (lx_w 32 96 t q (lx_E t n q - q))) nc = fdI cnX (lN (lx_w 256 0 t q (lx_E t n q - q))) nc := (fdI_congr (fun i hi => NM_iff (KR.2.1 i hi) (lx_NM hK))).symm
        rw [ef] at e30
        refine ⟨?_, Y2.1, Or.inr ⟨q, hK, rfl, e30, e32⟩⟩
        have BM2 := bM_MH H2 BM1
        obtain ⟨c1, c2, c3, c4⟩ := BM2
        match hA : mpass t n (mdA t n (md1 t n)) 61 with
        | .inr y =>
          rw [hA] at X Y2
          exact Or.inl ⟨y, BX_of X, BM_of Y2 (Nat.le_refl _)⟩
        | .inl q2 =>
          rw [hA] at X Y2
          exact Or.inr ⟨q2, _, _, _, _, X, ⟨rfl, Or.inr ⟨rfl, rfl⟩⟩, Y2, rfl, (fun z e => by cases e), by decide, b1, by decide, b2, fdI_le, b3, by decide, by rw [H2.2.1 28 (by omega)]; exact w28', fun _ => by rw [H2.2.1 29 (by omega)]; exact w29', fun c => absurd c (by decide), fun _ => e30, fun c => absurd c (by decide), c1, c2, c3, c4⟩
      · rw [eq] at hb'
        exact absurd ⟨hK, hw⟩ hb'
    · rcases hM with ⟨q', eq', hK', hw', Y2, e30, e32⟩ | ⟨-, Y2⟩
      · rw [eq'] at hb
        exact absurd ⟨hK', hw'⟩ hb
      · match hA : md1 t n with
        | .inr y =>
          rw [hA] at X Y2
          have X' : PX h2 t n (.inr y) [] [] [] (nI 0) (nI 0) (nI 0) (nI 0) (-1) := X
          exact ⟨Or.inl ⟨y, BX_of X', BM_of Y2 (Nat.le_refl _)⟩, Y2.1, Or.inl ⟨y, BX_of X'⟩⟩
        | .inl q =>
          rw [hA] at X Y2
          have X' : PX h2 t n (.inr (2, q)) [] [] [] (nI 0) (nI 0) (nI 0) (nI 0) (-1) := X
          exact ⟨Or.inl ⟨(2, q), BX_of X', BM_of Y2 (Nat.le_refl _)⟩, Y2.1, Or.inl ⟨(2, q), BX_of X'⟩⟩
  obtain ⟨Z, T2, hq⟩ := Z
  obtain ⟨ft, hxa, hxb, hma, hmb, mr, r1, r2, r3, r4, S1, S2, F1, e9', c7, z7, F2, ⟨m, F3⟩, g22, g4, hR⟩ := J_bodyE (fun c => absurd c (by decide)) T.2.1 Gv2 KX KR Z
  have S0 := X.1
  refine ⟨ft, hxb, hmb, fun Q => ?_, fun Q => ?_, fr_trans Fr F1.1, e9', c7, z7, ⟨m1, m2, hma, m, Fm, k1, e2, H2, F2, F3⟩, g22, g4, fun e => ?_⟩
  · rw [W2]
    simp (disch := first | with_reducible assumption | omega | exact Or.inl rfl | exact Or.inr rfl | exact bI_01 | exact c_cat | exact vt_ref | exact vt_null | rfl | with_reducible repeat (first | assumption | omega | apply S_I | apply S_L | apply S_D | apply ob_I | apply ob_L | apply ob_D | apply ob_R | apply ax_I | apply ax_L | apply ax_D | apply ax_R | apply o303 | apply o307 | apply o302 | apply o301 | apply ax304 | apply ax305 | apply ax306 | apply ax308 | apply ax309 | apply ax310 | apply lt_S | apply ar305 | apply ar308 | apply ar309)) only [g111_63, g111_64, g111_65, g111_68, g111_69, g111_72, Option.toList, List.nil_append, List.cons_append, va_rf, r1 _, r2 _]
  · rw [V1]
    simp (disch := first | with_reducible assumption | omega | exact Or.inl rfl | exact Or.inr rfl | exact bI_01 | exact c_cat | exact vt_ref | exact vt_null | rfl | with_reducible repeat (first | assumption | omega | apply S_I | apply S_L | apply S_D | apply ob_I | apply ob_L | apply ob_D | apply ob_R | apply ax_I | apply ax_L | apply ax_D | apply ax_R | apply o303 | apply o307 | apply o302 | apply o301 | apply ax304 | apply ax305 | apply ax306 | apply ax308 | apply ax309 | apply ax310 | apply lt_S | apply ar305 | apply ar308 | apply ar309)) only [g192_57, g192_58, g192_61, g192_64, g192_65, g192_68, g192_69, g192_72, Option.toList, List.nil_append, List.cons_append, va_rf, nI_ltI, nI_leI, nI_eq, nI_add, nI_sub, nI_lt0, nI_e0, nI_m1, m1_nI, Nat.reduceEqDiff, Nat.reduceLT, Nat.reduceLeDiff, Nat.reduceAdd, Nat.reduceSub, Nat.reduceMul, ↓reduceIte, eq_self, w28', V2 _, r3 _, r4 _]
  · rcases hq with ⟨y, B⟩ | ⟨q, hK, ex, e30, e32⟩
    · exfalso
      obtain ⟨h1, p1, B1, G1⟩ := bx_level (d := 97) B
      obtain ⟨-, eh⟩ := am_run_fun r1 p1
      subst eh
      obtain ⟨C, P, N, F, k, o, ln, lp, X'⟩ := B1
      obtain ⟨hb, p3, -, -, -, z3, -⟩ := x_end (d := 101) (W := none) X' (fun q e => by cases e) (fun z e => by cases e)
      obtain ⟨er, -⟩ := am_run_fun r2 p3
      rw [e] at er
      have z4 := z3 y rfl
      simp only [Option.some.injEq, Value.int.injEq] at er
      have er' : nI 0 = nI y.1 := er
      have := (nI_eq (by omega) (by omega)).mp er'
      omega
    · refine ⟨q, fdI cnX x nc, hK, by rw [ex], ?_, ?_, ?_, ?_, (hR e).2⟩
      · rw [F1.2.2.1 8, e8, ex]
      · rw [F1.2.1 9 (by decide)]; exact e9
      · rw [F3.2.2.1 32, F2.2.2.1 32]; exact e32
      · rw [F3.2.1 30 (by omega), F2.2.1 30 (by omega)]; exact e30
end JCO

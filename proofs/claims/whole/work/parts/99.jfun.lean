/-! BOTH: a function is read -/
section JFU
variable {s nc nf : Nat} {cnX cnM fnX fnM : Nat → Int64} {fnA : Nat → Nat} {t : Nat → Nat} {n : Nat} {hx hm : am_H}
/-- E and end behind a fault -/
theorem J_bodyB {y : Nat × Nat} (B : BX hx t n y) (BB : BM hm t n y 0) :
    ∃ hxa hxb hmb, am_run 102 77 [some (.ref 301), some (.int (nI 0)), none, none, none, none, none] hx none hxa ∧ am_run 102 107 [some (.ref 301)] hxa (some (.int (foI (some y)))) hxb ∧ am_run 102 211 [some (.ref 349), none, none, none] hm (some (.int (nI 0))) hm ∧ (∀ Q, am_J 103 192 73 [some (.ref 349), some (.int (nI 0))] [] hm Q ↔ Q (some (.int (foI (some y)))) hmb) ∧ am_S hxa ∧ am_S hm ∧ XF hx hxb ∧ am_I hxb 302 9 = fpI (some y) ∧ (∃ c, c < 256 ∧ am_I hxb 302 7 = nI c) ∧ (∀ z, some y = some z → z.1 ≠ 0 ∧ z.1 < 100) ∧ (∃ m, ME hm hmb m) ∧ am_I hmb 349 22 = foI (some y) ∧ am_I hmb 349 4 = fpI (some y) := by
  obtain ⟨h1, r1, B1, F1⟩ := bx_level (d := 97) B
  obtain ⟨C, P, N, F, k, o, ln, lp, X⟩ := B1
  obtain ⟨k', o', m', wn, wp, hm', Y⟩ := id BB
  obtain ⟨hxb, r3, F3, e3, c3, z3, D3⟩ := x_end (d := 101) (W := none) X (fun q e => by cases e) (fun z e => by cases e)
  obtain ⟨hmb, r4, F4, e4, e5, -, -, -⟩ := m_end (d := 100) (W := none) (r := nI 0) Y (fun q e => by cases e) (fun z e => by cases e)
  exact ⟨h1, hxb, hmb, r1, r3, fun Q => bm_e (d := 99) BB, r4, X.1, Y.1, XF_trans F1 F3, e3, c3, z3, ⟨m', F4⟩, e4, e5⟩
theorem J_function (SX0 : am_S hx) (SM0 : am_S hm) (Gx : am_Gv hx) (Gm : am_Gv hm) (T : tX hx t n) {cc : Nat} (hcc : cc < 256) (h7 : am_I hx 302 7 = nI cc) (hm2 : am_I hm 349 2 = nI n) (TM : ∀ j, j < n → 1 ≤ t j ∧ t j ≤ 255 ∧ am_I hm 350 j = nI (t j)) (w28 : am_I hm 349 28 = nI 1) (BX0 : bX hx s nc nf cnX fnX fnA) (BM0 : bM hm s nc nf cnM fnM fnA) (KC : ∀ i, i < nc → NM (cnX i) (cnM i)) (KF : ∀ i, i < nf → NM (fnX i) (fnM i) ∧ 1 ≤ fnA i ∧ fnA i ≤ 3) (KD : ∀ i j, i < nf → j < nf → fnX i = fnX j → i = j) :
    ∃ ft hx' hm', am_run 103 108 [some (.ref 301), some (.ref 5), none] hx (some (.int (foI ft))) hx' ∧ am_run 103 192 [some (.ref 349), none] hm (some (.int (foI ft))) hm' ∧ am_fr rX (am_setR hx 302 0 (some 5)) hx' ∧ am_I hx' 302 9 = fpI ft ∧ (∃ c, c < 256 ∧ am_I hx' 302 7 = nI c) ∧ (∀ z, ft = some z → z.1 ≠ 0 ∧ z.1 < 100) ∧
      (∃ h1 h2 h3 h4 m, am_fr (fun a => a = 349) hm h1 ∧ (∀ k, k ∉ [2, 4, 17, 18, 19, 20, 21, 22, 23, 25, 26, 27, 31] → am_I h1 349 k = am_I hm 349 k) ∧ am_I h1 349 2 = nI 0 ∧ MH h1 h2 ∧ MHF h2 h3 ∧ MF h3 h4 0 ∧ ME h4 hm' m) ∧ am_I hm' 349 22 = foI ft ∧ am_I hm' 349 4 = fpI ft ∧ (ft = none → ∃ q own na agM, lx_K t n q = 258 ∧ own = fdI fnX (lN (lx_w 256 0 t q (lx_E t n q - q))) nf ∧ 1 ≤ na ∧ na ≤ 3 ∧ (own < nf → fnA own = na) ∧ am_L hx' 301 8 = lN (lx_w 256 0 t q (lx_E t n q - q)) ∧ am_I hx' 301 9 = nI own ∧ am_I hx' 301 4 = nI na ∧ am_L hm' 349 32 = lN (lx_w 32 96 t q (lx_E t n q - q)) ∧ am_I hm' 349 30 = nI own ∧ am_I hm' 349 31 = nI na ∧ (∀ i, i < na → am_L hm' 363 i = agM i) ∧ (∀ i, i < na → ∃ x, NM x (agM i)) ∧ RD3 2 na 0 own nf (lN (lx_w 32 96 t q (lx_E t n q - q))) agM cnM fnM fnA hx' hm') := by
  obtain ⟨b1, b2, b3, b4, b5, b6⟩ := id BX0
  have hA : ∀ i, i < nf → fnA i ≤ 3 := fun i hi => (KF i hi).2.2
  obtain ⟨hx1, md2, x, p, W1, Fr1, hN, X1, e5, e4, e8, hp⟩ := x_fhead1 (d := 98) SX0 Gx T hcc h7
  obtain ⟨m1, V1, Fm, Y, k1, l1, e31, e2⟩ := m_begin (d := 99) SM0 Gm hm2 T.2.1 TM
  have BM1 : bM m1 s nc nf cnM fnM fnA := by
    obtain ⟨c1, c2, c3, c4⟩ := BM0
    exact ⟨by rw [fr_rdI Fm (by decide)]; exact c1, fun i hi => by rw [fr_rdL Fm (by decide)]; exact c2 i hi, by rw [k1 16 (by decide)]; exact c3, fun i hi => ⟨by rw [fr_rdL Fm (by decide)]; exact (c4 i hi).1, by rw [fr_rdI Fm (by decide)]; exact (c4 i hi).2⟩⟩
  have w28' : am_I m1 349 28 = nI 1 := by rw [k1 28 (by decide)]; exact w28
  obtain ⟨m2, H2, e31', hM⟩ := m_fhead1 (d := 94) Y w28'
  have T1 := Y.1
  have B1 := bX_frF BX0 Fr1
  have G1 : am_Gv hx1 := Gv_fr Fr1 (by unfold rX; omega) (by unfold rX; omega) (by unfold rX; omega) (Gv_R Gx (by decide))
  -- behind a fault
  have bad : ∀ y h66 m3 m3', (∀ Q, am_J 103 108 0 [some (.ref 301), some (.ref 5), none] [] hx Q ↔ am_J 103 108 66 [some (.ref 301), some (.ref 5), some (.int p)] [] h66 Q) → am_fr rX (am_setR hx 302 0 (some 5)) h66 → BX h66 t n y → (∃ a', a' ≤ 3 ∧ am_I h66 301 4 = nI a') → MH m1 m3' → MHF m3' m3 → (∀ Q, am_J 102 200 0 [some (.ref 349), none, none] [] m1 Q ↔ Q none m3) → BM m3 t n y 0 → ∃ ft hx' hm', am_run 103 108 [some (.ref 301), some (.ref 5), none] hx (some (.int (foI ft))) hx' ∧ am_run 103 192 [some (.ref 349), none] hm (some (.int (foI ft))) hm' ∧ am_fr rX (am_setR hx 302 0 (some 5)) hx' ∧ am_I hx' 302 9 = fpI ft ∧ (∃ c, c < 256 ∧ am_I hx' 302 7 = nI c) ∧ (∀ z, ft = some z → z.1 ≠ 0 ∧ z.1 < 100) ∧ (∃ h1 h2 h3 h4 m, am_fr (fun a => a = 349) hm h1 ∧ (∀ k, k ∉ [2, 4, 17, 18, 19, 20, 21, 22, 23, 25, 26, 27, 31] → am_I h1 349 k = am_I hm 349 k) ∧ am_I h1 349 2 = nI 0 ∧ MH h1 h2 ∧ MHF h2 h3 ∧ MF h3 h4 0 ∧ ME h4 hm' m) ∧ am_I hm' 349 22 = foI ft ∧ am_I hm' 349 4 = fpI ft ∧ ft ≠ none := by
    intro y h66 m3 m3' W66 Fr66 B66 ⟨a', ha', ea'⟩ H3' H3 V3 BB3
    obtain ⟨C, P, N, F, k, o, ln, lp, X66⟩ := B66
    obtain ⟨h83, W83, X83, Fr83, -⟩ := x_ftail (d := 98) (w1 := some (.ref 5)) (p := p) (x := am_L h66 301 8) X66 (bX_frF BX0 Fr66) hA ha' ea' rfl
    have B83 : BX h83 t n y := BX_of X83
    have S83 := X83.1
    obtain ⟨hxa, hxb, hmb, r1, r2, r3, r4, S1, S2, F1, q1, q2, q3, ⟨m, q4⟩, q5, q6⟩ := J_bodyB B83 BB3
    refine ⟨some y, hxb, hmb, fun Q => ?_, fun Q => ?_, fr_trans Fr66 (fr_trans Fr83 F1.1), q1, q2, q3, ⟨m1, m3', m3, m3, m, Fm, k1, e2, H3', H3, MF_refl, q4⟩, q5, q6, fun e => by cases e⟩
    · rw [W66, W83]
      simp (disch := first | with_reducible assumption | omega | exact Or.inl rfl | exact Or.inr rfl | exact bI_01 | exact c_cat | exact vt_ref | exact vt_null | rfl | with_reducible repeat (first | assumption | omega | apply S_I | apply S_L | apply S_D | apply ob_I | apply ob_L | apply ob_D | apply ob_R | apply ax_I | apply ax_L | apply ax_D | apply ax_R | apply o303 | apply o307 | apply o302 | apply o301 | apply ax304 | apply ax305 | apply ax306 | apply ax308 | apply ax309 | apply ax310 | apply lt_S | apply ar305 | apply ar308 | apply ar309)) only [g108_83, g108_84, g108_85, g108_88, g108_89, g108_92, Option.toList, List.nil_append, List.cons_append, va_rf, nI_ltI, nI_leI, nI_eq, nI_add, nI_sub, nI_lt0, nI_e0, nI_m1, m1_nI, Nat.reduceEqDiff, Nat.reduceLT, Nat.reduceLeDiff, Nat.reduceAdd, Nat.reduceSub, Nat.reduceMul, ↓reduceIte, eq_self, r1 _, r2 _]
    · rw [V1]
      simp (disch := first | with_reducible assumption | omega | exact Or.inl rfl | exact Or.inr rfl | exact bI_01 | exact c_cat | exact vt_ref | exact vt_null | rfl | with_reducible repeat (first | assumption | omega | apply S_I | apply S_L | apply S_D | apply ob_I | apply ob_L | apply ob_D | apply ob_R | apply ax_I | apply ax_L | apply ax_D | apply ax_R | apply o303 | apply o307 | apply o302 | apply o301 | apply ax304 | apply ax305 | apply ax306 | apply ax308 | apply ax309 | apply ax310 | apply lt_S | apply ar305 | apply ar308 | apply ar309)) only [g192_57, g192_58, g192_61, g192_64, g192_65, g192_68, g192_69, g192_72, Option.toList, List.nil_append, List.cons_append, va_rf, nI_ltI, nI_leI, nI_eq, nI_add, nI_sub, nI_lt0, nI_e0, nI_m1, m1_nI, Nat.reduceEqDiff, Nat.reduceLT, Nat.reduceLeDiff, Nat.reduceAdd, Nat.reduceSub, Nat.reduceMul, ↓reduceIte, eq_self, w28', V3 _, r3 _, r4 _]
  -- the class runs to the loop's end behind a fault ahead of the arguments
  have early : ∀ y, mpass t n md2 40 = .inr y → ∃ h66, (∀ Q, am_J 103 108 0 [some (.ref 301), some (.ref 5), none] [] hx Q ↔ am_J 103 108 66 [some (.ref 301), some (.ref 5), some (.int p)] [] h66 Q) ∧ am_fr rX (am_setR hx 302 0 (some 5)) h66 ∧ BX h66 t n y ∧ ∃ a', a' ≤ 3 ∧ am_I h66 301 4 = nI a' := by
    intro y ey
    rw [ey] at X1
    obtain ⟨h66, md', x', r6, hN6, X6, A6, e46, -, -⟩ := x_arg (d := 98) (ag := fun _ => lN 0) X1 G1 (a := 0) (by decide) e4 (fun i hi => absurd hi (Nat.not_lt_zero _))
    have emd : md' = .inr y := by
      rcases hN6 with ⟨q, eq, -⟩ | ⟨-, e, -⟩
      · cases eq
      · exact e
    rw [emd] at X6
    have tk := x_tok X6
    have tk2 : am_I h66 302 2 = nI 263 := tk
    have S6 := X6.1
    have S1 := X1.1
    refine ⟨h66, fun Q => ?_, fr_trans Fr1 A6.1, BX_of X6, 1, by decide, e46⟩
    rw [W1]
    simp (disch := first | with_reducible assumption | omega | exact Or.inl rfl | exact Or.inr rfl | exact bI_01 | exact c_cat | exact vt_ref | exact vt_null | rfl | with_reducible repeat (first | assumption | omega | apply S_I | apply S_L | apply S_D | apply ob_I | apply ob_L | apply ob_D | apply ob_R | apply ax_I | apply ax_L | apply ax_D | apply ax_R | apply o303 | apply o307 | apply o302 | apply o301 | apply ax304 | apply ax305 | apply ax306 | apply ax308 | apply ax309 | apply ax310 | apply lt_S | apply ar305 | apply ar308 | apply ar309)) only [g108_28, g108_29, g108_32, g108_33, g108_36, g108_37, g108_40, g108_41, g108_44, g108_47, g108_49, g108_52, g108_53, g108_56, g108_59, g108_60, g108_63, Option.toList, List.nil_append, List.cons_append, va_rf, nI_ltI, nI_leI, nI_eq, nI_add, nI_sub, nI_lt0, nI_e0, nI_m1, m1_nI, Nat.reduceEqDiff, Nat.reduceLT, Nat.reduceLeDiff, Nat.reduceAdd, Nat.reduceSub, Nat.reduceMul, ↓reduceIte, eq_self, r6 _, e46, tk2]
  have close : (∃ ft hx' hm', am_run 103 108 [some (.ref 301), some (.ref 5), none] hx (some (.int (foI ft))) hx' ∧ am_run 103 192 [some (.ref 349), none] hm (some (.int (foI ft))) hm' ∧ am_fr rX (am_setR hx 302 0 (some 5)) hx' ∧ am_I hx' 302 9 = fpI ft ∧ (∃ c, c < 256 ∧ am_I hx' 302 7 = nI c) ∧ (∀ z, ft = some z → z.1 ≠ 0 ∧ z.1 < 100) ∧ (∃ h1 h2 h3 h4 m, am_fr (fun a => a = 349) hm h1 ∧ (∀ k, k ∉ [2, 4, 17, 18, 19, 20, 21, 22, 23, 25, 26, 27, 31] → am_I h1 349 k = am_I hm 349 k) ∧ am_I h1 349 2 = nI 0 ∧ MH h1 h2 ∧ MHF h2 h3 ∧ MF h3 h4 0 ∧ ME h4 hm' m) ∧ am_I hm' 349 22 = foI ft ∧ am_I hm' 349 4 = fpI ft ∧ ft ≠ none) → ∃ ft hx' hm', am_run 103 108 [some (.ref 301), some (.ref 5), none] hx (some (.int (foI ft))) hx' ∧ am_run 103 192 [some (.ref 349), none] hm (some (.int (foI ft))) hm' ∧ am_fr rX (am_setR hx 302 0 (some 5)) hx' ∧ am_I hx' 302 9 = fpI ft ∧ (∃ c, c < 256 ∧ am_I hx' 302 7 = nI c) ∧ (∀ z, ft = some z → z.1 ≠ 0 ∧ z.1 < 100) ∧
      (∃ h1 h2 h3 h4 m, am_fr (fun a => a = 349) hm h1 ∧ (∀ k, k ∉ [2, 4, 17, 18, 19, 20, 21, 22, 23, 25, 26, 27, 31] → am_I h1 349 k = am_I hm 349 k) ∧ am_I h1 349 2 = nI 0 ∧ MH h1 h2 ∧ MHF h2 h3 ∧ MF h3 h4 0 ∧ ME h4 hm' m) ∧ am_I hm' 349 22 = foI ft ∧ am_I hm' 349 4 = fpI ft ∧ (ft = none → ∃ q own na agM, lx_K t n q = 258 ∧ own = fdI fnX (lN (lx_w 256 0 t q (lx_E t n q - q))) nf ∧ 1 ≤ na ∧ na ≤ 3 ∧ (own < nf → fnA own = na) ∧ am_L hx' 301 8 = lN (lx_w 256 0 t q (lx_E t n q - q)) ∧ am_I hx' 301 9 = nI own ∧ am_I hx' 301 4 = nI na ∧ am_L hm' 349 32 = lN (lx_w 32 96 t q (lx_E t n q - q)) ∧ am_I hm' 349 30 = nI own ∧ am_I hm' 349 31 = nI na ∧ (∀ i, i < na → am_L hm' 363 i = agM i) ∧ (∀ i, i < na → ∃ x, NM x (agM i)) ∧ RD3 2 na 0 own nf (lN (lx_w 32 96 t q (lx_E t n q - q))) agM cnM fnM fnA hx' hm') := by
    rintro ⟨ft, hx', hm', z1, z2, z3, z4, z5, z6, z7, z8, z9, z10⟩
    exact ⟨ft, hx', hm', z1, z2, z3, z4, z5, z6, z7, z8, z9, fun e => absurd e z10⟩
  rcases hM with ⟨q, q0, eq, hK, hw, eq0, hK0, V2, Y2, e32⟩ | ⟨V2, hM⟩
  · rcases hN with ⟨q', eq', -, -, rfl, rfl⟩ | ⟨hb, -, -⟩
    · rw [eq] at eq'
      cases eq'
      have em : mpass t n (mdA t n (md1 t n)) 40 = mdA t n (.inl q0) := by
        rw [eq0]
        exact if_pos hK0
      rw [em] at X1
      have ep : p = nI q := hp q eq
      subst ep
      have hq : q ≤ n := by rw [eq] at Y; exact Y.2.2.2.1.2.2.1
      have T2 := Y2.1
      obtain ⟨hx2, h66, r2, W66, A66, S2, E⟩ := J_args (p := nI q) (w1 := some (.ref 5)) (w2 := some (.int (nI q))) T.2.1 3 0 hx1 m2 q0 (nI 0) (-1) _ _ none (fun _ => lN 0) (fun _ => lN 0) none (by omega) (by decide) X1 G1 e4 (fun i hi => absurd hi (Nat.not_lt_zero _)) Y2 (by rw [e31', e31]) (fun i hi => absurd hi (Nat.not_lt_zero _)) (fun i hi => absurd hi (Nat.not_lt_zero _)) ⟨rfl, Or.inr ⟨rfl, rfl⟩⟩ rfl (fun z e => by cases e)
      have S1 := X1.1
      have W0 : ∀ Q, am_J 103 108 0 [some (.ref 301), some (.ref 5), none] [] hx Q ↔ am_J 103 108 66 [some (.ref 301), some (.ref 5), some (.int (nI q))] [] h66 Q := fun Q => by
        rw [W1, ← W66]
        simp (disch := first | with_reducible assumption | omega | exact Or.inl rfl | exact Or.inr rfl | exact bI_01 | exact c_cat | exact vt_ref | exact vt_null | rfl | with_reducible repeat (first | assumption | omega | apply S_I | apply S_L | apply S_D | apply ob_I | apply ob_L | apply ob_D | apply ob_R | apply ax_I | apply ax_L | apply ax_D | apply ax_R | apply o303 | apply o307 | apply o302 | apply o301 | apply ax304 | apply ax305 | apply ax306 | apply ax308 | apply ax309 | apply ax310 | apply lt_S | apply ar305 | apply ar308 | apply ar309)) only [g108_28, g108_29, Option.toList, List.nil_append, List.cons_append, va_rf, nI_ltI, nI_leI, nI_eq, nI_add, nI_sub, nI_lt0, nI_e0, nI_m1, m1_nI, Nat.reduceEqDiff, Nat.reduceLT, Nat.reduceLeDiff, Nat.reduceAdd, Nat.reduceSub, Nat.reduceMul, ↓reduceIte, eq_self, r2 _]
      rcases E with ⟨y, m3, B66, H3, V3, BB3, hz⟩ | ⟨m3, md', a', agX', agM', W', lnx', lpx', lnm', lpm', v2', u1, u2, H3, V3, X3, Y3, f4, gX, f31, gM, hNM, LX, LM, hW⟩
      · exact close (bad y h66 m3 m2 W0 (fr_trans Fr1 A66.1) B66 hz H2 H3 (fun Q => by rw [V2, V3]) BB3)
      · have e8' : am_L h66 301 8 = lN (lx_w 256 0 t q (lx_E t n q - q)) := by rw [A66.2.2 8]; exact e8
        have BM2 := bM_MH H2 BM1
        obtain ⟨c1, c2, c3, c4⟩ := BM2
        have c3' : am_I m3 349 16 = nI nf := by rw [H3.2.1 16 (by omega)]; exact c3
        have c4' : ∀ i, i < nf → am_L m3 358 i = fnM i ∧ am_I m3 361 i = nI (fnA i) := fun i hi => ⟨by rw [fr_rdL H3.1 (by omega)]; exact (c4 i hi).1, by rw [fr_rdI H3.1 (by omega)]; exact (c4 i hi).2⟩
        obtain ⟨h83, W83, X83, Fr83, g9, k83, l83, l310⟩ := x_ftail (d := 98) (w1 := some (.ref 5)) (p := nI q) X3 (bX_frF BX0 (fr_trans Fr1 A66.1)) hA u2 f4 e8'
        obtain ⟨m4, V4, Y4, H4, q30, q31, q363⟩ := m_ftail (d := 94) (p := nI q) (v2 := v2') (y := lN (lx_w 32 96 t q (lx_E t n q - q))) Y3 b3 c3' c4' hA u2 f31 (by rw [H3.2.2.1 32]; exact e32)
        have ef : fdI fnM (lN (lx_w 32 96 t q (lx_E t n q - q))) nf = fdI fnX (lN (lx_w 256 0 t q (lx_E t n q - q))) nf := (fdI_congr (fun i hi => NM_iff (KF i hi).1 (lx_NM hK))).symm
        rw [ef] at Y4 q30
        have hxy := lx_NM hK
        have e32' : am_L m4 349 32 = lN (lx_w 32 96 t q (lx_E t n q - q)) := by rw [H4.2.2.1 32, H3.2.2.1 32]; exact e32
        rw [← l83 8] at e8'
        generalize ex : lN (lx_w 256 0 t q (lx_E t n q - q)) = x at X83 Y4 q30 g9 e8' hxy ef ⊢
        generalize ey : lN (lx_w 32 96 t q (lx_E t n q - q)) = y at e32' hxy ef ⊢
        have hle : fdI fnX x nf ≤ nf := fdI_le
        have S66 := X3.1
        have S83 := X83.1
        have Z0 : ∃ W0 lnx lpx lnm lpm, PX h83 t n (mpass t n (mpass t n md' 41) 61) [] [] [] (nI 0) (nI 0) (nI 0) lnx lpx ∧ MX m4 t n (mpass t n (mpass t n md' 41) 61) (nI 0) (nI 0) 0 lnm lpm ∧ LT lnx lpx (mgO (some (0, 2000)) W0) ∧ LT lnm lpm W0 ∧ (∀ z, W0 = some z → z.2 ≤ 240) ∧ (W0 = none → ¬ (fdI fnX x nf < nf ∧ fnA (fdI fnX x nf) ≠ a')) := by
          by_cases c : fdI fnX x nf < nf ∧ fnA (fdI fnX x nf) ≠ a'
          · rw [if_pos c, if_pos c] at X83 Y4
            refine ⟨mgO W' (some (5, q)), _, _, _, _, X83, Y4, LT_mgO LX (by have := T.2.1; omega) (by decide), LT_mg LM (by have := T.2.1; omega), fun z hz => ?_, fun e => ?_⟩
            · have := mgO_bd (a := 0) (b := 241) (c := 0) (e := 241) (fun z hz => ⟨Nat.zero_le _, by have := hW z hz; omega⟩) (fun z hz => ⟨Nat.zero_le _, by cases hz; show q < 241; have := T.2.1; omega⟩) (Nat.zero_le _) (Nat.le_refl _) z hz
              omega
            · exact absurd (mgO_eq_none e).2 (by simp)
          · rw [if_neg c, if_neg c] at X83 Y4
            exact ⟨W', _, _, _, _, X83, Y4, LX, LM, hW, fun _ => c⟩
        clear X83 Y4
        obtain ⟨W0', lnx, lpx, lnm, lpm, X83, Y4, LX', LM', hW0, hWn⟩ := Z0
        have Fr83' : am_fr rX (am_setR hx 302 0 (some 5)) h83 := fr_trans Fr1 (fr_trans A66.1 Fr83)
        match hmd : mpass t n (mpass t n md' 41) 61 with
        | .inr y' =>
          rw [hmd] at X83 Y4
          have T4 := Y4.1
          obtain ⟨hxa, hxb, hmb, r1, r2', r3, r4, S1', S2', F1, z1, z2, z3, ⟨m, z4⟩, z5, z6⟩ := J_bodyB (BX_of X83) (BM_of Y4 (Nat.le_refl 0))
          refine ⟨some y', hxb, hmb, fun Q => ?_, fun Q => ?_, fr_trans Fr83' F1.1, z1, z2, z3, ⟨m1, m2, m4, m4, m, Fm, k1, e2, H2, MHF_trans H3 H4, MF_refl, z4⟩, z5, z6, fun e => by cases e⟩
          · rw [W0, W83]
            simp (disch := first | with_reducible assumption | omega | exact Or.inl rfl | exact Or.inr rfl | exact bI_01 | exact c_cat | exact vt_ref | exact vt_null | rfl | with_reducible repeat (first | assumption | omega | apply S_I | apply S_L | apply S_D | apply ob_I | apply ob_L | apply ob_D | apply ob_R | apply ax_I | apply ax_L | apply ax_D | apply ax_R | apply o303 | apply o307 | apply o302 | apply o301 | apply ax304 | apply ax305 | apply ax306 | apply ax308 | apply ax309 | apply ax310 | apply lt_S | apply ar305 | apply ar308 | apply ar309)) only [g108_83, g108_84, g108_85, g108_88, g108_89, g108_92, Option.toList, List.nil_append, List.cons_append, va_rf, nI_ltI, nI_leI, nI_eq, nI_add, nI_sub, nI_lt0, nI_e0, nI_m1, m1_nI, Nat.reduceEqDiff, Nat.reduceLT, Nat.reduceLeDiff, Nat.reduceAdd, Nat.reduceSub, Nat.reduceMul, ↓reduceIte, eq_self, r1 _, r2' _]
          · have V5 : ∀ Q, am_J 102 200 0 [some (.ref 349), none, none] [] m1 Q ↔ Q none m4 := fun Q => by rw [V2, V3, V4]
            rw [V1]
            simp (disch := first | with_reducible assumption | omega | exact Or.inl rfl | exact Or.inr rfl | exact bI_01 | exact c_cat | exact vt_ref | exact vt_null | rfl | with_reducible repeat (first | assumption | omega | apply S_I | apply S_L | apply S_D | apply ob_I | apply ob_L | apply ob_D | apply ob_R | apply ax_I | apply ax_L | apply ax_D | apply ax_R | apply o303 | apply o307 | apply o302 | apply o301 | apply ax304 | apply ax305 | apply ax306 | apply ax308 | apply ax309 | apply ax310 | apply lt_S | apply ar305 | apply ar308 | apply ar309)) only [g192_57, g192_58, g192_61, g192_64, g192_65, g192_68, g192_69, g192_72, Option.toList, List.nil_append, List.cons_append, va_rf, nI_ltI, nI_leI, nI_eq, nI_add, nI_sub, nI_lt0, nI_e0, nI_m1, m1_nI, Nat.reduceEqDiff, Nat.reduceLT, Nat.reduceLeDiff, Nat.reduceAdd, Nat.reduceSub, Nat.reduceMul, ↓reduceIte, eq_self, w28', V5 _, r3 _, r4 _]
        | .inl q5 =>
          rw [hmd] at X83 Y4
          have T4 := Y4.1
          have Gv83 : am_Gv h83 := Gv_fr Fr83' (by unfold rX; omega) (by unfold rX; omega) (by unfold rX; omega) (Gv_R Gx (by decide))
          obtain ⟨d1, d2, d3, d4, d5, d6⟩ := bX_frF BX0 Fr83'
          have KX : cfX h83 2 s 0 (fdI fnX x nf) a' nc nf x agX' cnX fnX fnA := ⟨by decide, b1, u2, b2, Nat.zero_le _, b3, by omega, by rw [k83 5 (by decide), A66.2.1 5 (by decide) (by decide)]; exact e5, fun c => absurd rfl c, fun _ => ⟨e8', g9, by rw [k83 4 (by decide)]; exact f4, fun i hi => by rw [l310 i]; exact gX i hi⟩, d4, d5, d6⟩
          have KM : cfM m4 2 s 0 (fdI fnX x nf) a' nc nf y agM' cnM fnM fnA := ⟨by decide, b1, u2, b2, Nat.zero_le _, b3, by omega, by rw [H4.2.1 28 (by omega), H3.2.1 28 (by omega), H2.2.1 28 (by omega)]; exact w28', fun c => absurd rfl c, fun c => absurd c (by decide), fun c => absurd c (by decide), fun _ => ⟨e32', q30, q31, fun i hi => by rw [q363]; exact gM i hi⟩, by rw [fr_rdI H4.1 (by omega), fr_rdI H3.1 (by omega)]; exact c1, fun i hi => by rw [fr_rdL H4.1 (by omega), fr_rdL H3.1 (by omega)]; exact c2 i hi, by rw [H4.2.1 16 (by omega)]; exact c3', fun i hi => ⟨by rw [fr_rdL H4.1 (by omega)]; exact (c4' i hi).1, by rw [fr_rdI H4.1 (by omega)]; exact (c4' i hi).2⟩⟩
          have KR : cfR 2 a' nc nf x y agX' agM' cnX cnM fnX fnM fnA := ⟨fun _ => ⟨hxy, hNM⟩, KC, KF, KD⟩
          have HO : (2 : Nat) = 2 → ∀ i, i < nf → i = fdI fnX x nf → fnM i = y := fun _ i hi e => by
            rw [e, ← ef]
            exact fdI_at (by rw [ef]; omega)
          obtain ⟨ft, hxa, hxb, hma, hmb, mr, r1, r2', r3, r4, S1', S2', F1, z1, z2, z3, F2, ⟨m, F3⟩, g22, g4, hR⟩ := J_bodyE HO T.2.1 Gv83 KX KR (Or.inr ⟨q5, lnx, lpx, lnm, lpm, X83, LX', Y4, LM', hW0, KM⟩)
          refine ⟨ft, hxb, hmb, fun Q => ?_, fun Q => ?_, fr_trans Fr83' F1.1, z1, z2, z3, ⟨m1, m2, m4, hma, m, Fm, k1, e2, H2, MHF_trans H3 H4, F2, F3⟩, g22, g4, fun e => ?_⟩
          · rw [W0, W83]
            simp (disch := first | with_reducible assumption | omega | exact Or.inl rfl | exact Or.inr rfl | exact bI_01 | exact c_cat | exact vt_ref | exact vt_null | rfl | with_reducible repeat (first | assumption | omega | apply S_I | apply S_L | apply S_D | apply ob_I | apply ob_L | apply ob_D | apply ob_R | apply ax_I | apply ax_L | apply ax_D | apply ax_R | apply o303 | apply o307 | apply o302 | apply o301 | apply ax304 | apply ax305 | apply ax306 | apply ax308 | apply ax309 | apply ax310 | apply lt_S | apply ar305 | apply ar308 | apply ar309)) only [g108_83, g108_84, g108_85, g108_88, g108_89, g108_92, Option.toList, List.nil_append, List.cons_append, va_rf, nI_ltI, nI_leI, nI_eq, nI_add, nI_sub, nI_lt0, nI_e0, nI_m1, m1_nI, Nat.reduceEqDiff, Nat.reduceLT, Nat.reduceLeDiff, Nat.reduceAdd, Nat.reduceSub, Nat.reduceMul, ↓reduceIte, eq_self, r1 _, r2' _]
          · have V5 : ∀ Q, am_J 102 200 0 [some (.ref 349), none, none] [] m1 Q ↔ Q none m4 := fun Q => by rw [V2, V3, V4]
            rw [V1]
            simp (disch := first | with_reducible assumption | omega | exact Or.inl rfl | exact Or.inr rfl | exact bI_01 | exact c_cat | exact vt_ref | exact vt_null | rfl | with_reducible repeat (first | assumption | omega | apply S_I | apply S_L | apply S_D | apply ob_I | apply ob_L | apply ob_D | apply ob_R | apply ax_I | apply ax_L | apply ax_D | apply ax_R | apply o303 | apply o307 | apply o302 | apply o301 | apply ax304 | apply ax305 | apply ax306 | apply ax308 | apply ax309 | apply ax310 | apply lt_S | apply ar305 | apply ar308 | apply ar309)) only [g192_57, g192_58, g192_61, g192_64, g192_65, g192_68, g192_69, g192_72, Option.toList, List.nil_append, List.cons_append, va_rf, nI_ltI, nI_leI, nI_eq, nI_add, nI_sub, nI_lt0, nI_e0, nI_m1, m1_nI, Nat.reduceEqDiff, Nat.reduceLT, Nat.reduceLeDiff, Nat.reduceAdd, Nat.reduceSub, Nat.reduceMul, ↓reduceIte, eq_self, w28', V5 _, r3 _, r4 _]
          · obtain ⟨hw0, RD⟩ := hR e
            refine ⟨q, fdI fnX x nf, a', agM', hK, by rw [ex], by omega, u2, fun c => ?_, ?_, ?_, ?_, ?_, ?_, ?_, fun i hi => ?_, fun i hi => ⟨_, hNM i hi⟩, ?_⟩
            · have := hWn hw0
              exact Classical.byContradiction (fun c2 => this ⟨c, c2⟩)
            · rw [F1.2.2.1 8, e8', ex]
            · rw [F1.2.1 9 (by decide)]; exact g9
            · rw [F1.2.1 4 (by decide), k83 4 (by decide)]; exact f4
            · rw [F3.2.2.1 32, F2.2.2.1 32, e32', ey]
            · rw [F3.2.1 30 (by omega), F2.2.1 30 (by omega)]; exact q30
            · rw [F3.2.1 31 (by omega), F2.2.1 31 (by omega)]; exact q31
            · rw [fr_rdL F3.1 (by omega), fr_rdL F2.1 (by omega), q363]; exact gM i hi
            · rw [ey]; exact RD
    · rw [eq] at hb
      exact absurd ⟨hK, hw⟩ hb
  · have hmd : ∃ y, mpass t n md2 40 = .inr y ∧ MX m2 t n (.inr y) (nI 0) (nI 0) 0 (am_I hm 349 24) (-1) := by
      rcases hM with ⟨hb, Y2⟩ | ⟨hb, hk, Y2⟩
      · rcases hN with ⟨q, eq, hK, hw, -⟩ | ⟨-, rfl, -⟩
        · rw [eq] at hb; exact absurd ⟨hK, hw⟩ hb
        · obtain ⟨y, ey⟩ := mdR_inr (f := 2) (md := md1 t n)
          rw [ey] at Y2 ⊢
          exact ⟨y, rfl, Y2⟩
      · rcases hN with ⟨q, eq, hK, hw, rfl, -⟩ | ⟨hb', -, -⟩
        · obtain ⟨y, ey⟩ := mdR_inr (f := 2) (md := mdA t n (md1 t n))
          rw [ey] at Y2
          exact ⟨y, by unfold mpass; rw [if_neg hk, ey], Y2⟩
        · exact absurd hb hb'
    obtain ⟨y, ey, Y2⟩ := hmd
    obtain ⟨h66, W66, Fr66, B66, hz⟩ := early y ey
    exact close (bad y h66 m2 m2 W66 Fr66 B66 hz H2 (MHF_of MF_refl) V2 (BM_of Y2 (Nat.le_refl 0)))
end JFU

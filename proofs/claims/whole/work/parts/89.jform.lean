/-! BOTH: a formula is read -/
/-- constants of a sheet and functions, in the class and in the model -/
def bX (h : am_H) (s nc nf : Nat) (cnX fnX : Nat → Int64) (fnA : Nat → Nat) : Prop :=
  s < 4 ∧ nc ≤ 5 ∧ nf ≤ 8 ∧ am_I h (321 + 7 * s) 1 = nI nc ∧ (∀ i, i < nc → ∃ e, 402 ≤ e ∧ am_R h (323 + 7 * s + i) 3 = some e ∧ am_ob h e 1 ∧ am_L h e 9 = cnX i) ∧
  ∀ i, i < 8 → (i < nf → ∃ e, 402 ≤ e ∧ am_R h 11 i = some e ∧ am_ob h e 1 ∧ am_L h e 9 = fnX i ∧ am_I h e 10 = nI (fnA i)) ∧ (nf ≤ i → am_R h 11 i = none)
def bM (h : am_H) (s nc nf : Nat) (cnM fnM : Nat → Int64) (fnA : Nat → Nat) : Prop :=
  am_I h 362 s = nI nc ∧ (∀ i, i < nc → am_L h 359 (5 * s + i) = cnM i) ∧ am_I h 349 16 = nI nf ∧ ∀ i, i < nf → am_L h 358 i = fnM i ∧ am_I h 361 i = nI (fnA i)
section JFO
variable {s nc nf : Nat} {cnX cnM fnX fnM : Nat → Int64} {fnA : Nat → Nat} {t : Nat → Nat} {n : Nat} {hx hm h2 : am_H}
theorem cfX_form (B : bX hx s nc nf cnX fnX fnA) (Fr : am_fr rX (am_setR (am_setR hx 302 0 (some 5)) 301 6 (some (321 + 7 * s))) h2) (e5 : am_I h2 301 5 = nI 0) (e7 : am_I h2 301 7 = nI nc) : cfX h2 0 s nc 0 0 nc nf (lN 0) (fun _ => lN 0) cnX fnX fnA := by
  obtain ⟨b1, b2, b3, b4, b5, b6⟩ := B
  refine ⟨by decide, b1, by decide, b2, Nat.le_refl _, b3, by decide, e5, fun _ => ⟨?_, e7⟩, fun c => absurd c (by decide), ?_, fun i hi => ?_, fun i hi => ⟨fun hi2 => ?_, fun hi2 => ?_⟩⟩
  · rw [fr_rdR Fr, hR_R, if_pos rfl, if_pos rfl]
  · rw [fr_rdI Fr (by unfold rX; omega), hI_R, hI_R]; exact b4
  · obtain ⟨e, h1, h2', h3, h4⟩ := b5 i hi
    refine ⟨e, h1, ?_, fr_ob Fr (ob_R (ob_R h3)), ?_⟩
    · rw [fr_rdR Fr, hR_R, if_neg (by omega), hR_R, if_neg (by omega)]; exact h2'
    · rw [fr_rdL Fr (by unfold rX; omega), hL_R, hL_R]; exact h4
  · obtain ⟨e, h1, h2', h3, h4, h5⟩ := (b6 i hi).1 hi2
    refine ⟨e, h1, ?_, fr_ob Fr (ob_R (ob_R h3)), ?_, ?_⟩
    · rw [fr_rdR Fr, hR_R, if_neg (by decide), hR_R, if_neg (by decide)]; exact h2'
    · rw [fr_rdL Fr (by unfold rX; omega), hL_R, hL_R]; exact h4
    · rw [fr_rdI Fr (by unfold rX; omega), hI_R, hI_R]; exact h5
  · rw [fr_rdR Fr, hR_R, if_neg (by decide), hR_R, if_neg (by decide)]; exact (b6 i hi).2 hi2
theorem Gv_R {a k : Nat} {x : Option Nat} (G : am_Gv hx) (ha : a ≠ 2) : am_Gv (am_setR hx a k x) := by
  obtain ⟨a1, a2, a3, a4, a5, a6, a7⟩ := G
  exact ⟨a1, a2, a3, by rw [hR_R, if_neg (fun e => ha e.symm)]; exact a4, a5, a6, a7⟩
theorem J_formula (SX0 : am_S hx) (SM0 : am_S hm) (Gx : am_Gv hx) (Gm : am_Gv hm) (T : tX hx t n) {cc : Nat} (hcc : cc < 256) (h7 : am_I hx 302 7 = nI cc) (hm2 : am_I hm 349 2 = nI n) (TM : ∀ j, j < n → 1 ≤ t j ∧ t j ≤ 255 ∧ am_I hm 350 j = nI (t j)) (w28 : am_I hm 349 28 = nI 0) (w29 : am_I hm 349 29 = nI s) (BX0 : bX hx s nc nf cnX fnX fnA) (BM0 : bM hm s nc nf cnM fnM fnA) (KR : cfR 0 0 nc nf (lN 0) (lN 0) (fun _ => lN 0) (fun _ => lN 0) cnX cnM fnX fnM fnA) :
    ∃ ft hx' hm', am_run 103 75 [some (.ref 301), some (.ref 5), some (.ref (321 + 7 * s))] hx (some (.int (foI ft))) hx' ∧ am_run 103 192 [some (.ref 349), none] hm (some (.int (foI ft))) hm' ∧ am_fr rX (am_setR (am_setR hx 302 0 (some 5)) 301 6 (some (321 + 7 * s))) hx' ∧ am_I hx' 302 9 = fpI ft ∧ (∃ c, c < 256 ∧ am_I hx' 302 7 = nI c) ∧ (∀ z, ft = some z → z.1 ≠ 0 ∧ z.1 < 100) ∧
      (∃ h1 h2 m, am_fr (fun a => a = 349) hm h1 ∧ (∀ k, k ∉ [2, 4, 17, 18, 19, 20, 21, 22, 23, 25, 26, 27, 31] → am_I h1 349 k = am_I hm 349 k) ∧ (∀ k, am_L h1 349 k = am_L hm 349 k) ∧ am_I h1 349 2 = nI 0 ∧ MF h1 h2 0 ∧ ME h2 hm' m) ∧ am_I hm' 349 22 = foI ft ∧ am_I hm' 349 4 = fpI ft ∧ (ft = none → RD3 0 0 nc 0 nf (lN 0) (fun _ => lN 0) cnM fnM fnA hx' hm') := by
  obtain ⟨b1, b2, b3, b4, b5, b6⟩ := id BX0
  obtain ⟨h2, W2, Fr, X, e5, e7⟩ := x_fbegin (d := 98) SX0 T hcc h7 b1 b4
  obtain ⟨m1, V1, Fm, Y, k1, l1, e31, e2⟩ := m_begin (d := 99) SM0 Gm hm2 T.2.1 TM
  have KX := cfX_form BX0 Fr e5 e7
  obtain ⟨c1, c2, c3, c4⟩ := BM0
  have KM : cfM m1 0 s nc 0 0 nc nf (lN 0) (fun _ => lN 0) cnM fnM fnA := ⟨by decide, b1, by decide, b2, Nat.le_refl _, b3, by decide, by rw [k1 28 (by decide)]; exact w28, fun _ => by rw [k1 29 (by decide)]; exact w29, fun _ => rfl, fun c => absurd c (by decide), fun c => absurd c (by decide), by rw [fr_rdI Fm (by decide)]; exact c1, fun i hi => by rw [fr_rdL Fm (by decide)]; exact c2 i hi, by rw [k1 16 (by decide)]; exact c3, fun i hi => ⟨by rw [fr_rdL Fm (by decide)]; exact (c4 i hi).1, by rw [fr_rdI Fm (by decide)]; exact (c4 i hi).2⟩⟩
  have Gv2 : am_Gv h2 := Gv_fr Fr (by unfold rX; omega) (by unfold rX; omega) (by unfold rX; omega) (Gv_R (Gv_R Gx (by decide)) (by decide))
  have Z : (∃ y, BX h2 t n y ∧ BM m1 t n y 0) ∨ ∃ q lnx lpx lnm lpm, PX h2 t n (.inl q) [] [] [] (nI 0) (nI 0) (nI 0) lnx lpx ∧ LT lnx lpx (mgO (some (0, 2000)) none) ∧ MX m1 t n (.inl q) (nI 0) (nI 0) 0 lnm lpm ∧ LT lnm lpm none ∧ (∀ z : Nat × Nat, none = some z → z.2 ≤ 240) ∧ cfM m1 0 s nc 0 0 nc nf (lN 0) (fun _ => lN 0) cnM fnM fnA := by
    match hA : md1 t n with
    | .inr y =>
      rw [hA] at X Y
      exact Or.inl ⟨y, BX_of X, BM_of Y (Nat.le_refl _)⟩
    | .inl q =>
      rw [hA] at X Y
      exact Or.inr ⟨q, _, _, _, _, X, ⟨rfl, Or.inr ⟨rfl, rfl⟩⟩, Y, rfl, (fun z e => by cases e), KM⟩
  obtain ⟨ft, hxa, hxb, hma, hmb, mr, r1, r2, r3, r4, S1, S2, F1, e9, c7, z7, F2, ⟨m, F3⟩, g22, g4, hR⟩ := J_bodyE (fun c => absurd c (by decide)) T.2.1 Gv2 KX KR Z
  have S0 := X.1
  have T0 := Y.1
  have w28' : am_I m1 349 28 = nI 0 := by rw [k1 28 (by decide)]; exact w28
  refine ⟨ft, hxb, hmb, fun Q => ?_, fun Q => ?_, fr_trans Fr F1.1, e9, c7, z7, ⟨m1, hma, m, Fm, k1, l1, e2, F2, F3⟩, g22, g4, fun e => (hR e).2⟩
  · rw [W2]
    simp (disch := first | with_reducible assumption | omega | exact Or.inl rfl | exact Or.inr rfl | exact bI_01 | exact c_cat | exact vt_ref | exact vt_null | rfl | with_reducible repeat (first | assumption | omega | apply S_I | apply S_L | apply S_D | apply ob_I | apply ob_L | apply ob_D | apply ob_R | apply ax_I | apply ax_L | apply ax_D | apply ax_R | apply o303 | apply o307 | apply o302 | apply o301 | apply ax304 | apply ax305 | apply ax306 | apply ax308 | apply ax309 | apply ax310 | apply lt_S | apply ar305 | apply ar308 | apply ar309)) only [g75_19, g75_20, g75_21, g75_24, g75_25, g75_28, Option.toList, List.nil_append, List.cons_append, va_rf, r1 _, r2 _]
  · rw [V1]
    simp (disch := first | with_reducible assumption | omega | exact Or.inl rfl | exact Or.inr rfl | exact bI_01 | exact c_cat | exact vt_ref | exact vt_null | rfl | with_reducible repeat (first | assumption | omega | apply S_I | apply S_L | apply S_D | apply ob_I | apply ob_L | apply ob_D | apply ob_R | apply ax_I | apply ax_L | apply ax_D | apply ax_R | apply o303 | apply o307 | apply o302 | apply o301 | apply ax304 | apply ax305 | apply ax306 | apply ax308 | apply ax309 | apply ax310 | apply lt_S | apply ar305 | apply ar308 | apply ar309)) only [g192_57, g192_58, g192_61, g192_68, g192_69, g192_72, Option.toList, List.nil_append, List.cons_append, va_rf, nI_ltI, nI_leI, nI_eq, nI_add, nI_sub, nI_lt0, nI_e0, nI_m1, m1_nI, Nat.reduceEqDiff, Nat.reduceLT, Nat.reduceLeDiff, Nat.reduceAdd, Nat.reduceSub, Nat.reduceMul, ↓reduceIte, eq_self, w28', r3 _, r4 _]
end JFO

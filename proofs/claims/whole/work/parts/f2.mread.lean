/-! THE MODEL: reading a cell, a name, a sign between two -/
/-- a number that is not infinite -/
def okV (v : VL) : Prop := match v with
  | .inl _ => True
  | .inr y => okD y
theorem okD_fin {x : UInt64} (h : okD x) : Jvm.FP.Core.DFin x := by
  rw [Jvm.FP.Core.fin_bits]
  have h2 := UInt64.lt_iff_toNat_lt.mp h
  rw [Jvm.FP.Core.mask_toNat] at h2
  exact h2
theorem ok_l2d (x : Int64) : okD (Jvm.FP.l2d x) := okD_of (Jvm.FP.Core.l2d_fin x)
theorem ok_vD {v : VL} (h : okV v) : okD (vD v) := by
  match v, h with
  | .inl x, _ => exact ok_l2d x
  | .inr y, h => exact h
theorem nn_of {x : UInt64} (h : Jvm.FP.Core.dIsNaN x = false) : am_nn x := by
  refine UInt64.le_iff_toNat_le.mpr ?_
  rw [Jvm.FP.Core.mask_toNat]
  exact (Jvm.FP.Core.ne_nan x).mp ((Jvm.FP.Core.notNaN_iff x).mp h)
section OKF
variable {x y : UInt64}
theorem ok_add (hx : okD x) (hy : okD y) : am_nn (Jvm.FP.dadd x y) := nn_of (Jvm.FP.Core.dadd_out (okD_fin hx).notNaN (okD_fin hy))
theorem ok_sub (hx : okD x) (hy : okD y) : am_nn (Jvm.FP.dsub x y) := nn_of (Jvm.FP.Core.dsub_out (okD_fin hx).notNaN (okD_fin hy))
theorem ok_mul (hx : okD x) (hy : okD y) : am_nn (Jvm.FP.dmul x y) := nn_of (Jvm.FP.Core.dmul_out (okD_fin hx) (okD_fin hy))
theorem nz_of (h : deq y Jvm.FP.dconst0 = false) : ¬ Jvm.FP.Core.DZero y := fun q => by
  have e : Jvm.FP.Core.dcmp y 0 = some .eq := Jvm.FP.Core.zero_iff.mpr q
  unfold deq at h
  exact of_decide_eq_false h e
theorem ok_div (hx : okD x) (hy : okD y) (h : deq y Jvm.FP.dconst0 = false) : am_nn (Jvm.FP.ddiv x y) := nn_of (Jvm.FP.Core.ddiv_out (okD_fin hx).notNaN (okD_fin hy) (nz_of h))
theorem ok_rem (hx : okD x) (hy : okD y) (h : deq y Jvm.FP.dconst0 = false) : am_nn (Jvm.FP.drem x y) := nn_of (Jvm.FP.Core.drem_out (okD_fin hx) (okD_fin hy).notNaN (nz_of h))
end OKF
abbrev rcP : Nat → Prop := fun a => a = 349 ∨ a = 372 ∨ a = 373
theorem giveL_fr {d : Nat} {g g' : am_H} {x : Int64} (S : am_S g) (R : am_run d 244 [some (.ref 349), some (.long x), none] g none g') : am_fr rcP g g' := by
  have R2 : am_run d 244 [some (.ref 349), some (.long x), none] g none (am_setL (am_setI g 349 59 (nI 1)) 349 65 x) := fun Q => by
    simp (disch := first | with_reducible assumption | omega | exact Or.inl rfl | exact Or.inr rfl | exact bI_01 | exact c_cat | exact vt_ref | exact vt_null | rfl | with_reducible repeat (first | assumption | omega | apply S_I | apply S_L | apply S_D | apply ob_I | apply ob_L | apply ob_D | apply ob_R | apply ax_I | apply ax_L | apply ax_D | apply ax_R | apply o303 | apply o307 | apply o302 | apply o301 | apply ax304 | apply ax305 | apply ax306 | apply ax308 | apply ax309 | apply ax310 | apply lt_S | apply ar305 | apply ar308 | apply ar309)) only [g244_0, g244_1, g244_2, g244_5, g244_6, g244_7, g244_10, Option.toList, List.nil_append, List.cons_append, va_rf]
  rw [(am_run_fun R R2).2]
  exact fr_L (fr_I fr_refl (Or.inl rfl)) (Or.inl rfl)
theorem giveD_fr {d : Nat} {g g' : am_H} {x : UInt64} (S : am_S g) (kx : okD x) (R : am_run d 245 [some (.ref 349), some (.double x), none] g none g') : am_fr rcP g g' := by
  have nn := okD_nn kx
  have fk := fin_key nn
  have e1 := cm_g nn nn_max .l
  have e2 := cm_ge nn nn_min .g
  rw [dk_max] at e1
  rw [dk_min] at e2
  obtain ⟨k1, k2⟩ := fk.mp (finB_ok.mpr kx)
  have R2 : am_run d 245 [some (.ref 349), some (.double x), none] g none (am_setD (am_setI g 349 59 (nI 2)) 349 66 x) := fun Q => by
    simp (disch := first | with_reducible assumption | omega | exact Or.inl rfl | exact Or.inr rfl | exact bI_01 | exact c_cat | exact vt_ref | exact vt_null | rfl | with_reducible repeat (first | assumption | omega | apply S_I | apply S_L | apply S_D | apply ob_I | apply ob_L | apply ob_D | apply ob_R | apply ax_I | apply ax_L | apply ax_D | apply ax_R | apply o303 | apply o307 | apply o302 | apply o301 | apply ax304 | apply ax305 | apply ax306 | apply ax308 | apply ax309 | apply ax310 | apply lt_S | apply ar305 | apply ar308 | apply ar309)) only [g245_0, g245_1, g245_4, g245_5, g245_8, g245_9, g245_12, g245_13, g245_16, g245_17, g245_18, g245_21, g245_22, g245_23, g245_24, g245_27, g245_28, g245_29, g245_32, Option.toList, List.nil_append, List.cons_append, va_rf, e1, e2, eq_false (show ¬ (9218868437227405311 : Int) < Jvm.FP.Core.dkey x by omega), eq_true (show (-9218868437227405311 : Int) ≤ Jvm.FP.Core.dkey x by omega), ↓reduceIte]
  rw [(am_run_fun R R2).2]
  exact fr_D (fr_I fr_refl (Or.inl rfl)) (Or.inl rfl)
section MRE
variable {h g g' : am_H} {r dp t d c : Nat} {σ : SR} {cv : Nat → Option (Option VL)} {P : Nat → Prop}
theorem m_note {v2 v3 : Option Value} (A : MW h g r dp t σ) (S : am_S h) (cr : r < 256) (hc : c < 256) : ∃ g1, (∀ Q, am_J d 246 0 [some (.ref 349), some (.int (nI c)), v2, v3] [] g Q ↔ am_J d 246 60 [some (.ref 349), some (.int (nI c)), v2, v3] [] g1 Q) ∧ MW h g1 r dp t (σ.1, σ.2 ++ [c]) ∧ AK g g1 t ∧ (∀ k, am_I g1 349 k = am_I g 349 k) ∧ am_fr rcP g g1 := by
  have Sg := MW_S A S
  obtain ⟨a1, a2, a3, a4, a5, a6, a7, a8, a9, a10, a11⟩ := id A
  obtain ⟨b1, b2⟩ := a9 cr
  by_cases cl : σ.2.length < 24
  · have e1 : min 24 σ.2.length = σ.2.length := by omega
    rw [e1] at b1
    refine ⟨am_setI (am_setI g 372 (24 * r + σ.2.length) (nI c)) 373 r (nI (σ.2.length + 1)), fun Q => ?_, ⟨fr_I (fr_I a1 (by omega)) (by omega), fun k hk => by rw [rI_a (by decide), rI_a (by decide)]; exact a2 k hk, a3, by rw [rI_a (by decide), rI_a (by decide)]; exact a4, by rw [rI_a (by decide), rI_a (by decide)]; exact a5, by rw [rI_a (by decide), rI_a (by decide)]; exact a6, a7, by rw [rI_a (by decide), rI_a (by decide)]; exact a8, fun _ => ⟨?_, fun i h1 h2 => ?_⟩, fun k hk => by rw [rI_k hk, rI_a (by decide)]; exact a10 k hk, fun k hk => by rw [rI_a (by decide), rI_k (by omega)]; exact a11 k hk⟩, fun j _ => ⟨by rw [rI_a (by decide), rI_a (by decide)], rfl, rfl⟩, fun k => by rw [rI_a (by decide), rI_a (by decide)], fr_I (fr_I fr_refl (Or.inr (Or.inl rfl))) (Or.inr (Or.inr rfl))⟩
    · simp (disch := first | with_reducible assumption | omega | exact Or.inl rfl | exact Or.inr rfl | exact bI_01 | exact c_cat | exact vt_ref | exact vt_null | rfl | with_reducible repeat (first | assumption | omega | apply S_I | apply S_L | apply S_D | apply ob_I | apply ob_L | apply ob_D | apply ob_R | apply ax_I | apply ax_L | apply ax_D | apply ax_R | apply o303 | apply o307 | apply o302 | apply o301 | apply ax304 | apply ax305 | apply ax306 | apply ax308 | apply ax309 | apply ax310 | apply lt_S | apply ar305 | apply ar308 | apply ar309)) only [g246_0, g246_1, g246_4, g246_5, g246_8, g246_9, g246_11, g246_14, g246_15, g246_18, g246_21, g246_24, g246_25, g246_28, g246_30, g246_31, g246_34, g246_35, g246_36, g246_39, g246_40, g246_43, g246_44, g246_45, g246_46, g246_47, g246_48, g246_51, g246_52, g246_55, g246_56, g246_57, g246_58, g246_59, g246_55 (a := 0), Option.toList, List.nil_append, List.cons_append, va_rf, nI_ltI, nI_leI, nI_eq, nI_add, nI_sub, nI_lt0, nI_e0, nI_m1, m1_nI, Nat.reduceEqDiff, Nat.reduceLT, Nat.reduceLeDiff, Nat.reduceAdd, Nat.reduceSub, Nat.reduceMul, ↓reduceIte, eq_self, hI_I, hI_L, hI_D, hI_R, hL_I, hL_L, hL_D, hL_R, hD_I, hD_L, hD_D, hD_R, hR_I, hR_L, hR_D, ↓reduceIte, Nat.reduceEqDiff, nI_mul, a6, b1, show ¬ 24 ≤ σ.2.length by omega, show ¬ 256 ≤ r by omega]
    · show _ = nI (min 24 (σ.2 ++ [c]).length)
      rw [rI_eq, List.length_append]
      show nI (σ.2.length + 1) = nI (min 24 (σ.2.length + 1))
      congr 1; omega
    · show _ = nI ((σ.2 ++ [c]).getD i 0)
      rw [rI_a (by decide)]
      have h2 : i < (σ.2 ++ [c]).length := h2
      rw [List.length_append, List.length_cons, List.length_nil] at h2
      by_cases ci : i < σ.2.length
      · rw [rI_k (by omega), b2 i h1 ci, List.getD_eq_getElem?_getD, List.getD_eq_getElem?_getD, List.getElem?_append_left ci]
      · obtain rfl : i = σ.2.length := by omega
        rw [rI_eq, List.getD_eq_getElem?_getD, List.getElem?_append_right (Nat.le_refl _), Nat.sub_self]
        rfl
  · have e1 : min 24 σ.2.length = 24 := by omega
    rw [e1] at b1
    refine ⟨g, fun Q => ?_, ⟨a1, a2, a3, a4, a5, a6, a7, a8, fun _ => ⟨?_, fun i h1 h2 => ?_⟩, a10, a11⟩, AK_refl, fun k => rfl, fr_refl⟩
    · simp (disch := first | with_reducible assumption | omega | exact Or.inl rfl | exact Or.inr rfl | exact bI_01 | exact c_cat | exact vt_ref | exact vt_null | rfl | with_reducible repeat (first | assumption | omega | apply S_I | apply S_L | apply S_D | apply ob_I | apply ob_L | apply ob_D | apply ob_R | apply ax_I | apply ax_L | apply ax_D | apply ax_R | apply o303 | apply o307 | apply o302 | apply o301 | apply ax304 | apply ax305 | apply ax306 | apply ax308 | apply ax309 | apply ax310 | apply lt_S | apply ar305 | apply ar308 | apply ar309)) only [g246_0, g246_1, g246_4, g246_5, g246_8, g246_9, g246_11, g246_14, g246_15, g246_18, g246_21, g246_24, g246_25, g246_28, g246_30, g246_31, g246_34, g246_35, g246_36, g246_39, g246_40, g246_43, g246_44, g246_45, g246_46, g246_47, g246_48, g246_51, g246_52, g246_55, g246_56, g246_57, g246_58, g246_59, Option.toList, List.nil_append, List.cons_append, va_rf, nI_ltI, nI_leI, nI_eq, nI_add, nI_sub, nI_lt0, nI_e0, nI_m1, m1_nI, Nat.reduceEqDiff, Nat.reduceLT, Nat.reduceLeDiff, Nat.reduceAdd, Nat.reduceSub, Nat.reduceMul, ↓reduceIte, eq_self, a6, b1]
    · show _ = nI (min 24 (σ.2 ++ [c]).length)
      rw [b1, List.length_append]
      congr 1; omega
    · show _ = nI ((σ.2 ++ [c]).getD i 0)
      rw [b2 i h1 (by omega), List.getD_eq_getElem?_getD, List.getD_eq_getElem?_getD, List.getElem?_append_left (by omega)]
theorem m_readCell (A : MW h g r dp t σ) (S : am_S h) (sp : am_I g 349 64 = nI 0) (C : cvH h cv P) (cr : r < 256) (hc : P c) (ps : Bool) : ∃ g', am_run (d + 2) 246 [some (.ref 349), some (.int (nI c)), some (.int (bI ps)), none] g none g' ∧ MW h g' r dp t (σ.1, σ.2 ++ [c]) ∧ AK g g' t ∧ (∀ o, rdR cv c ps = some o → MO h g' r o) ∧ (rdR cv c ps = none → am_I g' 349 59 = nI 3 ∧ am_I g' 349 64 = nI 0) ∧ am_fr rcP g g' := by
  obtain ⟨hc2, hv⟩ := C c hc
  obtain ⟨g1, r1, A1, K1, e1, F1⟩ := m_note (d := d + 2) (v2 := some (.int (bI ps))) (v3 := none) A S cr hc2
  have S1 := MW_S A1 S
  have sp1 : am_I g1 349 64 = nI 0 := (e1 64).trans sp
  unfold rdR
  match hcv : cv c with
  | none =>
    rw [hcv] at hv
    have s0 : am_I g1 365 c = nI 0 := (fr_rdI A1.1 (by decide)).trans hv
    cases ps with
    | true =>
      refine ⟨am_setI g1 349 59 (nI 3), fun Q => ?_, MW_I A1 (by omega), AK_trans K1 AK_I, fun o ho => ?_, fun _ => ⟨rI_eq, by rw [rI_k (by decide)]; exact sp1⟩, fr_I F1 (Or.inl rfl)⟩
      · rw [r1]
        simp (disch := first | with_reducible assumption | omega | exact Or.inl rfl | exact Or.inr rfl | exact bI_01 | exact c_cat | exact vt_ref | exact vt_null | rfl | with_reducible repeat (first | assumption | omega | apply S_I | apply S_L | apply S_D | apply ob_I | apply ob_L | apply ob_D | apply ob_R | apply ax_I | apply ax_L | apply ax_D | apply ax_R | apply o303 | apply o307 | apply o302 | apply o301 | apply ax304 | apply ax305 | apply ax306 | apply ax308 | apply ax309 | apply ax310 | apply lt_S | apply ar305 | apply ar308 | apply ar309)) only [g246_60, g246_61, g246_64, g246_65, g246_66, g246_67, g246_68, g246_69, g246_72, g246_73, g246_74, g246_77, g246_78, g246_79, g246_82, g246_85, g246_86, g246_87, g246_90, g246_91, g246_92, g246_95, g246_96, g246_97, g246_100, g246_103, g246_104, g246_107, g246_108, g246_111, g246_112, g246_113, g246_116, g246_119, g246_120, g246_121, g246_124, g246_127, g246_128, g246_129, g246_132, g246_133, g246_134, g246_137, g246_138, g246_139, g246_142, g246_143, g246_144, g246_147, g246_148, g246_149, g246_152, g246_153, g246_154, g246_157, g246_158, g246_159, g246_162, g246_163, g246_164, g246_167, Option.toList, List.nil_append, List.cons_append, va_rf, nI_ltI, nI_leI, nI_eq, nI_add, nI_sub, nI_lt0, nI_e0, nI_m1, m1_nI, Nat.reduceEqDiff, Nat.reduceLT, Nat.reduceLeDiff, Nat.reduceAdd, Nat.reduceSub, Nat.reduceMul, ↓reduceIte, eq_self, s0, bI_t]
      · cases ho
    | false =>
      have fl := m_fail (d := d + 1) (k := 3) A1 S
      refine ⟨gFa g1 3 r, fun Q => ?_, gFa_W A1, AK_trans K1 gFa_A, fun o ho => ?_, fun q => ?_, fr_I (fr_I (fr_I (fr_I (fr_I F1 (Or.inl rfl)) (Or.inl rfl)) (Or.inl rfl)) (Or.inl rfl)) (Or.inl rfl)⟩
      · rw [r1]
        simp (disch := first | with_reducible assumption | omega | exact Or.inl rfl | exact Or.inr rfl | exact bI_01 | exact c_cat | exact vt_ref | exact vt_null | rfl | with_reducible repeat (first | assumption | omega | apply S_I | apply S_L | apply S_D | apply ob_I | apply ob_L | apply ob_D | apply ob_R | apply ax_I | apply ax_L | apply ax_D | apply ax_R | apply o303 | apply o307 | apply o302 | apply o301 | apply ax304 | apply ax305 | apply ax306 | apply ax308 | apply ax309 | apply ax310 | apply lt_S | apply ar305 | apply ar308 | apply ar309)) only [g246_60, g246_61, g246_64, g246_65, g246_66, g246_67, g246_68, g246_69, g246_72, g246_73, g246_74, g246_77, g246_78, g246_79, g246_82, g246_85, g246_86, g246_87, g246_90, g246_91, g246_92, g246_95, g246_96, g246_97, g246_100, g246_103, g246_104, g246_107, g246_108, g246_111, g246_112, g246_113, g246_116, g246_119, g246_120, g246_121, g246_124, g246_127, g246_128, g246_129, g246_132, g246_133, g246_134, g246_137, g246_138, g246_139, g246_142, g246_143, g246_144, g246_147, g246_148, g246_149, g246_152, g246_153, g246_154, g246_157, g246_158, g246_159, g246_162, g246_163, g246_164, g246_167, Option.toList, List.nil_append, List.cons_append, va_rf, nI_ltI, nI_leI, nI_eq, nI_add, nI_sub, nI_lt0, nI_e0, nI_m1, m1_nI, Nat.reduceEqDiff, Nat.reduceLT, Nat.reduceLeDiff, Nat.reduceAdd, Nat.reduceSub, Nat.reduceMul, ↓reduceIte, eq_self, s0, bI_f, fl _]
      · obtain rfl : oF 3 = o := Option.some.inj ho
        exact gFa_O (by decide) sp1
      · cases q
  | some none =>
    rw [hcv] at hv
    obtain ⟨s, s3, s5, hs⟩ := hv
    have s0 : am_I g1 365 c = nI s := (fr_rdI A1.1 (by decide)).trans hs
    have f1 : am_I g1 366 c = am_I h 366 c := fr_rdI A1.1 (by decide)
    have f2 : am_I g1 367 c = am_I h 367 c := fr_rdI A1.1 (by decide)
    have f3 : am_I g1 368 c = am_I h 368 c := fr_rdI A1.1 (by decide)
    refine ⟨am_setI (am_setI (am_setI (am_setI (am_setI g1 349 59 (nI 0)) 349 60 (am_I h 366 c)) 349 61 (am_I h 367 c)) 349 62 (am_I h 368 c)) 349 63 (nI 1), fun Q => ?_, MW_I (MW_I (MW_I (MW_I (MW_I A1 (by omega)) (by omega)) (by omega)) (by omega)) (by omega), AK_trans K1 (AK_trans (AK_trans (AK_trans (AK_trans AK_I AK_I) AK_I) AK_I) AK_I), fun o ho => ?_, fun q => ?_, fr_I (fr_I (fr_I (fr_I (fr_I F1 (Or.inl rfl)) (Or.inl rfl)) (Or.inl rfl)) (Or.inl rfl)) (Or.inl rfl)⟩
    · rw [r1]
      simp (disch := first | with_reducible assumption | omega | exact Or.inl rfl | exact Or.inr rfl | exact bI_01 | exact c_cat | exact vt_ref | exact vt_null | rfl | with_reducible repeat (first | assumption | omega | apply S_I | apply S_L | apply S_D | apply ob_I | apply ob_L | apply ob_D | apply ob_R | apply ax_I | apply ax_L | apply ax_D | apply ax_R | apply o303 | apply o307 | apply o302 | apply o301 | apply ax304 | apply ax305 | apply ax306 | apply ax308 | apply ax309 | apply ax310 | apply lt_S | apply ar305 | apply ar308 | apply ar309)) only [g246_60, g246_61, g246_64, g246_65, g246_66, g246_67, g246_68, g246_69, g246_72, g246_73, g246_74, g246_77, g246_78, g246_79, g246_82, g246_85, g246_86, g246_87, g246_90, g246_91, g246_92, g246_95, g246_96, g246_97, g246_100, g246_103, g246_104, g246_107, g246_108, g246_111, g246_112, g246_113, g246_116, g246_119, g246_120, g246_121, g246_124, g246_127, g246_128, g246_129, g246_132, g246_133, g246_134, g246_137, g246_138, g246_139, g246_142, g246_143, g246_144, g246_147, g246_148, g246_149, g246_152, g246_153, g246_154, g246_157, g246_158, g246_159, g246_162, g246_163, g246_164, g246_167, Option.toList, List.nil_append, List.cons_append, va_rf, nI_ltI, nI_leI, nI_eq, nI_add, nI_sub, nI_lt0, nI_e0, nI_m1, m1_nI, Nat.reduceEqDiff, Nat.reduceLT, Nat.reduceLeDiff, Nat.reduceAdd, Nat.reduceSub, Nat.reduceMul, ↓reduceIte, eq_self, hI_I, hI_L, hI_D, hI_R, hL_I, hL_L, hL_D, hL_R, hD_I, hD_L, hD_D, hD_R, hR_I, hR_L, hR_D, ↓reduceIte, Nat.reduceEqDiff, s0, f1, f2, f3, show ¬ s = 1 by omega, show ¬ s = 2 by omega, show ¬ s = 0 by omega]
    · obtain rfl : .inr (.inr c) = o := Option.some.inj ho
      unfold MO
      simp only [hI_I, hI_L, hI_D, hI_R, hL_I, hL_L, hL_D, hL_R, hD_I, hD_L, hD_D, hD_R, hR_I, hR_L, hR_D, ↓reduceIte, Nat.reduceEqDiff]
      exact ⟨trivial, trivial, trivial, trivial, trivial, sp1⟩
    · cases q
  | some (some (.inl x)) =>
    rw [hcv] at hv
    obtain ⟨v1, v2⟩ := hv
    have s0 : am_I g1 365 c = nI 1 := (fr_rdI A1.1 (by decide)).trans v1
    have f1 : am_L g1 370 c = x := (fr_rdL A1.1 (by decide)).trans v2
    obtain ⟨g2, r2, A2, K2, O2⟩ := m_giveL (d := d + 1) (x := x) A1 S sp1
    refine ⟨g2, fun Q => ?_, A2, AK_trans K1 K2, fun o ho => ?_, fun q => ?_, fr_trans F1 (giveL_fr S1 r2)⟩
    · rw [r1]
      simp (disch := first | with_reducible assumption | omega | exact Or.inl rfl | exact Or.inr rfl | exact bI_01 | exact c_cat | exact vt_ref | exact vt_null | rfl | with_reducible repeat (first | assumption | omega | apply S_I | apply S_L | apply S_D | apply ob_I | apply ob_L | apply ob_D | apply ob_R | apply ax_I | apply ax_L | apply ax_D | apply ax_R | apply o303 | apply o307 | apply o302 | apply o301 | apply ax304 | apply ax305 | apply ax306 | apply ax308 | apply ax309 | apply ax310 | apply lt_S | apply ar305 | apply ar308 | apply ar309)) only [g246_60, g246_61, g246_64, g246_65, g246_66, g246_67, g246_68, g246_69, g246_72, g246_73, g246_74, g246_77, g246_78, g246_79, g246_82, g246_85, g246_86, g246_87, g246_90, g246_91, g246_92, g246_95, g246_96, g246_97, g246_100, g246_103, g246_104, g246_107, g246_108, g246_111, g246_112, g246_113, g246_116, g246_119, g246_120, g246_121, g246_124, g246_127, g246_128, g246_129, g246_132, g246_133, g246_134, g246_137, g246_138, g246_139, g246_142, g246_143, g246_144, g246_147, g246_148, g246_149, g246_152, g246_153, g246_154, g246_157, g246_158, g246_159, g246_162, g246_163, g246_164, g246_167, Option.toList, List.nil_append, List.cons_append, va_rf, nI_ltI, nI_leI, nI_eq, nI_add, nI_sub, nI_lt0, nI_e0, nI_m1, m1_nI, Nat.reduceEqDiff, Nat.reduceLT, Nat.reduceLeDiff, Nat.reduceAdd, Nat.reduceSub, Nat.reduceMul, ↓reduceIte, eq_self, s0, f1, r2 _]
    · obtain rfl : .inl (.inl x) = o := Option.some.inj ho
      exact O2
    · cases q
  | some (some (.inr y)) =>
    rw [hcv] at hv
    obtain ⟨v1, v2, v3⟩ := hv
    have s0 : am_I g1 365 c = nI 2 := (fr_rdI A1.1 (by decide)).trans v1
    have f1 : am_D g1 371 c = y := (fr_rdD A1.1 (by decide)).trans v2
    obtain ⟨g2, r2, A2, K2, O2⟩ := m_giveD (d := d) (x := y) A1 S sp1 (okD_nn v3)
    refine ⟨g2, fun Q => ?_, A2, AK_trans K1 K2, fun o ho => ?_, fun q => ?_, fr_trans F1 (giveD_fr S1 v3 r2)⟩
    · rw [r1]
      simp (disch := first | with_reducible assumption | omega | exact Or.inl rfl | exact Or.inr rfl | exact bI_01 | exact c_cat | exact vt_ref | exact vt_null | rfl | with_reducible repeat (first | assumption | omega | apply S_I | apply S_L | apply S_D | apply ob_I | apply ob_L | apply ob_D | apply ob_R | apply ax_I | apply ax_L | apply ax_D | apply ax_R | apply o303 | apply o307 | apply o302 | apply o301 | apply ax304 | apply ax305 | apply ax306 | apply ax308 | apply ax309 | apply ax310 | apply lt_S | apply ar305 | apply ar308 | apply ar309)) only [g246_60, g246_61, g246_64, g246_65, g246_66, g246_67, g246_68, g246_69, g246_72, g246_73, g246_74, g246_77, g246_78, g246_79, g246_82, g246_85, g246_86, g246_87, g246_90, g246_91, g246_92, g246_95, g246_96, g246_97, g246_100, g246_103, g246_104, g246_107, g246_108, g246_111, g246_112, g246_113, g246_116, g246_119, g246_120, g246_121, g246_124, g246_127, g246_128, g246_129, g246_132, g246_133, g246_134, g246_137, g246_138, g246_139, g246_142, g246_143, g246_144, g246_147, g246_148, g246_149, g246_152, g246_153, g246_154, g246_157, g246_158, g246_159, g246_162, g246_163, g246_164, g246_167, Option.toList, List.nil_append, List.cons_append, va_rf, nI_ltI, nI_leI, nI_eq, nI_add, nI_sub, nI_lt0, nI_e0, nI_m1, m1_nI, Nat.reduceEqDiff, Nat.reduceLT, Nat.reduceLeDiff, Nat.reduceAdd, Nat.reduceSub, Nat.reduceMul, ↓reduceIte, eq_self, s0, f1, r2 _]
    · obtain rfl : .inl (.inr y) = o := Option.some.inj ho
      have : gv y = .inl (.inr y) := if_pos (finB_ok.mpr v3)
      rw [← this]; exact O2
    · cases q
/-- an argument -/
def argv (g : am_H) (j : Nat) (v : VL) : Prop := match v with
  | .inl x => am_I g 385 j = nI 1 ∧ am_L g 386 j = x
  | .inr y => am_I g 385 j = nI 2 ∧ am_D g 387 j = y ∧ okD y
/-- a constant -/
def csv (h : am_H) (j : Nat) (v : VL) : Prop := match v with
  | .inl x => am_I h 379 j = nI 1 ∧ am_L h 383 j = x
  | .inr y => am_I h 379 j = nI 2 ∧ am_D h 384 j = y ∧ okD y
theorem m_nameA {s b k : Nat} {v : VL} {x : Int32} (A : MW h g r dp t σ) (S : am_S h) (sp : am_I g 349 64 = nI 0) (hs : 48 ≤ s ∧ s < 56) (hb : b + k < 600) (V : argv g (b + k) v) : ∃ g', am_run d 247 [some (.ref 349), some (.int (nI s)), some (.int (nI b)), some (.int x), some (.int (nI k)), none] g none g' ∧ MW h g' r dp t σ ∧ AK g g' t ∧ MO h g' r (.inl v) := by
  have Sg := MW_S A S
  refine ⟨am_setD (am_setL (am_setI g 349 59 (am_I g 385 (b + k))) 349 65 (am_L g 386 (b + k))) 349 66 (am_D g 387 (b + k)), fun Q => ?_, MW_D (MW_L (MW_I A (by omega))), AK_trans (AK_trans AK_I AK_L) AK_D, ?_, ?_⟩
  · simp (disch := first | with_reducible assumption | omega | exact Or.inl rfl | exact Or.inr rfl | exact bI_01 | exact c_cat | exact vt_ref | exact vt_null | rfl | with_reducible repeat (first | assumption | omega | apply S_I | apply S_L | apply S_D | apply ob_I | apply ob_L | apply ob_D | apply ob_R | apply ax_I | apply ax_L | apply ax_D | apply ax_R | apply o303 | apply o307 | apply o302 | apply o301 | apply ax304 | apply ax305 | apply ax306 | apply ax308 | apply ax309 | apply ax310 | apply lt_S | apply ar305 | apply ar308 | apply ar309)) only [g247_0, g247_1, g247_3, g247_6, g247_7, g247_9, g247_12, g247_13, g247_14, g247_17, g247_18, g247_20, g247_21, g247_22, g247_25, g247_26, g247_27, g247_30, g247_31, g247_33, g247_34, g247_35, g247_38, g247_39, g247_40, g247_43, g247_44, g247_46, g247_47, g247_48, g247_51, g247_52, g247_53, g247_54, g247_55, g247_57, g247_58, g247_60, g247_61, g247_64, g247_66, g247_67, g247_68, g247_71, g247_72, g247_73, g247_76, g247_78, g247_79, g247_82, g247_85, g247_86, g247_87, g247_90, g247_92, g247_93, g247_96, Option.toList, List.nil_append, List.cons_append, va_rf, nI_ltI, nI_leI, nI_eq, nI_add, nI_sub, nI_lt0, nI_e0, nI_m1, m1_nI, Nat.reduceEqDiff, Nat.reduceLT, Nat.reduceLeDiff, Nat.reduceAdd, Nat.reduceSub, Nat.reduceMul, ↓reduceIte, eq_self, hI_I, hI_L, hI_D, hI_R, hL_I, hL_L, hL_D, hL_R, hD_I, hD_L, hD_D, hD_R, hR_I, hR_L, hR_D, ↓reduceIte, Nat.reduceEqDiff, show ¬ s < 48 by omega, show ¬ 56 ≤ s by omega]
  · match v, V with
    | .inl x, ⟨e1, e2⟩ =>
      unfold rv
      simp only [hI_I, hI_L, hI_D, hI_R, hL_I, hL_L, hL_D, hL_R, hD_I, hD_L, hD_D, hD_R, hR_I, hR_L, hR_D, ↓reduceIte, Nat.reduceEqDiff]
      exact ⟨e1, e2⟩
    | .inr y, ⟨e1, e2, e3⟩ =>
      unfold rv
      simp only [hI_I, hI_L, hI_D, hI_R, hL_I, hL_L, hL_D, hL_R, hD_I, hD_L, hD_D, hD_R, hR_I, hR_L, hR_D, ↓reduceIte, Nat.reduceEqDiff]
      exact ⟨e1, e2, e3⟩
  · simp only [hI_I, hI_L, hI_D, hI_R, hL_I, hL_L, hL_D, hL_R, hD_I, hD_L, hD_D, hD_R, hR_I, hR_L, hR_D, ↓reduceIte, Nat.reduceEqDiff]
    exact sp
theorem m_nameC {s sh k : Nat} {v : VL} {x : Int32} (A : MW h g r dp t σ) (S : am_S h) (sp : am_I g 349 64 = nI 0) (hs : ¬ (48 ≤ s ∧ s < 56)) (hs2 : s < 77) (hb : 5 * sh + k < 20) (V : csv h (5 * sh + k) v) : ∃ g', am_run (d + 2) 247 [some (.ref 349), some (.int (nI s)), some (.int x), some (.int (nI sh)), some (.int (nI k)), none] g none g' ∧ MW h g' r dp t σ ∧ AK g g' t ∧ MO h g' r (.inl v) := by
  have Sg := MW_S A S
  match v, V with
  | .inl y, ⟨e1, e2⟩ =>
    have f1 : am_I g 379 (5 * sh + k) = nI 1 := (fr_rdI A.1 (by decide)).trans e1
    have f2 : am_L g 383 (5 * sh + k) = y := (fr_rdL A.1 (by decide)).trans e2
    obtain ⟨g2, r2, A2, K2, O2⟩ := m_giveL (d := d + 1) (x := y) A S sp
    refine ⟨g2, fun Q => ?_, A2, K2, O2⟩
    by_cases c : s < 48
    · simp (disch := first | with_reducible assumption | omega | exact Or.inl rfl | exact Or.inr rfl | exact bI_01 | exact c_cat | exact vt_ref | exact vt_null | rfl | with_reducible repeat (first | assumption | omega | apply S_I | apply S_L | apply S_D | apply ob_I | apply ob_L | apply ob_D | apply ob_R | apply ax_I | apply ax_L | apply ax_D | apply ax_R | apply o303 | apply o307 | apply o302 | apply o301 | apply ax304 | apply ax305 | apply ax306 | apply ax308 | apply ax309 | apply ax310 | apply lt_S | apply ar305 | apply ar308 | apply ar309)) only [g247_0, g247_1, g247_3, g247_6, g247_7, g247_9, g247_12, g247_13, g247_14, g247_17, g247_18, g247_20, g247_21, g247_22, g247_25, g247_26, g247_27, g247_30, g247_31, g247_33, g247_34, g247_35, g247_38, g247_39, g247_40, g247_43, g247_44, g247_46, g247_47, g247_48, g247_51, g247_52, g247_53, g247_54, g247_55, g247_57, g247_58, g247_60, g247_61, g247_64, g247_66, g247_67, g247_68, g247_71, g247_72, g247_73, g247_76, g247_78, g247_79, g247_82, g247_85, g247_86, g247_87, g247_90, g247_92, g247_93, g247_96, Option.toList, List.nil_append, List.cons_append, va_rf, nI_ltI, nI_leI, nI_eq, nI_add, nI_sub, nI_lt0, nI_e0, nI_m1, m1_nI, Nat.reduceEqDiff, Nat.reduceLT, Nat.reduceLeDiff, Nat.reduceAdd, Nat.reduceSub, Nat.reduceMul, ↓reduceIte, eq_self, nI_mul, c, f1, f2, r2 _]
    · simp (disch := first | with_reducible assumption | omega | exact Or.inl rfl | exact Or.inr rfl | exact bI_01 | exact c_cat | exact vt_ref | exact vt_null | rfl | with_reducible repeat (first | assumption | omega | apply S_I | apply S_L | apply S_D | apply ob_I | apply ob_L | apply ob_D | apply ob_R | apply ax_I | apply ax_L | apply ax_D | apply ax_R | apply o303 | apply o307 | apply o302 | apply o301 | apply ax304 | apply ax305 | apply ax306 | apply ax308 | apply ax309 | apply ax310 | apply lt_S | apply ar305 | apply ar308 | apply ar309)) only [g247_0, g247_1, g247_3, g247_6, g247_7, g247_9, g247_12, g247_13, g247_14, g247_17, g247_18, g247_20, g247_21, g247_22, g247_25, g247_26, g247_27, g247_30, g247_31, g247_33, g247_34, g247_35, g247_38, g247_39, g247_40, g247_43, g247_44, g247_46, g247_47, g247_48, g247_51, g247_52, g247_53, g247_54, g247_55, g247_57, g247_58, g247_60, g247_61, g247_64, g247_66, g247_67, g247_68, g247_71, g247_72, g247_73, g247_76, g247_78, g247_79, g247_82, g247_85, g247_86, g247_87, g247_90, g247_92, g247_93, g247_96, Option.toList, List.nil_append, List.cons_append, va_rf, nI_ltI, nI_leI, nI_eq, nI_add, nI_sub, nI_lt0, nI_e0, nI_m1, m1_nI, Nat.reduceEqDiff, Nat.reduceLT, Nat.reduceLeDiff, Nat.reduceAdd, Nat.reduceSub, Nat.reduceMul, ↓reduceIte, eq_self, nI_mul, c, show 56 ≤ s by omega, f1, f2, r2 _]
  | .inr y, ⟨e1, e2, e3⟩ =>
    have f1 : am_I g 379 (5 * sh + k) = nI 2 := (fr_rdI A.1 (by decide)).trans e1
    have f2 : am_D g 384 (5 * sh + k) = y := (fr_rdD A.1 (by decide)).trans e2
    obtain ⟨g2, r2, A2, K2, O2⟩ := m_giveD (d := d) (x := y) A S sp (okD_nn e3)
    have ee : gv y = .inl (.inr y) := if_pos (finB_ok.mpr e3)
    rw [ee] at O2
    refine ⟨g2, fun Q => ?_, A2, K2, O2⟩
    by_cases c : s < 48
    · simp (disch := first | with_reducible assumption | omega | exact Or.inl rfl | exact Or.inr rfl | exact bI_01 | exact c_cat | exact vt_ref | exact vt_null | rfl | with_reducible repeat (first | assumption | omega | apply S_I | apply S_L | apply S_D | apply ob_I | apply ob_L | apply ob_D | apply ob_R | apply ax_I | apply ax_L | apply ax_D | apply ax_R | apply o303 | apply o307 | apply o302 | apply o301 | apply ax304 | apply ax305 | apply ax306 | apply ax308 | apply ax309 | apply ax310 | apply lt_S | apply ar305 | apply ar308 | apply ar309)) only [g247_0, g247_1, g247_3, g247_6, g247_7, g247_9, g247_12, g247_13, g247_14, g247_17, g247_18, g247_20, g247_21, g247_22, g247_25, g247_26, g247_27, g247_30, g247_31, g247_33, g247_34, g247_35, g247_38, g247_39, g247_40, g247_43, g247_44, g247_46, g247_47, g247_48, g247_51, g247_52, g247_53, g247_54, g247_55, g247_57, g247_58, g247_60, g247_61, g247_64, g247_66, g247_67, g247_68, g247_71, g247_72, g247_73, g247_76, g247_78, g247_79, g247_82, g247_85, g247_86, g247_87, g247_90, g247_92, g247_93, g247_96, Option.toList, List.nil_append, List.cons_append, va_rf, nI_ltI, nI_leI, nI_eq, nI_add, nI_sub, nI_lt0, nI_e0, nI_m1, m1_nI, Nat.reduceEqDiff, Nat.reduceLT, Nat.reduceLeDiff, Nat.reduceAdd, Nat.reduceSub, Nat.reduceMul, ↓reduceIte, eq_self, nI_mul, c, f1, f2, r2 _]
    · simp (disch := first | with_reducible assumption | omega | exact Or.inl rfl | exact Or.inr rfl | exact bI_01 | exact c_cat | exact vt_ref | exact vt_null | rfl | with_reducible repeat (first | assumption | omega | apply S_I | apply S_L | apply S_D | apply ob_I | apply ob_L | apply ob_D | apply ob_R | apply ax_I | apply ax_L | apply ax_D | apply ax_R | apply o303 | apply o307 | apply o302 | apply o301 | apply ax304 | apply ax305 | apply ax306 | apply ax308 | apply ax309 | apply ax310 | apply lt_S | apply ar305 | apply ar308 | apply ar309)) only [g247_0, g247_1, g247_3, g247_6, g247_7, g247_9, g247_12, g247_13, g247_14, g247_17, g247_18, g247_20, g247_21, g247_22, g247_25, g247_26, g247_27, g247_30, g247_31, g247_33, g247_34, g247_35, g247_38, g247_39, g247_40, g247_43, g247_44, g247_46, g247_47, g247_48, g247_51, g247_52, g247_53, g247_54, g247_55, g247_57, g247_58, g247_60, g247_61, g247_64, g247_66, g247_67, g247_68, g247_71, g247_72, g247_73, g247_76, g247_78, g247_79, g247_82, g247_85, g247_86, g247_87, g247_90, g247_92, g247_93, g247_96, Option.toList, List.nil_append, List.cons_append, va_rf, nI_ltI, nI_leI, nI_eq, nI_add, nI_sub, nI_lt0, nI_e0, nI_m1, m1_nI, Nat.reduceEqDiff, Nat.reduceLT, Nat.reduceLeDiff, Nat.reduceAdd, Nat.reduceSub, Nat.reduceMul, ↓reduceIte, eq_self, nI_mul, c, show 56 ≤ s by omega, f1, f2, r2 _]
end MRE

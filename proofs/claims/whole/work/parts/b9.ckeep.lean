/-! A CONSTANT IS KEPT -/
section CKP
variable {d s own nc m : Nat} {h g hF : am_H} {Q : Option Value → am_H → Prop} {D : List (Int32 × Int64)} {P : List Int32} {N : List Nat} {F k : Int32} {x y : Int64}
theorem x_tellC (S : am_S h) (hs : s < 4) (ho : own < 5) (hnc : nc ≤ 5) (e1 : am_I h (321 + 7 * s) 1 = nI nc) {e : Nat} (he : 402 ≤ e) : am_run (d + 1) 130 [some (.ref (321 + 7 * s)), some (.int (nI own)), some (.ref e)] h none (am_setI (am_setI (am_setL (am_setI (am_setR h (323 + 7 * s + own) 3 (some e)) (323 + 7 * s + own) 0 (nI 0)) (323 + 7 * s + own) 1 (lN 0)) (321 + 7 * s) 1 (nI (max nc (own + 1)))) (321 + 7 * s) 2 (nI 1)) := fun Q => by
  obtain ⟨O, R, A⟩ := o321 S hs
  obtain ⟨A1, A2, A3⟩ := A own ho
  have S1 : am_S (am_setR h (323 + 7 * s + own) 3 (some e)) := S_Rg S (Or.inr (Or.inr (Or.inr (Or.inr ⟨rfl, s, own, hs, ho, rfl⟩))))
  obtain ⟨O', R', A'⟩ := o321 S1 hs
  obtain ⟨A1', A2', A3'⟩ := A' own ho
  have e1' : am_I (am_setL (am_setI (am_setR h (323 + 7 * s + own) 3 (some e)) (323 + 7 * s + own) 0 (nI 0)) (323 + 7 * s + own) 1 (lN 0)) (321 + 7 * s) 1 = nI nc := by
    rw [hI_L, rI_a (by omega), hI_R]; exact e1
  have mx2 : (if nc < own + 1 then nI (own + 1) else nI nc) = nI (max nc (own + 1)) := by
    by_cases c : nc < own + 1
    · rw [if_pos c, Nat.max_eq_right (by omega)]
    · rw [if_neg c, Nat.max_eq_left (by omega)]
  simp (disch := first | with_reducible assumption | omega | exact Or.inl rfl | exact Or.inr rfl | exact bI_01 | exact c_cat | exact vt_ref | exact vt_null | rfl | with_reducible repeat (first | assumption | omega | apply S_I | apply S_L | apply S_D | apply ob_I | apply ob_L | apply ob_D | apply ob_R | apply ax_I | apply ax_L | apply ax_D | apply ax_R | apply o303 | apply o307 | apply o302 | apply o301 | apply ax304 | apply ax305 | apply ax306 | apply ax308 | apply ax309 | apply ax310 | apply lt_S | apply ar305 | apply ar308 | apply ar309)) only [g130_0, g130_1, g130_4, g130_5, g130_6, g130_9, g130_10, g130_11, g130_14, g130_15, g130_16, g130_17, g130_17r, g130_17n, g130_20, g130_21, g130_24, g130_25, g130_26, g130_27, g130_30, g130_31, g130_32, g130_35, g130_36, g130_37, g130_38, g130_41, g130_44, g130_45, g130_46, g130_49, g3_0, g3_1, g3_2, g3_5, g3_6, g3_7, g3_10, Option.toList, List.nil_append, List.cons_append, va_rf, nI_ltI, nI_leI, nI_eq, nI_add, nI_sub, nI_lt0, nI_e0, nI_m1, m1_nI, Nat.reduceEqDiff, Nat.reduceLT, Nat.reduceLeDiff, Nat.reduceAdd, Nat.reduceSub, Nat.reduceMul, ↓reduceIte, eq_self, R, A2, R', A2', ho, e1', mx2]
theorem x_ckeep (S : am_S hF) (G : am_Gv hF) (hs : s < 4) (ho : own < 5) (hnc : nc ≤ 5) (e1 : am_I hF (321 + 7 * s) 1 = nI nc) (e8 : am_L hF 301 8 = x) (X : PXd hF D P N F k) : ∃ h1, (∀ Q, am_J 104 149 62 [some (.ref 4), some (.int (nI s)), some (.int (nI 0)), some (.int (nI own)), none] [] hF Q ↔ Q (some (.int (nI own))) h1) ∧ kp (fun a j => (a = 323 + 7 * s + own ∧ j ≠ 8) ∨ (a = 321 + 7 * s ∧ (j = 1 ∨ j = 2))) hF h1 ∧ am_S h1 ∧ am_Gv h1 ∧ CO h1 hF.1 D P N F k ∧ am_L h1 hF.1 9 = x ∧ am_R h1 (323 + 7 * s + own) 3 = some hF.1 ∧ am_I h1 (323 + 7 * s + own) 0 = nI 0 ∧ am_I h1 (321 + 7 * s) 1 = nI (max nc (own + 1)) ∧ am_I h1 (321 + 7 * s) 2 = nI 1 ∧ h1.1 = hF.1 + 7 ∧ h1.2.1 ≤ hF.2.1 + 1100 := by
  have h4 := S.1
  obtain ⟨hK, rK, EK, k1, k2, C⟩ := x_kept (d := 100) S X
  have lD : D.length ≤ 160 := X.1.2.1
  have lP : P.length ≤ 400 := X.2.1.2.1
  have lNN : N.length ≤ 256 := nodup_le 256 N X.2.2.1.2.2.1 X.2.2.1.2.2.2.1
  have SK := S_ex S EK
  have GK := Gv_ex G h4 EK
  have Oe : am_ob hK hF.1 1 := ⟨by omega, by rw [C.2.2.1]⟩
  have F1 : am_fr (fun a => a = hF.1) hK (am_setL hK hF.1 9 x) := fr_L fr_refl rfl
  have S1 := fr_S F1 SK
  have e1' : am_I (am_setL hK hF.1 9 x) (321 + 7 * s) 1 = nI nc := by rw [hI_L, ((EK.2 (321 + 7 * s) (by omega)).2 1).1]; exact e1
  have e8' : am_L hK 301 8 = x := by rw [((EK.2 301 (by omega)).2 8).2.1]; exact e8
  have rt := x_tellC (d := 102) S1 hs ho hnc e1' (e := hF.1) h4
  have S2 : am_S (am_setR (am_setL hK hF.1 9 x) (323 + 7 * s + own) 3 (some hF.1)) := S_Rg S1 (Or.inr (Or.inr (Or.inr (Or.inr ⟨rfl, s, own, hs, ho, rfl⟩))))
  have F2 : am_fr (fun a => a = 323 + 7 * s + own ∨ a = 321 + 7 * s) (am_setR (am_setL hK hF.1 9 x) (323 + 7 * s + own) 3 (some hF.1)) (am_setI (am_setI (am_setL (am_setI (am_setR (am_setL hK hF.1 9 x) (323 + 7 * s + own) 3 (some hF.1)) (323 + 7 * s + own) 0 (nI 0)) (323 + 7 * s + own) 1 (lN 0)) (321 + 7 * s) 1 (nI (max nc (own + 1)))) (321 + 7 * s) 2 (nI 1)) := fr_I (fr_I (fr_L (fr_I fr_refl (Or.inl rfl)) (Or.inl rfl)) (Or.inr rfl)) (Or.inr rfl)
  refine ⟨am_setI (am_setI (am_setL (am_setI (am_setR (am_setL hK hF.1 9 x) (323 + 7 * s + own) 3 (some hF.1)) (323 + 7 * s + own) 0 (nI 0)) (323 + 7 * s + own) 1 (lN 0)) (321 + 7 * s) 1 (nI (max nc (own + 1)))) (321 + 7 * s) 2 (nI 1), fun Q => ?_, ?_, fr_S F2 S2, Gv_fr F2 (by omega) (by omega) (by omega) (Gv_R (Gv_fr F1 (by omega) (by omega) (by omega) GK) (by omega)), ?_, ?_, ?_, ?_, ?_, rI_eq, k1, ?_⟩
  · have O' := (o321 S1 hs).1
    simp (disch := first | with_reducible assumption | omega | exact Or.inl rfl | exact Or.inr rfl | exact bI_01 | exact c_cat | exact vt_ref | exact vt_null | rfl | with_reducible repeat (first | assumption | omega | apply S_I | apply S_L | apply S_D | apply ob_I | apply ob_L | apply ob_D | apply ob_R | apply ax_I | apply ax_L | apply ax_D | apply ax_R | apply o303 | apply o307 | apply o302 | apply o301 | apply ax304 | apply ax305 | apply ax306 | apply ax308 | apply ax309 | apply ax310 | apply lt_S | apply ar305 | apply ar308 | apply ar309)) only [g149_62, g149_63, g149_66, g149_69, g149_72, g149_74, g149_76, g149_77, g149_80, g149_83, g149_86, g149_87, g149_90, g149_91, g149_92, g149_93, g149_95, g149_98, g149_99, Option.toList, List.nil_append, List.cons_append, va_rf, nI_ltI, nI_leI, nI_eq, nI_add, nI_sub, nI_lt0, nI_e0, nI_m1, m1_nI, Nat.reduceEqDiff, Nat.reduceLT, Nat.reduceLeDiff, Nat.reduceAdd, Nat.reduceSub, Nat.reduceMul, ↓reduceIte, eq_self, rK _, e8', rt _]
  · refine ⟨EK.1, fun a ha => (EK.2 a ha).1, fun a j ha hp => ?_⟩
    have q1 := (EK.2 a ha).2 j
    have na : a ≠ hF.1 := by omega
    by_cases e8 : a = 323 + 7 * s + own ∧ j = 8
    · obtain ⟨rfl, rfl⟩ := e8
      refine ⟨?_, fun _ => ?_, fun _ _ => q1.2.2.1, ?_⟩
      · show am_I (am_setI (am_setI (am_setI hK (323 + 7 * s + own) 0 (nI 0)) (321 + 7 * s) 1 (nI (max nc (own + 1)))) (321 + 7 * s) 2 (nI 1)) (323 + 7 * s + own) 8 = _
        rw [rI_a (by omega), rI_a (by omega), rI_k (by decide)]; exact q1.1
      · show am_L (am_setL (am_setL hK hF.1 9 x) (323 + 7 * s + own) 1 (lN 0)) (323 + 7 * s + own) 8 = _
        rw [rL_k (by decide), rL_a na]; exact q1.2.1
      · rw [fr_rdR F2, hR_R, if_pos rfl, if_neg (by decide)]; exact q1.2.2.2
    refine ⟨?_, fun _ => ?_, fun _ _ => ?_, ?_⟩
    · by_cases e : a = 321 + 7 * s
      · rw [e] at hp ⊢
        rw [rI_k (by omega), rI_k (by omega), hI_L, rI_a (by omega)]
        rw [e] at q1
        exact q1.1
      · rw [fr_rdI F2 (by omega)]; exact q1.1
    · by_cases e : a = 321 + 7 * s
      · show am_L (am_setL (am_setI (am_setR (am_setL hK hF.1 9 x) (323 + 7 * s + own) 3 (some hF.1)) (323 + 7 * s + own) 0 (nI 0)) (323 + 7 * s + own) 1 (lN 0)) a j = _
        rw [rL_a (by omega), hL_I, hL_R, rL_a na]; exact q1.2.1
      · rw [fr_rdL F2 (by omega), hL_R, rL_a na]; exact q1.2.1
    · exact q1.2.2.1
    · rw [fr_rdR F2, hR_R, if_neg (by omega)]; exact q1.2.2.2
  · refine CO_keep C (Nat.le_refl _) (fun a h1 h2 => ⟨rfl, fun j hj => ?_⟩)
    refine ⟨(fr_rdI F2 (by omega)).trans rfl, (fr_rdL F2 (by omega)).trans ?_, (fr_rdR F2).trans ?_⟩
    · rw [hL_R, hL_L]
      by_cases e : a = hF.1
      · rw [if_pos e, if_neg (by have := hj e; omega)]
      · rw [if_neg e]
    · rw [hR_R, if_neg (by omega)]; rfl
  · rw [fr_rdL F2 (by omega), hL_R, rL_eq]
  · rw [fr_rdR F2, hR_R, if_pos rfl, if_pos rfl]
  · rw [rI_a (by omega), rI_a (by omega), hI_L, rI_eq]
  · rw [rI_k (by decide), rI_eq]
  · show hK.2.1 ≤ _
    omega
theorem m_ckeep (S : am_S h) (hs : s < 4) (ho : own < 5) (hnc : nc ≤ 5) (hle : own ≤ nc) (e30 : am_I h 349 30 = nI own) (e362 : am_I h 362 s = nI nc) (e32 : am_L h 349 32 = y) (e27 : am_I h 349 27 = nI m) (hm : m ≤ 48) : ∃ hm2 gc, am_fr (fun a => a = 359 ∨ a = 362 ∨ a = 379 ∨ a = 380) h hm2 ∧ kp (fun a j => (a = 362 ∧ j = s) ∨ ((a = 359 ∨ a = 379 ∨ a = 380) ∧ j = 5 * s + own)) h hm2 ∧ am_I hm2 362 s = nI (max nc (own + 1)) ∧ am_L hm2 359 (5 * s + own) = y ∧ am_I hm2 379 (5 * s + own) = nI 0 ∧ MC hm2 gc (56 + 5 * s + own) m ∧ ∀ Q, am_J (d + 1) 225 60 [some (.ref 349), some (.int (nI s))] [] h Q ↔ Q (some (.int (nI own))) (am_setI gc 378 s (nI 1)) := by
  have key : ∃ H0, am_fr (fun a => a = 362) h H0 ∧ kp (fun a j => a = 362 ∧ j = s) h H0 ∧ am_I H0 362 s = nI (max nc (own + 1)) ∧ ∀ Q, am_J (d + 1) 225 60 [some (.ref 349), some (.int (nI s))] [] h Q ↔ am_J (d + 1) 225 83 [some (.ref 349), some (.int (nI s))] [] H0 Q := by
    by_cases c : own = nc
    · subst c
      refine ⟨am_setI h 362 s (nI (own + 1)), fr_I fr_refl rfl, kp_I kp_refl ⟨rfl, rfl⟩, by rw [rI_eq, Nat.max_eq_right (by omega)], fun Q => ?_⟩
      have d2 : ∀ (ls : am_Lo) (st : List Value) (j : Int32) (h : am_H) Q, am_J (d + 1) 225 78 ls (.int j :: .ref 362 :: st) h Q ↔ am_J (d + 1) 225 79 ls (.int j :: .ref 362 :: .int j :: .ref 362 :: st) h Q := fun ls st j h Q => g225_78 (a := 0)
      simp (disch := first | with_reducible assumption | omega | exact Or.inl rfl | exact Or.inr rfl | exact bI_01 | exact c_cat | exact vt_ref | exact vt_null | rfl | with_reducible repeat (first | assumption | omega | apply S_I | apply S_L | apply S_D | apply ob_I | apply ob_L | apply ob_D | apply ob_R | apply ax_I | apply ax_L | apply ax_D | apply ax_R | apply o303 | apply o307 | apply o302 | apply o301 | apply ax304 | apply ax305 | apply ax306 | apply ax308 | apply ax309 | apply ax310 | apply lt_S | apply ar305 | apply ar308 | apply ar309)) only [g225_60, g225_61, g225_64, g225_65, g225_68, g225_69, g225_70, g225_73, g225_74, g225_77, g225_78, g225_79, g225_80, g225_81, g225_82, Option.toList, List.nil_append, List.cons_append, va_rf, nI_ltI, nI_leI, nI_eq, nI_add, nI_sub, nI_lt0, nI_e0, nI_m1, m1_nI, Nat.reduceEqDiff, Nat.reduceLT, Nat.reduceLeDiff, Nat.reduceAdd, Nat.reduceSub, Nat.reduceMul, ↓reduceIte, eq_self, e30, e362, d2 _ _ _ _ _]
    · refine ⟨h, fr_refl, kp_refl, by rw [e362, Nat.max_eq_left (by omega)], fun Q => ?_⟩
      simp (disch := first | with_reducible assumption | omega | exact Or.inl rfl | exact Or.inr rfl | exact bI_01 | exact c_cat | exact vt_ref | exact vt_null | rfl | with_reducible repeat (first | assumption | omega | apply S_I | apply S_L | apply S_D | apply ob_I | apply ob_L | apply ob_D | apply ob_R | apply ax_I | apply ax_L | apply ax_D | apply ax_R | apply o303 | apply o307 | apply o302 | apply o301 | apply ax304 | apply ax305 | apply ax306 | apply ax308 | apply ax309 | apply ax310 | apply lt_S | apply ar305 | apply ar308 | apply ar309)) only [g225_60, g225_61, g225_64, g225_65, g225_68, g225_69, g225_70, g225_73, g225_74, g225_77, g225_78, g225_79, g225_80, g225_81, g225_82, Option.toList, List.nil_append, List.cons_append, va_rf, nI_ltI, nI_leI, nI_eq, nI_add, nI_sub, nI_lt0, nI_e0, nI_m1, m1_nI, Nat.reduceEqDiff, Nat.reduceLT, Nat.reduceLeDiff, Nat.reduceAdd, Nat.reduceSub, Nat.reduceMul, ↓reduceIte, eq_self, e30, e362, c]
  obtain ⟨H0, F0, K0, v0, r0⟩ := key
  have S0 := fr_S F0 S
  have e30' : am_I H0 349 30 = nI own := (fr_rdI F0 (by decide)).trans e30
  have e32' : am_L H0 349 32 = y := (fr_rdL F0 (by decide)).trans e32
  have e27' : am_I H0 349 27 = nI m := (fr_rdI F0 (by decide)).trans e27
  have F1 : am_fr (fun a => a = 359 ∨ a = 362 ∨ a = 379 ∨ a = 380) H0 (am_setI (am_setI (am_setL H0 359 (5 * s + own) y) 379 (5 * s + own) (nI 0)) 380 (5 * s + own) (nI 0)) := fr_I (fr_I (fr_L fr_refl (by omega)) (by omega)) (by omega)
  have S1 := fr_S F1 S0
  have e30'' : am_I (am_setI (am_setI (am_setL H0 359 (5 * s + own) y) 379 (5 * s + own) (nI 0)) 380 (5 * s + own) (nI 0)) 349 30 = nI own := (fr_rdI F1 (by decide)).trans e30'
  obtain ⟨gc, rc, C⟩ := m_copyTo (d := d) (s := 56 + 5 * s + own) S1 ((fr_rdI F1 (by decide)).trans e27') hm (by omega)
  have Sc := fr_S C.1 S1
  have e30c : am_I gc 349 30 = nI own := (fr_rdI C.1 (by decide)).trans e30''
  refine ⟨_, gc, fr_trans (fr_mono (fun a q => by omega) F0) F1, kp_I (kp_I (kp_L (kp_mono (fun a j q => Or.inl q) K0) (by omega)) (by omega)) (by omega), ?_, ?_, ?_, C, fun Q => ?_⟩
  · simp only [hI_I, hI_L, hI_D, hI_R, hL_I, hL_L, hL_D, hL_R, hD_I, hD_L, hD_D, hD_R, hR_I, hR_L, hR_D, ↓reduceIte, Nat.reduceEqDiff]; exact v0
  · simp only [hI_I, hI_L, hI_D, hI_R, hL_I, hL_L, hL_D, hL_R, hD_I, hD_L, hD_D, hD_R, hR_I, hR_L, hR_D, ↓reduceIte, Nat.reduceEqDiff]
  · simp only [hI_I, hI_L, hI_D, hI_R, hL_I, hL_L, hL_D, hL_R, hD_I, hD_L, hD_D, hD_R, hR_I, hR_L, hR_D, ↓reduceIte, Nat.reduceEqDiff]
  · rw [r0]
    simp (disch := first | with_reducible assumption | omega | exact Or.inl rfl | exact Or.inr rfl | exact bI_01 | exact c_cat | exact vt_ref | exact vt_null | rfl | with_reducible repeat (first | assumption | omega | apply S_I | apply S_L | apply S_D | apply ob_I | apply ob_L | apply ob_D | apply ob_R | apply ax_I | apply ax_L | apply ax_D | apply ax_R | apply o303 | apply o307 | apply o302 | apply o301 | apply ax304 | apply ax305 | apply ax306 | apply ax308 | apply ax309 | apply ax310 | apply lt_S | apply ar305 | apply ar308 | apply ar309)) only [g225_83, g225_84, g225_87, g225_88, g225_89, g225_90, g225_91, g225_94, g225_95, g225_96, g225_99, g225_100, g225_101, g225_104, g225_105, g225_106, g225_107, g225_108, g225_111, g225_112, g225_113, g225_114, g225_115, g225_118, g225_119, g225_120, g225_121, g225_122, g225_125, g225_126, g225_127, g225_128, g225_129, g225_131, g225_132, g225_133, g225_134, g225_135, g225_136, g225_139, g225_140, g225_143, g225_144, g225_147, g225_148, g225_149, g225_150, g225_151, g225_154, Option.toList, List.nil_append, List.cons_append, va_rf, nI_ltI, nI_leI, nI_eq, nI_add, nI_sub, nI_lt0, nI_e0, nI_m1, m1_nI, Nat.reduceEqDiff, Nat.reduceLT, Nat.reduceLeDiff, Nat.reduceAdd, Nat.reduceSub, Nat.reduceMul, ↓reduceIte, eq_self, hI_I, hI_L, hI_D, hI_R, hL_I, hL_L, hL_D, hL_R, hD_I, hD_L, hD_D, hD_R, hR_I, hR_L, hR_D, ↓reduceIte, Nat.reduceEqDiff, nI_mul, e30', e32', e30c, rc _]
end CKP

/-! A FUNCTION IS KEPT -/
def Pfu (own a k : Nat) : Prop := rX a ∨ a = 5 ∨ (a = 4 ∧ (k = 13 ∨ k = 10)) ∨ pmt a k ∨ (a = 11 ∧ k = own) ∨ (a = 349 ∧ k = 16) ∨ ((a = 358 ∨ a = 361 ∨ a = 377) ∧ k = own) ∨ (((352 ≤ a ∧ a ≤ 355) ∨ a = 357) ∧ 48 * (48 + own) ≤ k ∧ k < 48 * (48 + own) + 48) ∨ ((a = 356 ∨ a = 364) ∧ k = 48 + own)
def upf {α : Type} (f : Nat → α) (i : Nat) (v : α) (j : Nat) : α := if j = i then v else f j
section FNK
variable {d own nf na m : Nat} {h g hF : am_H} {Q : Option Value → am_H → Prop} {D : List (Int32 × Int64)} {P : List Int32} {N : List Nat} {F k : Int32} {x y : Int64}
theorem x_nkeep (S : am_S hF) (G : am_Gv hF) (ho : own < 8) (hnf : nf ≤ 8) (hle : own ≤ nf) (e10 : am_I hF 4 10 = nI nf) (e8 : am_L hF 301 8 = x) (e4 : am_I hF 301 4 = nI na) (X : PXd hF D P N F k) : ∃ h1, (∀ Q, am_J 104 148 46 [some (.ref 4), some (.int (nI 0)), some (.int (nI own)), none] [] hF Q ↔ Q (some (.int (nI own))) h1) ∧ kp (fun a j => (a = 4 ∧ j = 10) ∨ (a = 11 ∧ j = own)) hF h1 ∧ am_S h1 ∧ am_Gv h1 ∧ CO h1 hF.1 D P N F k ∧ am_L h1 hF.1 9 = x ∧ am_I h1 hF.1 10 = nI na ∧ am_I h1 hF.1 11 = nI 1 ∧ am_R h1 11 own = some hF.1 ∧ am_I h1 4 10 = nI (max nf (own + 1)) ∧ h1.1 = hF.1 + 7 ∧ h1.2.1 ≤ hF.2.1 + 1100 := by
  have h4 := S.1
  have key : ∃ H0, am_fr (fun a => a = 4) hF H0 ∧ kp (fun a j => a = 4 ∧ j = 10) hF H0 ∧ am_I H0 4 10 = nI (max nf (own + 1)) ∧ ∀ Q, am_J 104 148 46 [some (.ref 4), some (.int (nI 0)), some (.int (nI own)), none] [] hF Q ↔ am_J 104 148 61 [some (.ref 4), some (.int (nI 0)), some (.int (nI own)), none] [] H0 Q := by
    by_cases c : own = nf
    · subst c
      refine ⟨am_setI hF 4 10 (nI (own + 1)), fr_I fr_refl rfl, kp_I kp_refl ⟨rfl, rfl⟩, by rw [rI_eq, Nat.max_eq_right (by omega)], fun Q => ?_⟩
      simp (disch := first | with_reducible assumption | omega | exact Or.inl rfl | exact Or.inr rfl | exact bI_01 | exact c_cat | exact vt_ref | exact vt_null | rfl | with_reducible repeat (first | assumption | omega | apply S_I | apply S_L | apply S_D | apply ob_I | apply ob_L | apply ob_D | apply ob_R | apply ax_I | apply ax_L | apply ax_D | apply ax_R | apply o303 | apply o307 | apply o302 | apply o301 | apply ax304 | apply ax305 | apply ax306 | apply ax308 | apply ax309 | apply ax310 | apply lt_S | apply ar305 | apply ar308 | apply ar309)) only [g148_46, g148_47, g148_48, g148_51, g148_54, g148_55, g148_56, g148_57, g148_58, Option.toList, List.nil_append, List.cons_append, va_rf, nI_ltI, nI_leI, nI_eq, nI_add, nI_sub, nI_lt0, nI_e0, nI_m1, m1_nI, Nat.reduceEqDiff, Nat.reduceLT, Nat.reduceLeDiff, Nat.reduceAdd, Nat.reduceSub, Nat.reduceMul, ↓reduceIte, eq_self, e10, Nat.lt_irrefl]
    · refine ⟨hF, fr_refl, kp_refl, by rw [e10, Nat.max_eq_left (by omega)], fun Q => ?_⟩
      simp (disch := first | with_reducible assumption | omega | exact Or.inl rfl | exact Or.inr rfl | exact bI_01 | exact c_cat | exact vt_ref | exact vt_null | rfl | with_reducible repeat (first | assumption | omega | apply S_I | apply S_L | apply S_D | apply ob_I | apply ob_L | apply ob_D | apply ob_R | apply ax_I | apply ax_L | apply ax_D | apply ax_R | apply o303 | apply o307 | apply o302 | apply o301 | apply ax304 | apply ax305 | apply ax306 | apply ax308 | apply ax309 | apply ax310 | apply lt_S | apply ar305 | apply ar308 | apply ar309)) only [g148_46, g148_47, g148_48, g148_51, g148_54, g148_55, g148_56, g148_57, g148_58, Option.toList, List.nil_append, List.cons_append, va_rf, nI_ltI, nI_leI, nI_eq, nI_add, nI_sub, nI_lt0, nI_e0, nI_m1, m1_nI, Nat.reduceEqDiff, Nat.reduceLT, Nat.reduceLeDiff, Nat.reduceAdd, Nat.reduceSub, Nat.reduceMul, ↓reduceIte, eq_self, e10, show own < nf by omega]
  obtain ⟨H0, F0, K0, v0, r0⟩ := key
  have S0 := fr_S F0 S
  have G0 := Gv_fr F0 (by decide) (by decide) (by decide) G
  have z0 : H0.1 = hF.1 := F0.1
  have z0' : H0.2.1 = hF.2.1 := F0.2.1
  have e8' : am_L H0 301 8 = x := (fr_rdL F0 (by decide)).trans e8
  have e4' : am_I H0 301 4 = nI na := (fr_rdI F0 (by decide)).trans e4
  obtain ⟨hK, rK, EK, k1, k2, C⟩ := x_kept (d := 100) S0 (PXd_fr F0 (fun a h1 h2 => by omega) X)
  rw [z0] at rK k1 C
  have lD : D.length ≤ 160 := X.1.2.1
  have lP : P.length ≤ 400 := X.2.1.2.1
  have lNN : N.length ≤ 256 := nodup_le 256 N X.2.2.1.2.2.1 X.2.2.1.2.2.2.1
  have SK := S_ex S0 EK
  have GK := Gv_ex G0 (by omega) EK
  have Oe : am_ob hK hF.1 1 := ⟨by omega, by rw [C.2.2.1]⟩
  have e8K : am_L hK 301 8 = x := by rw [((EK.2 301 (by omega)).2 8).2.1]; exact e8'
  have e4K : am_I hK 301 4 = nI na := by rw [((EK.2 301 (by omega)).2 4).1]; exact e4'
  have F1 : am_fr (fun a => a = hF.1) hK (am_setI (am_setI (am_setL hK hF.1 9 x) hF.1 10 (nI na)) hF.1 11 (nI 1)) := fr_I (fr_I (fr_L fr_refl rfl) rfl) rfl
  have S1 := fr_S F1 SK
  have A11 : am_ax (am_setI (am_setI (am_setL hK hF.1 9 x) hF.1 10 (nI na)) hF.1 11 (nI 1)) 11 201 own := am_S_ax S1 (n := 8) (by decide +kernel) ho (by decide)
  have O1 : am_ob (am_setI (am_setI (am_setL hK hF.1 9 x) hF.1 10 (nI na)) hF.1 11 (nI 1)) hF.1 1 := fr_ob F1 Oe
  refine ⟨am_setR (am_setI (am_setI (am_setL hK hF.1 9 x) hF.1 10 (nI na)) hF.1 11 (nI 1)) 11 own (some hF.1), fun Q => ?_, ?_, S_Rg S1 (Or.inr (Or.inl rfl)), Gv_R (Gv_fr F1 (by omega) (by omega) (by omega) GK) (by decide), ?_, ?_, ?_, ?_, ?_, ?_, k1, ?_⟩
  · rw [r0]
    have n301 : ¬ 301 = hF.1 := by omega
    simp (disch := first | with_reducible assumption | omega | exact Or.inl rfl | exact Or.inr rfl | exact bI_01 | exact c_cat | exact vt_ref | exact vt_null | rfl | with_reducible repeat (first | assumption | omega | apply S_I | apply S_L | apply S_D | apply ob_I | apply ob_L | apply ob_D | apply ob_R | apply ax_I | apply ax_L | apply ax_D | apply ax_R | apply o303 | apply o307 | apply o302 | apply o301 | apply ax304 | apply ax305 | apply ax306 | apply ax308 | apply ax309 | apply ax310 | apply lt_S | apply ar305 | apply ar308 | apply ar309)) only [g148_61, g148_62, g148_65, g148_68, g148_71, g148_72, g148_73, g148_74, g148_77, g148_80, g148_83, g148_84, g148_85, g148_88, g148_91, g148_94, g148_95, g148_96, g148_99, g148_100, g148_103, g148_104, g148_105, g148_106, g148_107, Option.toList, List.nil_append, List.cons_append, va_rf, nI_ltI, nI_leI, nI_eq, nI_add, nI_sub, nI_lt0, nI_e0, nI_m1, m1_nI, Nat.reduceEqDiff, Nat.reduceLT, Nat.reduceLeDiff, Nat.reduceAdd, Nat.reduceSub, Nat.reduceMul, ↓reduceIte, eq_self, rK _, e8K, e4K, hI_L, hI_I, hL_I, n301, ↓reduceIte]
  · refine ⟨by have := EK.1; show hF.1 ≤ hK.1; omega, fun a ha => (EK.2 a (by omega)).1.trans (K0.2.1 a ha), fun a j ha hp => ?_⟩
    have q1 := (EK.2 a (by omega)).2 j
    have q0 := K0.2.2 a j ha (by omega)
    have na' : a ≠ hF.1 := by omega
    refine ⟨by rw [hI_R, fr_rdI F1 na', q1.1, q0.1], fun e => by rw [hL_R, fr_rdL F1 na', q1.2.1, q0.2.1 e], fun e e' => by rw [hD_R, fr_rdD F1 na', q1.2.2.1, q0.2.2.1 e e'], ?_⟩
    rw [hR_R]
    by_cases e : a = 11
    · rw [if_pos e, if_neg (by omega), fr_rdR F1, q1.2.2.2, q0.2.2.2]
    · rw [if_neg e, fr_rdR F1, q1.2.2.2, q0.2.2.2]
  · refine CO_keep C (Nat.le_refl _) (fun a h1 h2 => ⟨rfl, fun j hj => ?_⟩)
    refine ⟨?_, ?_, ?_⟩
    · rw [hI_R]
      by_cases e : a = hF.1
      · have := hj e
        rw [e, rI_k (by omega), rI_k (by omega), hI_L]
      · exact fr_rdI F1 e
    · rw [hL_R]
      by_cases e : a = hF.1
      · have := hj e
        rw [e, hL_I, hL_I, rL_k (by omega)]
      · exact fr_rdL F1 e
    · rw [hR_R, if_neg (by omega)]; exact fr_rdR F1
  · rw [hL_R, hL_I, hL_I, rL_eq]
  · rw [hI_R, rI_k (by decide), rI_eq]
  · rw [hI_R, rI_eq]
  · rw [hR_R, if_pos rfl, if_pos rfl]
  · rw [hI_R, fr_rdI F1 (by omega), ((EK.2 4 (by omega)).2 10).1]; exact v0
  · show hK.2.1 ≤ _
    omega
theorem m_nkeep (S : am_S h) (ho : own < 8) (hnf : nf ≤ 8) (hle : own ≤ nf) (e30 : am_I h 349 30 = nI own) (e31 : am_I h 349 31 = nI na) (e16 : am_I h 349 16 = nI nf) (e32 : am_L h 349 32 = y) (e27 : am_I h 349 27 = nI m) (hm : m ≤ 48) : ∃ hm2 gc, am_fr (fun a => a = 349 ∨ a = 358 ∨ a = 361) h hm2 ∧ kp (fun a j => (a = 349 ∧ j = 16) ∨ ((a = 358 ∨ a = 361) ∧ j = own)) h hm2 ∧ am_I hm2 349 16 = nI (max nf (own + 1)) ∧ am_L hm2 358 own = y ∧ am_I hm2 361 own = nI na ∧ MC hm2 gc (48 + own) m ∧ ∀ Q, am_J (d + 1) 224 43 [some (.ref 349)] [] h Q ↔ Q (some (.int (nI own))) (am_setI gc 377 own (nI 1)) := by
  have key : ∃ H0, am_fr (fun a => a = 349) h H0 ∧ kp (fun a j => a = 349 ∧ j = 16) h H0 ∧ am_I H0 349 16 = nI (max nf (own + 1)) ∧ (∀ j, am_L H0 349 j = am_L h 349 j) ∧ ∀ Q, am_J (d + 1) 224 43 [some (.ref 349)] [] h Q ↔ am_J (d + 1) 224 64 [some (.ref 349)] [] H0 Q := by
    by_cases c : own = nf
    · subst c
      refine ⟨am_setI h 349 16 (nI (own + 1)), fr_I fr_refl rfl, kp_I kp_refl ⟨rfl, rfl⟩, by rw [rI_eq, Nat.max_eq_right (by omega)], fun _ => rfl, fun Q => ?_⟩
      simp (disch := first | with_reducible assumption | omega | exact Or.inl rfl | exact Or.inr rfl | exact bI_01 | exact c_cat | exact vt_ref | exact vt_null | rfl | with_reducible repeat (first | assumption | omega | apply S_I | apply S_L | apply S_D | apply ob_I | apply ob_L | apply ob_D | apply ob_R | apply ax_I | apply ax_L | apply ax_D | apply ax_R | apply o303 | apply o307 | apply o302 | apply o301 | apply ax304 | apply ax305 | apply ax306 | apply ax308 | apply ax309 | apply ax310 | apply lt_S | apply ar305 | apply ar308 | apply ar309)) only [g224_43, g224_44, g224_47, g224_48, g224_51, g224_54, g224_55, g224_56, g224_59, g224_60, g224_61, Option.toList, List.nil_append, List.cons_append, va_rf, nI_ltI, nI_leI, nI_eq, nI_add, nI_sub, nI_lt0, nI_e0, nI_m1, m1_nI, Nat.reduceEqDiff, Nat.reduceLT, Nat.reduceLeDiff, Nat.reduceAdd, Nat.reduceSub, Nat.reduceMul, ↓reduceIte, eq_self, e30, e16]
    · refine ⟨h, fr_refl, kp_refl, by rw [e16, Nat.max_eq_left (by omega)], fun _ => rfl, fun Q => ?_⟩
      simp (disch := first | with_reducible assumption | omega | exact Or.inl rfl | exact Or.inr rfl | exact bI_01 | exact c_cat | exact vt_ref | exact vt_null | rfl | with_reducible repeat (first | assumption | omega | apply S_I | apply S_L | apply S_D | apply ob_I | apply ob_L | apply ob_D | apply ob_R | apply ax_I | apply ax_L | apply ax_D | apply ax_R | apply o303 | apply o307 | apply o302 | apply o301 | apply ax304 | apply ax305 | apply ax306 | apply ax308 | apply ax309 | apply ax310 | apply lt_S | apply ar305 | apply ar308 | apply ar309)) only [g224_43, g224_44, g224_47, g224_48, g224_51, g224_54, g224_55, g224_56, g224_59, g224_60, g224_61, Option.toList, List.nil_append, List.cons_append, va_rf, nI_ltI, nI_leI, nI_eq, nI_add, nI_sub, nI_lt0, nI_e0, nI_m1, m1_nI, Nat.reduceEqDiff, Nat.reduceLT, Nat.reduceLeDiff, Nat.reduceAdd, Nat.reduceSub, Nat.reduceMul, ↓reduceIte, eq_self, e30, e16, c]
  obtain ⟨H0, F0, K0, v0, l0, r0⟩ := key
  have S0 := fr_S F0 S
  have lt9 := am_S_lt S (show 349 < 402 by decide)
  have e30' : am_I H0 349 30 = nI own := (K0.2.2 349 30 lt9 (by omega)).1.trans e30
  have e31' : am_I H0 349 31 = nI na := (K0.2.2 349 31 lt9 (by omega)).1.trans e31
  have e27' : am_I H0 349 27 = nI m := (K0.2.2 349 27 lt9 (by omega)).1.trans e27
  have e32' : am_L H0 349 32 = y := (l0 32).trans e32
  have F1 : am_fr (fun a => a = 358 ∨ a = 361) H0 (am_setI (am_setL H0 358 own y) 361 own (nI na)) := fr_I (fr_L fr_refl (Or.inl rfl)) (Or.inr rfl)
  have S1 := fr_S F1 S0
  have e30'' : am_I (am_setI (am_setL H0 358 own y) 361 own (nI na)) 349 30 = nI own := (fr_rdI F1 (by decide)).trans e30'
  obtain ⟨gc, rc, C⟩ := m_copyTo (d := d) (s := 48 + own) S1 ((fr_rdI F1 (by decide)).trans e27') hm (by omega)
  have Sc := fr_S C.1 S1
  have e30c : am_I gc 349 30 = nI own := (fr_rdI C.1 (by decide)).trans e30''
  refine ⟨am_setI (am_setL H0 358 own y) 361 own (nI na), gc, fr_trans (fr_mono (fun a q => Or.inl q) F0) (fr_mono (fun a q => Or.inr q) F1), kp_I (kp_L (kp_mono (fun a j q => Or.inl q) K0) (by omega)) (by omega), ?_, ?_, ?_, C, fun Q => ?_⟩
  · simp only [hI_I, hI_L, hI_D, hI_R, hL_I, hL_L, hL_D, hL_R, hD_I, hD_L, hD_D, hD_R, hR_I, hR_L, hR_D, ↓reduceIte, Nat.reduceEqDiff]; exact v0
  · simp only [hI_I, hI_L, hI_D, hI_R, hL_I, hL_L, hL_D, hL_R, hD_I, hD_L, hD_D, hD_R, hR_I, hR_L, hR_D, ↓reduceIte, Nat.reduceEqDiff]
  · simp only [hI_I, hI_L, hI_D, hI_R, hL_I, hL_L, hL_D, hL_R, hD_I, hD_L, hD_D, hD_R, hR_I, hR_L, hR_D, ↓reduceIte, Nat.reduceEqDiff]
  · rw [r0]
    simp (disch := first | with_reducible assumption | omega | exact Or.inl rfl | exact Or.inr rfl | exact bI_01 | exact c_cat | exact vt_ref | exact vt_null | rfl | with_reducible repeat (first | assumption | omega | apply S_I | apply S_L | apply S_D | apply ob_I | apply ob_L | apply ob_D | apply ob_R | apply ax_I | apply ax_L | apply ax_D | apply ax_R | apply o303 | apply o307 | apply o302 | apply o301 | apply ax304 | apply ax305 | apply ax306 | apply ax308 | apply ax309 | apply ax310 | apply lt_S | apply ar305 | apply ar308 | apply ar309)) only [g224_64, g224_65, g224_68, g224_69, g224_72, g224_73, g224_76, g224_77, g224_78, g224_81, g224_82, g224_85, g224_86, g224_89, g224_90, g224_91, g224_93, g224_94, g224_97, g224_98, g224_101, g224_102, g224_105, g224_106, g224_109, g224_110, g224_111, g224_112, g224_115, Option.toList, List.nil_append, List.cons_append, va_rf, nI_ltI, nI_leI, nI_eq, nI_add, nI_sub, nI_lt0, nI_e0, nI_m1, m1_nI, Nat.reduceEqDiff, Nat.reduceLT, Nat.reduceLeDiff, Nat.reduceAdd, Nat.reduceSub, Nat.reduceMul, ↓reduceIte, eq_self, hI_I, hI_L, hI_D, hI_R, hL_I, hL_L, hL_D, hL_R, hD_I, hD_L, hD_D, hD_R, hR_I, hR_L, hR_D, ↓reduceIte, Nat.reduceEqDiff, nI_mul, e30', e31', e32', e30'', e30c, rc _]
end FNK

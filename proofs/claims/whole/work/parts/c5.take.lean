/-! THE OPERATION take -/
section TAK
variable {d q : Nat} {h : am_H}
theorem m_takeLoop (S : am_S h) {n : Nat} (hn : n ≤ 240) (e3 : am_I h 349 3 = nI n) : ∀ r i g, n - i = r → i ≤ n → am_fr (fun a => a = 350) h g → (∀ j, am_I g 350 j = if j < i then am_I h 351 j else am_I h 350 j) → ∃ g', (∀ Q, am_J d 185 15 [some (.ref 349), some (.int (nI i))] [] g Q ↔ am_J d 185 41 [some (.ref 349), some (.int (nI n))] [] g' Q) ∧ am_fr (fun a => a = 350) h g' ∧ ∀ j, am_I g' 350 j = if j < n then am_I h 351 j else am_I h 350 j := by
  intro r
  induction r with
  | zero =>
    intro i g hr hi Fr e
    obtain rfl : i = n := by omega
    have Sg := fr_S Fr S
    have e3' : am_I g 349 3 = nI i := (fr_rdI Fr (by decide)).trans e3
    refine ⟨g, fun Q => ?_, Fr, e⟩
    rw [g185_15]
    simp (disch := first | with_reducible assumption | omega | exact Or.inl rfl | exact Or.inr rfl | exact bI_01 | exact c_cat | exact vt_ref | exact vt_null | rfl | with_reducible repeat (first | assumption | omega | apply S_I | apply S_L | apply S_D | apply ob_I | apply ob_L | apply ob_D | apply ob_R | apply ax_I | apply ax_L | apply ax_D | apply ax_R | apply o303 | apply o307 | apply o302 | apply o301 | apply ax304 | apply ax305 | apply ax306 | apply ax308 | apply ax309 | apply ax310 | apply lt_S | apply ar305 | apply ar308 | apply ar309)) only [g185_16, g185_17, g185_20, g185_23, g185_24, g185_27, g185_28, g185_29, g185_32, g185_33, g185_34, g185_35, g185_38, Option.toList, List.nil_append, List.cons_append, va_rf, nI_ltI, nI_leI, nI_eq, nI_add, nI_sub, nI_lt0, nI_e0, nI_m1, m1_nI, Nat.reduceEqDiff, Nat.reduceLT, Nat.reduceLeDiff, Nat.reduceAdd, Nat.reduceSub, Nat.reduceMul, ↓reduceIte, eq_self, e3', Nat.le_refl]
  | succ r ih =>
    intro i g hr hi Fr e
    have Sg := fr_S Fr S
    have e3' : am_I g 349 3 = nI n := (fr_rdI Fr (by decide)).trans e3
    have e1 : am_I g 351 i = am_I h 351 i := fr_rdI Fr (by decide)
    obtain ⟨g', r', rest⟩ := ih (i + 1) (am_setI g 350 i (am_I h 351 i)) (by omega) (by omega) (fr_I Fr rfl) (fun j => by
      by_cases c : j = i
      · rw [c, rI_eq, if_pos (Nat.lt_succ_self _)]
      · rw [rI_k c, e j]
        by_cases c2 : j < i
        · rw [if_pos c2, if_pos (by omega)]
        · rw [if_neg c2, if_neg (by omega)])
    refine ⟨g', fun Q => ?_, rest⟩
    rw [← r' Q, g185_15]
    simp (disch := first | with_reducible assumption | omega | exact Or.inl rfl | exact Or.inr rfl | exact bI_01 | exact c_cat | exact vt_ref | exact vt_null | rfl | with_reducible repeat (first | assumption | omega | apply S_I | apply S_L | apply S_D | apply ob_I | apply ob_L | apply ob_D | apply ob_R | apply ax_I | apply ax_L | apply ax_D | apply ax_R | apply o303 | apply o307 | apply o302 | apply o301 | apply ax304 | apply ax305 | apply ax306 | apply ax308 | apply ax309 | apply ax310 | apply lt_S | apply ar305 | apply ar308 | apply ar309)) only [g185_16, g185_17, g185_20, g185_23, g185_24, g185_27, g185_28, g185_29, g185_32, g185_33, g185_34, g185_35, g185_38, Option.toList, List.nil_append, List.cons_append, va_rf, nI_ltI, nI_leI, nI_eq, nI_add, nI_sub, nI_lt0, nI_e0, nI_m1, m1_nI, Nat.reduceEqDiff, Nat.reduceLT, Nat.reduceLeDiff, Nat.reduceAdd, Nat.reduceSub, Nat.reduceMul, ↓reduceIte, eq_self, e3', show ¬ n ≤ i by omega, e1]
theorem o_take (I : Inv q h) : ∃ r h1 h2, am_run (d + 2) 153 [some (.ref 4)] h (some (.int r)) h1 ∧ am_run d 185 [some (.ref 349), none] h1 (some (.int r)) h2 ∧ Inv q h2 := by
  obtain ⟨S, G, T, ⟨E, e1, e2, e3, e4, e5⟩, -, -, -, -, M, -⟩ := id I
  have O5 : am_ob h 5 10 := am_S_ob S (by decide +kernel)
  have O7 : am_ob h 7 10 := am_S_ob S (by decide +kernel)
  have R5 : am_R h 5 0 = some 6 := am_S_rf S (by decide +kernel)
  have R7 : am_R h 7 0 = some 8 := am_S_rf S (by decide +kernel)
  have T6 : am_tg h 6 = (103, 240) := by rw [am_S_tg S (by decide) (by decide)]; decide +kernel
  have T8 : am_tg h 8 = (103, 400) := by rw [am_S_tg S (by decide) (by decide)]; decide +kernel
  by_cases c : E.length ≤ 240
  · obtain ⟨g, r1, F1, x1, x2, x3, x4, x5⟩ := x_become (d := d) (m := E.length) O5 (by decide) R5 (by decide) T6 (am_S_lt S (by decide)) O7 R7 T8 (am_S_lt S (by decide)) c e1 (by decide) (by decide) (by decide) (by decide) (by decide) (by decide) (by decide) e3 (fun i hi => by
      have q1 := e5 i E[i] (List.getElem?_eq_getElem hi)
      have q2 := e2 E[i] (List.getElem_mem hi)
      rw [q1.1]; exact by8_nI _ q2.2)
    have Sg := fr_S F1 S
    have e4g : am_I g 349 3 = nI E.length := (fr_rdI F1 (by decide)).trans e4
    obtain ⟨g', r2, F2, y1⟩ := m_takeLoop (d := d) Sg c e4g E.length 0 g (Nat.sub_zero _) (Nat.zero_le _) fr_refl (fun j => by rw [if_neg (Nat.not_lt_zero _)])
    have Sg' := fr_S F2 Sg
    have F3 : am_fr (fun a => a = 349) g' (am_setI g' 349 2 (nI E.length)) := fr_I fr_refl rfl
    refine ⟨nI E.length, g, am_setI g' 349 2 (nI E.length), fun Q => ?_, fun Q => ?_, Inv_T I (kp_trans (kp_fr F1 (by omega)) (kp_trans (kp_fr F2 (by omega)) (kp_I kp_refl (Or.inr (Or.inr (Or.inl ⟨rfl, rfl⟩)))))) (fr_S F3 Sg') (Gv_fr F3 (by decide) (by decide) (by decide) (Gv_fr F2 (by decide) (by decide) (by decide) (Gv_fr F1 (by decide) (by decide) (by decide) G))) ⟨?_, ?_⟩ ⟨fun j => E.getD j 0, E.length, ⟨?_, c, fun j hj => ?_⟩, rI_eq, fun j hj => ?_⟩⟩
    · simp (disch := first | with_reducible assumption | omega | exact Or.inl rfl | exact Or.inr rfl | exact bI_01 | exact c_cat | exact vt_ref | exact vt_null | rfl | with_reducible repeat (first | assumption | omega | apply S_I | apply S_L | apply S_D | apply ob_I | apply ob_L | apply ob_D | apply ob_R | apply ax_I | apply ax_L | apply ax_D | apply ax_R | apply o303 | apply o307 | apply o302 | apply o301 | apply ax304 | apply ax305 | apply ax306 | apply ax308 | apply ax309 | apply ax310 | apply lt_S | apply ar305 | apply ar308 | apply ar309)) only [g153_0, g153_1, g153_4, g153_7, g153_10, g153_13, g153_15, g153_16, g153_17, g153_20, g153_21, g153_24, g153_27, g153_28, g153_31, g153_34, Option.toList, List.nil_append, List.cons_append, va_rf, nI_ltI, nI_leI, nI_eq, nI_add, nI_sub, nI_lt0, nI_e0, nI_m1, m1_nI, Nat.reduceEqDiff, Nat.reduceLT, Nat.reduceLeDiff, Nat.reduceAdd, Nat.reduceSub, Nat.reduceMul, ↓reduceIte, eq_self, e3, c, show ¬ 240 < E.length by omega, r1 _, x1]
    · have e4g' : am_I g' 349 3 = nI E.length := (fr_rdI F2 (by decide)).trans e4g
      have ee : am_J d 185 0 [some (.ref 349), none] [] g Q ↔ am_J d 185 15 [some (.ref 349), some (.int (nI 0))] [] g Q := by
        simp (disch := first | with_reducible assumption | omega | exact Or.inl rfl | exact Or.inr rfl | exact bI_01 | exact c_cat | exact vt_ref | exact vt_null | rfl | with_reducible repeat (first | assumption | omega | apply S_I | apply S_L | apply S_D | apply ob_I | apply ob_L | apply ob_D | apply ob_R | apply ax_I | apply ax_L | apply ax_D | apply ax_R | apply o303 | apply o307 | apply o302 | apply o301 | apply ax304 | apply ax305 | apply ax306 | apply ax308 | apply ax309 | apply ax310 | apply lt_S | apply ar305 | apply ar308 | apply ar309)) only [g185_0, g185_1, g185_4, g185_7, g185_10, g185_12, g185_13, g185_14, Option.toList, List.nil_append, List.cons_append, va_rf, nI_ltI, nI_leI, nI_eq, nI_add, nI_sub, nI_lt0, nI_e0, nI_m1, m1_nI, Nat.reduceEqDiff, Nat.reduceLT, Nat.reduceLeDiff, Nat.reduceAdd, Nat.reduceSub, Nat.reduceMul, ↓reduceIte, eq_self, e4g, c, show ¬ 240 < E.length by omega]
      rw [ee, r2]
      simp (disch := first | with_reducible assumption | omega | exact Or.inl rfl | exact Or.inr rfl | exact bI_01 | exact c_cat | exact vt_ref | exact vt_null | rfl | with_reducible repeat (first | assumption | omega | apply S_I | apply S_L | apply S_D | apply ob_I | apply ob_L | apply ob_D | apply ob_R | apply ax_I | apply ax_L | apply ax_D | apply ax_R | apply o303 | apply o307 | apply o302 | apply o301 | apply ax304 | apply ax305 | apply ax306 | apply ax308 | apply ax309 | apply ax310 | apply lt_S | apply ar305 | apply ar308 | apply ar309)) only [g185_41, g185_42, g185_43, g185_46, g185_49, g185_50, g185_53, Option.toList, List.nil_append, List.cons_append, va_rf, nI_ltI, nI_leI, nI_eq, nI_add, nI_sub, nI_lt0, nI_e0, nI_m1, m1_nI, Nat.reduceEqDiff, Nat.reduceLT, Nat.reduceLeDiff, Nat.reduceAdd, Nat.reduceSub, Nat.reduceMul, ↓reduceIte, eq_self, hI_I, hI_L, hI_D, hI_R, hL_I, hL_L, hL_D, hL_R, hD_I, hD_L, hD_D, hD_R, hR_I, hR_L, hR_D, ↓reduceIte, Nat.reduceEqDiff, e4g']
    · show g'.1 ≤ _
      rw [F2.1, F1.1]; exact M.1
    · show g'.2.1 ≤ _
      rw [F2.2.1, F1.2.1]; exact M.2
    · rw [rI_a (by decide), fr_rdI F2 (by decide)]; exact x1
    · have q1 := e5 j E[j] (List.getElem?_eq_getElem hj)
      have q2 := e2 E[j] (List.getElem_mem hj)
      have q3 : E.getD j 0 = E[j] := by rw [List.getD_eq_getElem?_getD, List.getElem?_eq_getElem hj]; rfl
      show 1 ≤ E.getD j 0 ∧ E.getD j 0 ≤ 255 ∧ _ = by8 (E.getD j 0)
      rw [q3, rI_a (by decide), fr_rdI F2 (by decide), x3 j, if_pos hj, q1.1, by8_lo _ q2.2]
      exact ⟨q2.1, by omega, rfl⟩
    · have q1 := e5 j E[j] (List.getElem?_eq_getElem hj)
      have q3 : E.getD j 0 = E[j] := by rw [List.getD_eq_getElem?_getD, List.getElem?_eq_getElem hj]; rfl
      show _ = nI (E.getD j 0)
      rw [q3, rI_a (by decide), y1 j, if_pos hj, fr_rdI F1 (by decide)]
      exact q1.2
  · refine ⟨-2, h, h, fun Q => ?_, fun Q => ?_, I⟩
    · simp (disch := first | with_reducible assumption | omega | exact Or.inl rfl | exact Or.inr rfl | exact bI_01 | exact c_cat | exact vt_ref | exact vt_null | rfl | with_reducible repeat (first | assumption | omega | apply S_I | apply S_L | apply S_D | apply ob_I | apply ob_L | apply ob_D | apply ob_R | apply ax_I | apply ax_L | apply ax_D | apply ax_R | apply o303 | apply o307 | apply o302 | apply o301 | apply ax304 | apply ax305 | apply ax306 | apply ax308 | apply ax309 | apply ax310 | apply lt_S | apply ar305 | apply ar308 | apply ar309)) only [g153_0, g153_1, g153_4, g153_7, g153_10, g153_13, g153_15, g153_16, g153_17, g153_20, g153_21, g153_24, g153_27, g153_28, g153_31, g153_34, Option.toList, List.nil_append, List.cons_append, va_rf, nI_ltI, nI_leI, nI_eq, nI_add, nI_sub, nI_lt0, nI_e0, nI_m1, m1_nI, Nat.reduceEqDiff, Nat.reduceLT, Nat.reduceLeDiff, Nat.reduceAdd, Nat.reduceSub, Nat.reduceMul, ↓reduceIte, eq_self, e3, c, show 240 < E.length by omega]
    · simp (disch := first | with_reducible assumption | omega | exact Or.inl rfl | exact Or.inr rfl | exact bI_01 | exact c_cat | exact vt_ref | exact vt_null | rfl | with_reducible repeat (first | assumption | omega | apply S_I | apply S_L | apply S_D | apply ob_I | apply ob_L | apply ob_D | apply ob_R | apply ax_I | apply ax_L | apply ax_D | apply ax_R | apply o303 | apply o307 | apply o302 | apply o301 | apply ax304 | apply ax305 | apply ax306 | apply ax308 | apply ax309 | apply ax310 | apply lt_S | apply ar305 | apply ar308 | apply ar309)) only [g185_0, g185_1, g185_4, g185_7, g185_10, g185_12, g185_13, g185_14, g185_15, g185_16, g185_17, g185_20, g185_23, g185_24, g185_27, g185_28, g185_29, g185_32, g185_33, g185_34, g185_35, g185_38, g185_41, g185_42, g185_43, g185_46, g185_49, g185_50, g185_53, Option.toList, List.nil_append, List.cons_append, va_rf, nI_ltI, nI_leI, nI_eq, nI_add, nI_sub, nI_lt0, nI_e0, nI_m1, m1_nI, Nat.reduceEqDiff, Nat.reduceLT, Nat.reduceLeDiff, Nat.reduceAdd, Nat.reduceSub, Nat.reduceMul, ↓reduceIte, eq_self, e4, c, show 240 < E.length by omega]
end TAK

/-! THE MODEL: the head of a constant -/
section MC2
variable {d : Nat} {h g : am_H} {Q : Option Value → am_H → Prop} {v4 : Option Value} {t : Nat → Nat} {n s nc nf : Nat} {cnM fnM : Nat → Int64} {fnA : Nat → Nat} {md : Nat ⊕ (Nat × Nat)} {k o wn wp : Int32} {x : Int64}
/-- what the head leaves -/
def MH (h h' : am_H) : Prop := am_fr (fun a => a = 349 ∨ (352 ≤ a ∧ a ≤ 357)) h h' ∧ (∀ k, ¬ (k = 4 ∨ (17 ≤ k ∧ k ≤ 20) ∨ (22 ≤ k ∧ k ≤ 27) ∨ k = 30 ∨ k = 31) → am_I h' 349 k = am_I h 349 k) ∧ ∀ a i, 352 ≤ a → a ≤ 357 → (i < 3648 ∨ 3696 ≤ i) → am_I h' a i = am_I h a i ∧ am_L h' a i = am_L h a i
theorem MH_of (F : MF h g 0) : MH h g := ⟨F.1, fun k hk => F.2.1 k (by omega), fun a i h1 h2 hi => F.2.2.2 a i h1 h2 (by omega)⟩
theorem MH_trans {g' : am_H} (F : MH h g) (G : MH g g') : MH h g' := ⟨fr_trans F.1 G.1, fun k hk => (G.2.1 k hk).trans (F.2.1 k hk), fun a i h1 h2 hi => ⟨(G.2.2 a i h1 h2 hi).1.trans (F.2.2 a i h1 h2 hi).1, (G.2.2 a i h1 h2 hi).2.trans (F.2.2 a i h1 h2 hi).2⟩⟩
theorem MH_L {j : Nat} {x : Int64} : MH h (am_setL h 349 j x) := ⟨fr_L fr_refl (Or.inl rfl), fun k hk => rfl, fun a i h1 h2 hi => ⟨rfl, by rw [rL_a (by omega)]⟩⟩
theorem MH_I {j : Nat} {x : Int32} (hj : j = 30 ∨ j = 31) : MH h (am_setI h 349 j x) := ⟨fr_I fr_refl (Or.inl rfl), fun k hk => by rw [rI_k (by omega)], fun a i h1 h2 hi => ⟨by rw [rI_a (by omega)], rfl⟩⟩
theorem bM_MH (F : MH h g) (B : bM h s nc nf cnM fnM fnA) : bM g s nc nf cnM fnM fnA := by
  obtain ⟨b1, b2, b3, b4⟩ := B
  exact ⟨by rw [fr_rdI F.1 (by omega)]; exact b1, fun i hi => by rw [fr_rdL F.1 (by omega)]; exact b2 i hi, by rw [F.2.1 16 (by omega)]; exact b3, fun i hi => ⟨by rw [fr_rdL F.1 (by omega)]; exact (b4 i hi).1, by rw [fr_rdI F.1 (by omega)]; exact (b4 i hi).2⟩⟩
theorem m_chead (Y : MX h t n md k o 0 wn wp) (e28 : am_I h 349 28 = nI 2) (e29 : am_I h 349 29 = nI s) (hs : s < 4) (hnc : nc ≤ 5) (B : bM h s nc nf cnM fnM fnA) : ∃ h', am_run (d + 8) 200 [some (.ref 349), none, none] h none h' ∧ MH h h' ∧ ((∃ q, md = .inl q ∧ lx_K t n q = 258 ∧ lx_wd t n q = 12 ∧ MX h' t n (mpass t n (mdA t n md) 61) k o 0 wn wp ∧ am_I h' 349 30 = nI (fdI cnM (lN (lx_w 32 96 t q (lx_E t n q - q))) nc) ∧ am_L h' 349 32 = lN (lx_w 32 96 t q (lx_E t n q - q))) ∨ (¬ isNm t n md ∧ MX h' t n (mdR 2 md) k o 0 wn wp)) := by
  have S := Y.1
  match md, Y with
  | .inr y, Y =>
    have BB := BM_of Y (Nat.le_refl 0)
    obtain ⟨b, Wn⟩ := bm_isName (d := d + 1) BB
    have hb : ∃ h1, am_run (d + 7) 203 [some (.ref 349), some (.int (bI b))] h none h1 ∧ MX h1 t n (.inr y) k o 0 wn wp ∧ MF h h1 0 := by
      cases b with
      | true => exact ⟨h, fun Q => m_needT S, Y, MF_refl⟩
      | false =>
        obtain ⟨h1, r1, Y1, F1⟩ := m_needF (d := d + 6) Y
        exact ⟨h1, r1, Y1, F1⟩
    obtain ⟨h1, r1, Y1, F1⟩ := hb
    obtain ⟨S1, f1, f10, f1h, f1e⟩ := bm_S (BM_of Y1 (Nat.le_refl 0))
    refine ⟨h1, fun Q => ?_, MH_of F1, Or.inr ⟨fun e => e, Y1⟩⟩
    simp (disch := first | with_reducible assumption | omega | exact Or.inl rfl | exact Or.inr rfl | exact bI_01 | exact c_cat | exact vt_ref | exact vt_null | rfl | with_reducible repeat (first | assumption | omega | apply S_I | apply S_L | apply S_D | apply ob_I | apply ob_L | apply ob_D | apply ob_R | apply ax_I | apply ax_L | apply ax_D | apply ax_R | apply o303 | apply o307 | apply o302 | apply o301 | apply ax304 | apply ax305 | apply ax306 | apply ax308 | apply ax309 | apply ax310 | apply lt_S | apply ar305 | apply ar308 | apply ar309)) only [g200_0, g200_1, g200_2, g200_5, g200_8, g200_9, g200_12, g200_15, Option.toList, List.nil_append, List.cons_append, va_rf, nI_ltI, nI_leI, nI_eq, nI_add, nI_sub, nI_lt0, nI_e0, nI_m1, m1_nI, Nat.reduceEqDiff, Nat.reduceLT, Nat.reduceLeDiff, Nat.reduceAdd, Nat.reduceSub, Nat.reduceMul, ↓reduceIte, eq_self, Wn, r1 _, f1e, f10]
  | .inl q, Y =>
    obtain ⟨⟨m1', m2', m3', m4'⟩, mk, mq, f22, f4⟩ := Y.2.2.2.1
    have nm := fun Q => m_isName (d := d + 1) (Q := Q) Y
    by_cases c : lx_K t n q = 258 ∧ lx_wd t n q = 12
    · rw [decide_eq_true c] at nm
      obtain ⟨a1, a2, a3, a4, a5⟩ := lx_name c.1
      have nh := fun Q => m_nameHere (d := d + 7) (Q := Q) (v1 := none) (v2 := none) (v3 := none) Y (fun j h1 h2 => (isL_of (a5 j h1 h2)).1) (Nat.le_of_lt a2)
      generalize ey : lN (lx_w 32 96 t q (lx_E t n q - q)) = y at nh ⊢
      have Y1 : MX (am_setL h 349 32 y) t n (.inl q) k o 0 wn wp := MX_fr349 (fr_L fr_refl rfl) (fun j hj => rfl) Y
      have S1 := Y1.1
      obtain ⟨h2, r2, Y2, F2⟩ := m_nx (d := d + 4) (v1 := none) Y1
      have S2 := Y2.1
      have H2 : MH h h2 := MH_trans MH_L (MH_of F2)
      have e2 : am_L h2 349 32 = y := by rw [F2.2.2.1 32]; simp only [hI_I, hI_L, hI_D, hI_R, hL_I, hL_L, hL_D, hL_R, hD_I, hD_L, hD_D, hD_R, hR_I, hR_L, hR_D, ↓reduceIte, Nat.reduceEqDiff]
      have e28' : am_I h2 349 28 = nI 2 := by rw [H2.2.1 28 (by omega)]; exact e28
      have e29' : am_I h2 349 29 = nI s := by rw [H2.2.1 29 (by omega)]; exact e29
      have B2 := bM_MH H2 B
      have cf := fun Q => m_cnOf (d := d + 7) (Q := Q) (v4 := none) (x := y) S2 hs hnc B2
      have b1 := B2.1
      have hle : fdI cnM y nc ≤ nc := fdI_le
      have Y3 : MX (am_setI h2 349 30 (nI (fdI cnM y nc))) t n (mdA t n (.inl q)) k o 0 wn wp := MX_fr349 (fr_I fr_refl rfl) (fun j hj => by rw [rI_k (by omega)]) Y2
      have S3 := Y3.1
      obtain ⟨h4, r4, Y4, F4⟩ := m_pass (d := d + 3) Y3 (v := 61) (by decide)
      refine ⟨h4, fun Q => ?_, MH_trans H2 (MH_trans (MH_I (Or.inl rfl)) (MH_of F4)), Or.inl ⟨q, rfl, c.1, c.2, Y4, ?_, by rw [F4.2.2.1 32, hL_I, ey]; exact e2⟩⟩
      · by_cases cf' : fdI cnM y nc < nc
        · rw [show xI nc (fdI cnM y nc) = nI (fdI cnM y nc) from if_pos cf'] at cf
          simp (disch := first | with_reducible assumption | omega | exact Or.inl rfl | exact Or.inr rfl | exact bI_01 | exact c_cat | exact vt_ref | exact vt_null | rfl | with_reducible repeat (first | assumption | omega | apply S_I | apply S_L | apply S_D | apply ob_I | apply ob_L | apply ob_D | apply ob_R | apply ax_I | apply ax_L | apply ax_D | apply ax_R | apply o303 | apply o307 | apply o302 | apply o301 | apply ax304 | apply ax305 | apply ax306 | apply ax308 | apply ax309 | apply ax310 | apply lt_S | apply ar305 | apply ar308 | apply ar309)) only [g200_0, g200_1, g200_2, g200_5, g200_8, g200_9, g200_12, g200_15, g200_16, g200_17, g200_18, g200_21, g200_24, g200_25, g200_28, g200_29, g200_30, g200_33, g200_34, g200_37, g200_38, g200_265, g200_266, g200_267, g200_270, g200_271, g200_274, g200_277, g200_278, g200_279, g200_280, g200_281, g200_284, g200_285, g200_288, g200_289, g200_292, g200_293, g200_296, g200_297, g200_300, g200_301, g200_303, g200_306, Option.toList, List.nil_append, List.cons_append, va_rf, nI_ltI, nI_leI, nI_eq, nI_add, nI_sub, nI_lt0, nI_e0, nI_m1, m1_nI, Nat.reduceEqDiff, Nat.reduceLT, Nat.reduceLeDiff, Nat.reduceAdd, Nat.reduceSub, Nat.reduceMul, ↓reduceIte, eq_self, hI_I, hI_L, hI_D, hI_R, hL_I, hL_L, hL_D, hL_R, hD_I, hD_L, hD_D, hD_R, hR_I, hR_L, hR_D, ↓reduceIte, Nat.reduceEqDiff, nm _, m_needT, f22, nh _, m3', r2 _, e28', e29', e2, cf _, r4 _]
        · have e : fdI cnM y nc = nc := by omega
          rw [show xI nc (fdI cnM y nc) = -1 from if_neg cf'] at cf
          rw [e] at r4
          simp (disch := first | with_reducible assumption | omega | exact Or.inl rfl | exact Or.inr rfl | exact bI_01 | exact c_cat | exact vt_ref | exact vt_null | rfl | with_reducible repeat (first | assumption | omega | apply S_I | apply S_L | apply S_D | apply ob_I | apply ob_L | apply ob_D | apply ob_R | apply ax_I | apply ax_L | apply ax_D | apply ax_R | apply o303 | apply o307 | apply o302 | apply o301 | apply ax304 | apply ax305 | apply ax306 | apply ax308 | apply ax309 | apply ax310 | apply lt_S | apply ar305 | apply ar308 | apply ar309)) only [g200_0, g200_1, g200_2, g200_5, g200_8, g200_9, g200_12, g200_15, g200_16, g200_17, g200_18, g200_21, g200_24, g200_25, g200_28, g200_29, g200_30, g200_33, g200_34, g200_37, g200_38, g200_265, g200_266, g200_267, g200_270, g200_271, g200_274, g200_277, g200_278, g200_279, g200_280, g200_281, g200_284, g200_285, g200_288, g200_289, g200_292, g200_293, g200_296, g200_297, g200_300, g200_301, g200_303, g200_306, Option.toList, List.nil_append, List.cons_append, va_rf, nI_ltI, nI_leI, nI_eq, nI_add, nI_sub, nI_lt0, nI_e0, nI_m1, m1_nI, Nat.reduceEqDiff, Nat.reduceLT, Nat.reduceLeDiff, Nat.reduceAdd, Nat.reduceSub, Nat.reduceMul, ↓reduceIte, eq_self, hI_I, hI_L, hI_D, hI_R, hL_I, hL_L, hL_D, hL_R, hD_I, hD_L, hD_D, hD_R, hR_I, hR_L, hR_D, ↓reduceIte, Nat.reduceEqDiff, nm _, m_needT, f22, nh _, m3', r2 _, e28', e29', e2, cf _, b1, r4 _]
      · rw [F4.2.1 30 (by omega), ey]; simp only [hI_I, hI_L, hI_D, hI_R, hL_I, hL_L, hL_D, hL_R, hD_I, hD_L, hD_D, hD_R, hR_I, hR_L, hR_D, ↓reduceIte, Nat.reduceEqDiff]
    · rw [decide_eq_false c] at nm
      obtain ⟨h1, r1, Y1, F1⟩ := m_needF (d := d + 6) Y
      obtain ⟨S1, f1, f10, f1h, f1e⟩ := bm_S (BM_of Y1 (Nat.le_refl 0))
      refine ⟨h1, fun Q => ?_, MH_of F1, Or.inr ⟨c, Y1⟩⟩
      simp (disch := first | with_reducible assumption | omega | exact Or.inl rfl | exact Or.inr rfl | exact bI_01 | exact c_cat | exact vt_ref | exact vt_null | rfl | with_reducible repeat (first | assumption | omega | apply S_I | apply S_L | apply S_D | apply ob_I | apply ob_L | apply ob_D | apply ob_R | apply ax_I | apply ax_L | apply ax_D | apply ax_R | apply o303 | apply o307 | apply o302 | apply o301 | apply ax304 | apply ax305 | apply ax306 | apply ax308 | apply ax309 | apply ax310 | apply lt_S | apply ar305 | apply ar308 | apply ar309)) only [g200_0, g200_1, g200_2, g200_5, g200_8, g200_9, g200_12, g200_15, Option.toList, List.nil_append, List.cons_append, va_rf, nI_ltI, nI_leI, nI_eq, nI_add, nI_sub, nI_lt0, nI_e0, nI_m1, m1_nI, Nat.reduceEqDiff, Nat.reduceLT, Nat.reduceLeDiff, Nat.reduceAdd, Nat.reduceSub, Nat.reduceMul, ↓reduceIte, eq_self, nm _, r1 _, f1e, f10]
end MC2

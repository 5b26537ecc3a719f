/-! THE MODEL: the head of a constant -/
section MCH
variable {d : Nat} {h g : am_H} {Q : Option Value → am_H → Prop} {v4 : Option Value} {t : Nat → Nat} {n s nc nf m : Nat} {cnM fnM : Nat → Int64} {fnA : Nat → Nat} {md : Nat ⊕ (Nat × Nat)} {k o wn wp : Int32} {x : Int64}
theorem m_cnOf (S : am_S h) (hs : s < 4) (hnc : nc ≤ 5) (B : bM h s nc nf cnM fnM fnA) : am_J d 210 0 [some (.ref 349), some (.int (nI s)), some (.long x), none, v4] [] h Q ↔ Q (some (.int (xI nc (fdI cnM x nc)))) h := by
  obtain ⟨b6, b7, -, -⟩ := B
  have L : ∀ r i, nc - i = r → i ≤ nc → (am_J d 210 3 [some (.ref 349), some (.int (nI s)), some (.long x), none, some (.int (nI i))] [] h Q ↔ Q (some (.int (xI nc (am_scan (fun i => !decide (cnM i = x)) nc i)))) h) := by
    intro r
    induction r with
    | zero =>
      intro i hr hi
      obtain rfl : i = nc := by omega
      rw [scan_stop (fun q => absurd q.1 (Nat.lt_irrefl _)), g210_3]
      simp (disch := first | with_reducible assumption | omega | exact Or.inl rfl | exact Or.inr rfl | exact bI_01 | exact c_cat | exact vt_ref | exact vt_null | rfl | with_reducible repeat (first | assumption | omega | apply S_I | apply S_L | apply S_D | apply ob_I | apply ob_L | apply ob_D | apply ob_R | apply ax_I | apply ax_L | apply ax_D | apply ax_R | apply o303 | apply o307 | apply o302 | apply o301 | apply ax304 | apply ax305 | apply ax306 | apply ax308 | apply ax309 | apply ax310 | apply lt_S | apply ar305 | apply ar308 | apply ar309)) only [g210_5, g210_6, g210_9, g210_10, g210_11, g210_14, g210_15, g210_18, g210_19, g210_20, g210_21, g210_23, g210_24, g210_25, g210_26, g210_27, g210_30, g210_32, g210_33, g210_36, g210_39, g210_40, b6, nI_ltI, nI_leI, nI_eq, nI_add, nI_sub, nI_lt0, nI_e0, nI_m1, m1_nI, Nat.reduceEqDiff, Nat.reduceLT, Nat.reduceLeDiff, Nat.reduceAdd, Nat.reduceSub, Nat.reduceMul, ↓reduceIte, eq_self, Nat.le_refl, xI, Nat.lt_irrefl]
    | succ r ih =>
      intro i hr hi
      have e := b7 i (by omega)
      rw [g210_3]
      by_cases c : cnM i = x
      · rw [scan_stop (fun q => by simp [c] at q)]
        simp (disch := first | with_reducible assumption | omega | exact Or.inl rfl | exact Or.inr rfl | exact bI_01 | exact c_cat | exact vt_ref | exact vt_null | rfl | with_reducible repeat (first | assumption | omega | apply S_I | apply S_L | apply S_D | apply ob_I | apply ob_L | apply ob_D | apply ob_R | apply ax_I | apply ax_L | apply ax_D | apply ax_R | apply o303 | apply o307 | apply o302 | apply o301 | apply ax304 | apply ax305 | apply ax306 | apply ax308 | apply ax309 | apply ax310 | apply lt_S | apply ar305 | apply ar308 | apply ar309)) only [g210_5, g210_6, g210_9, g210_10, g210_11, g210_14, g210_15, g210_18, g210_19, g210_20, g210_21, g210_23, g210_24, g210_25, g210_26, g210_27, g210_30, g210_32, g210_33, g210_36, g210_39, g210_40, b6, nI_ltI, nI_leI, nI_eq, nI_add, nI_sub, nI_lt0, nI_e0, nI_m1, m1_nI, Nat.reduceEqDiff, Nat.reduceLT, Nat.reduceLeDiff, Nat.reduceAdd, Nat.reduceSub, Nat.reduceMul, ↓reduceIte, eq_self, nI_mul, show ¬ nc ≤ i by omega, e, c, lg_cmp0, xI, show i < nc by omega]
      · rw [scan_step (by omega) (by simp [c]), ← ih (i + 1) (by omega) (by omega)]
        simp (disch := first | with_reducible assumption | omega | exact Or.inl rfl | exact Or.inr rfl | exact bI_01 | exact c_cat | exact vt_ref | exact vt_null | rfl | with_reducible repeat (first | assumption | omega | apply S_I | apply S_L | apply S_D | apply ob_I | apply ob_L | apply ob_D | apply ob_R | apply ax_I | apply ax_L | apply ax_D | apply ax_R | apply o303 | apply o307 | apply o302 | apply o301 | apply ax304 | apply ax305 | apply ax306 | apply ax308 | apply ax309 | apply ax310 | apply lt_S | apply ar305 | apply ar308 | apply ar309)) only [g210_5, g210_6, g210_9, g210_10, g210_11, g210_14, g210_15, g210_18, g210_19, g210_20, g210_21, g210_23, g210_24, g210_25, g210_26, g210_27, g210_30, g210_32, g210_33, g210_36, g210_39, g210_40, b6, nI_ltI, nI_leI, nI_eq, nI_add, nI_sub, nI_lt0, nI_e0, nI_m1, m1_nI, Nat.reduceEqDiff, Nat.reduceLT, Nat.reduceLeDiff, Nat.reduceAdd, Nat.reduceSub, Nat.reduceMul, ↓reduceIte, eq_self, nI_mul, show ¬ nc ≤ i by omega, e, c, lg_cmp0]
  rw [g210_0, g210_1, L nc 0 (by omega) (by omega)]
  rfl
theorem MX_fr349 (Fr : am_fr (fun a => a = 349) h g) (hk : ∀ j, j = 4 ∨ (17 ≤ j ∧ j ≤ 27) → am_I g 349 j = am_I h 349 j) (Y : MX h t n md k o m wn wp) : MX g t n md k o m wn wp := by
  obtain ⟨S, G, T, L, e1, e2, e3, e4, e5, e6⟩ := Y
  exact ⟨fr_S Fr S, Gv_fr Fr (by omega) (by omega) (by omega) G, mT_fr Fr (by omega) (hk 21 (by omega)) T, mS_keep (fun j hj => hk j (by omega)) L, (hk 25 (by omega)).trans e1, (hk 26 (by omega)).trans e2, (hk 27 (by omega)).trans e3, e4, (hk 24 (by omega)).trans e5, (hk 23 (by omega)).trans e6⟩
end MCH

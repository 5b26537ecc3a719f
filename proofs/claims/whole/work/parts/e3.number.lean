/-! THE OPERATION number -/
def tp : Nat → UInt64
  | 0 => Jvm.FP.dconst1
  | n + 1 => Jvm.FP.dmul (tp n) 4621819117588971520
theorem tp_facts : ∀ n, n < 16 → (tp n &&& 0x7fffffffffffffff ≤ 0x7ff0000000000000) ∧ 1023 * 2 ^ 52 ≤ (tp n).toNat % 2 ^ 63 ∧ (tp n).toNat % 2 ^ 63 < 2047 * 2 ^ 52 := by decide +kernel
theorem tp_nn {n : Nat} (h : n < 16) : am_nn (tp n) := (tp_facts n h).1
theorem sh_mag (v : Int64) {n : Nat} (h : n < 16) : (Jvm.FP.ddiv (Jvm.FP.l2d v) (tp n)).toNat % 2 ^ 63 < 1089 * 2 ^ 52 := by
  obtain ⟨-, h1, h2⟩ := tp_facts n h
  have := Jvm.FP.Core.ddiv_mag (a := Jvm.FP.Core.l2d v) (b := tp n) (K := 1088) (L := 1023) (Jvm.FP.Core.l2d_mag v) h1 h2 (by decide) (by decide)
  exact this
theorem sh_ok (v : Int64) {n : Nat} (h : n < 16) : okD (Jvm.FP.ddiv (Jvm.FP.l2d v) (tp n)) := by
  refine UInt64.lt_iff_toNat_lt.mpr ?_
  rw [Jvm.FP.Core.mask_toNat]
  have := sh_mag v h
  show _ < 9218868437227405312
  omega
theorem okD_nn {x : UInt64} (h : okD x) : am_nn x := UInt64.le_of_lt h
section NUM
variable {d q : Nat} {h : am_H} {x y : Int32} {v : Int64}
theorem x_shiftLoop {e : Nat} (he : e < 16) : ∀ r i, e - i = r → i ≤ e → ∀ Q, am_J d 121 5 [some (.long v), none, some (.int (nI e)), some (.double (tp i)), none, some (.int (nI i))] [] h Q ↔ Q (some (.double (Jvm.FP.ddiv (Jvm.FP.l2d v) (tp e)))) h := by
  intro r
  induction r with
  | zero =>
    intro i hr hi Q
    obtain rfl : i = e := by omega
    have nn := okD_nn (sh_ok v he)
    rw [g121_5]
    simp (disch := first | with_reducible assumption | omega | exact Or.inl rfl | exact Or.inr rfl | exact bI_01 | exact c_cat | exact vt_ref | exact vt_null | rfl | with_reducible repeat (first | assumption | omega | apply S_I | apply S_L | apply S_D | apply ob_I | apply ob_L | apply ob_D | apply ob_R | apply ax_I | apply ax_L | apply ax_D | apply ax_R | apply o303 | apply o307 | apply o302 | apply o301 | apply ax304 | apply ax305 | apply ax306 | apply ax308 | apply ax309 | apply ax310 | apply lt_S | apply ar305 | apply ar308 | apply ar309)) only [g121_7, g121_8, g121_11, g121_12, g121_15, g121_16, g121_17, g121_20, g121_23, g121_24, g121_25, g121_26, g121_27, nI_ltI, nI_leI, nI_eq, nI_add, nI_sub, nI_lt0, nI_e0, nI_m1, m1_nI, Nat.reduceEqDiff, Nat.reduceLT, Nat.reduceLeDiff, Nat.reduceAdd, Nat.reduceSub, Nat.reduceMul, ↓reduceIte, eq_self, Nat.le_refl]
  | succ r ih =>
    intro i hr hi Q
    have nn : am_nn (Jvm.FP.dmul (tp i) 4621819117588971520) := tp_nn (n := i + 1) (by omega)
    rw [← ih (i + 1) (by omega) (by omega) Q, g121_5]
    simp (disch := first | with_reducible assumption | omega | exact Or.inl rfl | exact Or.inr rfl | exact bI_01 | exact c_cat | exact vt_ref | exact vt_null | rfl | with_reducible repeat (first | assumption | omega | apply S_I | apply S_L | apply S_D | apply ob_I | apply ob_L | apply ob_D | apply ob_R | apply ax_I | apply ax_L | apply ax_D | apply ax_R | apply o303 | apply o307 | apply o302 | apply o301 | apply ax304 | apply ax305 | apply ax306 | apply ax308 | apply ax309 | apply ax310 | apply lt_S | apply ar305 | apply ar308 | apply ar309)) only [g121_7, g121_8, g121_11, g121_12, g121_15, g121_16, g121_17, g121_20, nI_ltI, nI_leI, nI_eq, nI_add, nI_sub, nI_lt0, nI_e0, nI_m1, m1_nI, Nat.reduceEqDiff, Nat.reduceLT, Nat.reduceLeDiff, Nat.reduceAdd, Nat.reduceSub, Nat.reduceMul, ↓reduceIte, eq_self, show ¬ e ≤ i by omega, tp]
theorem x_shifted {e : Nat} (he : e < 16) : am_run d 121 [some (.long v), none, some (.int (nI e)), none, none, none] h (some (.double (Jvm.FP.ddiv (Jvm.FP.l2d v) (tp e)))) h := by
  intro Q
  rw [← x_shiftLoop (d := d) (h := h) (v := v) he e 0 (Nat.sub_zero _) (Nat.zero_le _) Q]
  simp (disch := first | with_reducible assumption | omega | exact Or.inl rfl | exact Or.inr rfl | exact bI_01 | exact c_cat | exact vt_ref | exact vt_null | rfl | with_reducible repeat (first | assumption | omega | apply S_I | apply S_L | apply S_D | apply ob_I | apply ob_L | apply ob_D | apply ob_R | apply ax_I | apply ax_L | apply ax_D | apply ax_R | apply o303 | apply o307 | apply o302 | apply o301 | apply ax304 | apply ax305 | apply ax306 | apply ax308 | apply ax309 | apply ax310 | apply lt_S | apply ar305 | apply ar308 | apply ar309)) only [g121_0, g121_1, g121_2, g121_3, tp]
theorem m_powLoop {e : Nat} (he : e < 16) : ∀ r i, e - i = r → i ≤ e → ∀ Q, am_J d 189 4 [some (.int (nI e)), some (.double (tp i)), none, some (.int (nI i))] [] h Q ↔ Q (some (.double (tp e))) h := by
  intro r
  induction r with
  | zero =>
    intro i hr hi Q
    obtain rfl : i = e := by omega
    rw [g189_4]
    simp (disch := first | with_reducible assumption | omega | exact Or.inl rfl | exact Or.inr rfl | exact bI_01 | exact c_cat | exact vt_ref | exact vt_null | rfl | with_reducible repeat (first | assumption | omega | apply S_I | apply S_L | apply S_D | apply ob_I | apply ob_L | apply ob_D | apply ob_R | apply ax_I | apply ax_L | apply ax_D | apply ax_R | apply o303 | apply o307 | apply o302 | apply o301 | apply ax304 | apply ax305 | apply ax306 | apply ax308 | apply ax309 | apply ax310 | apply lt_S | apply ar305 | apply ar308 | apply ar309)) only [g189_5, g189_6, g189_9, g189_10, g189_13, g189_14, g189_15, g189_18, g189_21, g189_22, nI_ltI, nI_leI, nI_eq, nI_add, nI_sub, nI_lt0, nI_e0, nI_m1, m1_nI, Nat.reduceEqDiff, Nat.reduceLT, Nat.reduceLeDiff, Nat.reduceAdd, Nat.reduceSub, Nat.reduceMul, ↓reduceIte, eq_self, Nat.le_refl]
  | succ r ih =>
    intro i hr hi Q
    have nn : am_nn (Jvm.FP.dmul (tp i) 4621819117588971520) := tp_nn (n := i + 1) (by omega)
    rw [← ih (i + 1) (by omega) (by omega) Q, g189_4]
    simp (disch := first | with_reducible assumption | omega | exact Or.inl rfl | exact Or.inr rfl | exact bI_01 | exact c_cat | exact vt_ref | exact vt_null | rfl | with_reducible repeat (first | assumption | omega | apply S_I | apply S_L | apply S_D | apply ob_I | apply ob_L | apply ob_D | apply ob_R | apply ax_I | apply ax_L | apply ax_D | apply ax_R | apply o303 | apply o307 | apply o302 | apply o301 | apply ax304 | apply ax305 | apply ax306 | apply ax308 | apply ax309 | apply ax310 | apply lt_S | apply ar305 | apply ar308 | apply ar309)) only [g189_5, g189_6, g189_9, g189_10, g189_13, g189_14, g189_15, g189_18, nI_ltI, nI_leI, nI_eq, nI_add, nI_sub, nI_lt0, nI_e0, nI_m1, m1_nI, Nat.reduceEqDiff, Nat.reduceLT, Nat.reduceLeDiff, Nat.reduceAdd, Nat.reduceSub, Nat.reduceMul, ↓reduceIte, eq_self, show ¬ e ≤ i by omega, tp]
theorem m_power {e : Nat} (he : e < 16) : am_run d 189 [some (.int (nI e)), none, none, none] h (some (.double (tp e))) h := by
  intro Q
  rw [← m_powLoop (d := d) (h := h) he e 0 (Nat.sub_zero _) (Nat.zero_le _) Q]
  simp (disch := first | with_reducible assumption | omega | exact Or.inl rfl | exact Or.inr rfl | exact bI_01 | exact c_cat | exact vt_ref | exact vt_null | rfl | with_reducible repeat (first | assumption | omega | apply S_I | apply S_L | apply S_D | apply ob_I | apply ob_L | apply ob_D | apply ob_R | apply ax_I | apply ax_L | apply ax_D | apply ax_R | apply o303 | apply o307 | apply o302 | apply o301 | apply ax304 | apply ax305 | apply ax306 | apply ax308 | apply ax309 | apply ax310 | apply lt_S | apply ar305 | apply ar308 | apply ar309)) only [g189_0, g189_1, g189_2, g189_3, tp]
theorem x_setDouble {b : Nat} {z : UInt64} (O : am_ob h b 0) (h4 : 4 ≤ b) (hz : okD z) : am_run (d + 2) 2 [some (.ref b), some (.double z), none] h none (am_setL (am_setD (am_setI h b 0 (nI 2)) b 2 z) b 1 z.toInt64) := by
  intro Q
  have bt := x_bitsOf (d := d) (h := am_setD (am_setI h b 0 (nI 2)) b 2 z) hz
  simp (disch := first | with_reducible assumption | omega | exact Or.inl rfl | exact Or.inr rfl | exact bI_01 | exact c_cat | exact vt_ref | exact vt_null | rfl | with_reducible repeat (first | assumption | omega | apply S_I | apply S_L | apply S_D | apply ob_I | apply ob_L | apply ob_D | apply ob_R | apply ax_I | apply ax_L | apply ax_D | apply ax_R | apply o303 | apply o307 | apply o302 | apply o301 | apply ax304 | apply ax305 | apply ax306 | apply ax308 | apply ax309 | apply ax310 | apply lt_S | apply ar305 | apply ar308 | apply ar309)) only [g2_0, g2_1, g2_2, g2_5, g2_6, g2_7, g2_10, g2_11, g2_12, g2_15, g2_18, Option.toList, List.nil_append, List.cons_append, va_rf, bt _]
theorem o_number (I : Inv q h) : ∃ r h1 h2, am_run (d + 3) 144 [some (.ref 4), some (.int x), some (.long v), none, some (.int y)] h (some (.int r)) h1 ∧ am_run (d + 1) 188 [some (.ref 349), some (.int x), some (.long v), none, some (.int y)] h1 (some (.int r)) h2 ∧ Inv q h2 := by
  have S := I.1
  have G := I.2.1
  by_cases hx : isCl x
  · obtain ⟨c, hc, rfl⟩ := hx
    rcases i_cases y with hy | ⟨e, he, rfl⟩
    · refine ⟨-2, h, h, fun Q => ?_, fun Q => ?_, I⟩
      · simp (disch := first | with_reducible assumption | omega | exact Or.inl rfl | exact Or.inr rfl | exact bI_01 | exact c_cat | exact vt_ref | exact vt_null | rfl | with_reducible repeat (first | assumption | omega | apply S_I | apply S_L | apply S_D | apply ob_I | apply ob_L | apply ob_D | apply ob_R | apply ax_I | apply ax_L | apply ax_D | apply ax_R | apply o303 | apply o307 | apply o302 | apply o301 | apply ax304 | apply ax305 | apply ax306 | apply ax308 | apply ax309 | apply ax310 | apply lt_S | apply ar305 | apply ar308 | apply ar309)) only [g144_0, g144_1, g144_4, g144_7, g144_8, g144_9, g144_11, g144_14, g144_16, g144_18, g144_21, g144_23, g144_24, g144_25, g144_26, g144_29, g144_30, g144_32, g144_35, g144_38, g144_39, Option.toList, List.nil_append, List.cons_append, va_rf, x_noCellN hc, nI_ltI, nI_leI, nI_eq, nI_add, nI_sub, nI_lt0, nI_e0, nI_m1, m1_nI, Nat.reduceEqDiff, Nat.reduceLT, Nat.reduceLeDiff, Nat.reduceAdd, Nat.reduceSub, Nat.reduceMul, ↓reduceIte, eq_self, hy]
      · simp (disch := first | with_reducible assumption | omega | exact Or.inl rfl | exact Or.inr rfl | exact bI_01 | exact c_cat | exact vt_ref | exact vt_null | rfl | with_reducible repeat (first | assumption | omega | apply S_I | apply S_L | apply S_D | apply ob_I | apply ob_L | apply ob_D | apply ob_R | apply ax_I | apply ax_L | apply ax_D | apply ax_R | apply o303 | apply o307 | apply o302 | apply o301 | apply ax304 | apply ax305 | apply ax306 | apply ax308 | apply ax309 | apply ax310 | apply lt_S | apply ar305 | apply ar308 | apply ar309)) only [g188_0, g188_1, g188_4, g188_7, g188_8, g188_9, g188_11, g188_14, g188_16, g188_18, g188_21, g188_23, g188_24, g188_25, g188_26, g188_29, g188_30, g188_33, g188_34, g188_35, g188_36, g188_37, g188_40, g188_41, g188_42, g188_43, g188_45, g188_48, g188_49, g188_50, g188_51, Option.toList, List.nil_append, List.cons_append, va_rf, m_isCell1 hc, nI_ltI, nI_leI, nI_eq, nI_add, nI_sub, nI_lt0, nI_e0, nI_m1, m1_nI, Nat.reduceEqDiff, Nat.reduceLT, Nat.reduceLeDiff, Nat.reduceAdd, Nat.reduceSub, Nat.reduceMul, ↓reduceIte, eq_self, hy]
    · by_cases e16 : e < 16
      · obtain ⟨hs, -⟩ := slot_of I hc
        obtain ⟨g, r1, X⟩ := x_tell (d := d + 2) S G hc
        have Sg := X.2.1
        have Og := o22 Sg hc
        have zok := sh_ok v e16
        have nn := okD_nn zok
        have rs := x_shifted (d := d + 2) (h := g) (v := v) e16
        have rp := fun g => m_power (d := d) (h := g) e16
        obtain ⟨z, hz⟩ : ∃ z, Jvm.FP.ddiv (Jvm.FP.l2d v) (tp e) = z := ⟨_, rfl⟩
        rw [hz] at zok rs
        have rd := x_setDouble (d := d) (h := g) (b := 22 + c) Og (by omega) zok
        have F1 : am_fr (fun a => a = 22 + c) g (am_setL (am_setD (am_setI g (22 + c) 0 (nI 2)) (22 + c) 2 z) (22 + c) 1 z.toInt64) := fr_L (fr_D (fr_I fr_refl rfl) rfl) rfl
        have e369 : am_I (am_setL (am_setD (am_setI g (22 + c) 0 (nI 2)) (22 + c) 2 z) (22 + c) 1 z.toInt64) 369 c = am_I h 369 c := (fr_rdI F1 (by omega)).trans (X.1.2.2 369 c (am_S_lt S (by decide)) (by omega)).1
        have Sg1 := fr_S F1 Sg
        obtain ⟨g', r2, Y⟩ := m_noF (d := d) Sg1 hc (by rw [e369]; exact hs)
        have Sg2 := fr_S Y.2.1 Sg1
        have F3 : am_fr (fun a => a = 365 ∨ a = 370 ∨ a = 371) g' (am_setD (am_setI g' 365 c (nI 2)) 371 c z) := fr_D (fr_I fr_refl (by omega)) (by omega)
        have eD : am_D (am_setD (am_setI g' 365 c (nI 2)) 371 c z) 371 c = z := rD_eq
        refine ⟨nI 1, am_setL (am_setD (am_setI g (22 + c) 0 (nI 2)) (22 + c) 2 z) (22 + c) 1 z.toInt64, am_setD (am_setI g' 365 c (nI 2)) 371 c z, fun Q => ?_, fun Q => ?_, Inv_tell I hc X F1 (fun j hj => by rw [hI_L, hI_D, rI_k hj]) Y F3 (fun a k hk => ⟨?_, rfl, ?_⟩) ⟨2, by decide, ?_, by rw [hI_D, rI_eq], fun q => absurd q (by decide), fun _ => ?_, fun q => absurd q (by decide)⟩⟩
        · simp (disch := first | with_reducible assumption | omega | exact Or.inl rfl | exact Or.inr rfl | exact bI_01 | exact c_cat | exact vt_ref | exact vt_null | rfl | with_reducible repeat (first | assumption | omega | apply S_I | apply S_L | apply S_D | apply ob_I | apply ob_L | apply ob_D | apply ob_R | apply ax_I | apply ax_L | apply ax_D | apply ax_R | apply o303 | apply o307 | apply o302 | apply o301 | apply ax304 | apply ax305 | apply ax306 | apply ax308 | apply ax309 | apply ax310 | apply lt_S | apply ar305 | apply ar308 | apply ar309)) only [g144_0, g144_1, g144_4, g144_7, g144_8, g144_9, g144_11, g144_14, g144_16, g144_18, g144_21, g144_23, g144_24, g144_25, g144_26, g144_29, g144_30, g144_32, g144_35, g144_38, g144_39, Option.toList, List.nil_append, List.cons_append, va_rf, x_noCellN hc, nI_ltI, nI_leI, nI_eq, nI_add, nI_sub, nI_lt0, nI_e0, nI_m1, m1_nI, Nat.reduceEqDiff, Nat.reduceLT, Nat.reduceLeDiff, Nat.reduceAdd, Nat.reduceSub, Nat.reduceMul, ↓reduceIte, eq_self, show e ≤ 15 by omega, show ¬ 15 < e by omega, r1 _, rs _, rd _]
        · simp (disch := first | with_reducible assumption | omega | exact Or.inl rfl | exact Or.inr rfl | exact bI_01 | exact c_cat | exact vt_ref | exact vt_null | rfl | with_reducible repeat (first | assumption | omega | apply S_I | apply S_L | apply S_D | apply ob_I | apply ob_L | apply ob_D | apply ob_R | apply ax_I | apply ax_L | apply ax_D | apply ax_R | apply o303 | apply o307 | apply o302 | apply o301 | apply ax304 | apply ax305 | apply ax306 | apply ax308 | apply ax309 | apply ax310 | apply lt_S | apply ar305 | apply ar308 | apply ar309)) only [g188_0, g188_1, g188_4, g188_7, g188_8, g188_9, g188_11, g188_14, g188_16, g188_18, g188_21, g188_23, g188_24, g188_25, g188_26, g188_29, g188_30, g188_33, g188_34, g188_35, g188_36, g188_37, g188_40, g188_41, g188_42, g188_43, g188_45, g188_48, g188_49, g188_50, g188_51, Option.toList, List.nil_append, List.cons_append, va_rf, m_isCell1 hc, nI_ltI, nI_leI, nI_eq, nI_add, nI_sub, nI_lt0, nI_e0, nI_m1, m1_nI, Nat.reduceEqDiff, Nat.reduceLT, Nat.reduceLeDiff, Nat.reduceAdd, Nat.reduceSub, Nat.reduceMul, ↓reduceIte, eq_self, show e ≤ 15 by omega, show ¬ 15 < e by omega, r2 _, rp _ _, hz]
        · rw [hI_D, hI_I]
          by_cases e : a = 365
          · rw [if_pos e, if_neg hk]
          · rw [if_neg e]
        · rw [hD_D]
          by_cases e : a = 371
          · rw [if_pos e, if_neg hk]; rfl
          · rw [if_neg e]; rfl
        · rw [fr_rdI F3 (by omega), fr_rdI Y.2.1 (by omega), hI_L, hI_D, rI_eq]
        · rw [eD]
          refine ⟨?_, ?_, zok⟩
          · rw [fr_rdD F3 (by omega), fr_rdD Y.2.1 (by omega), hD_L, rD_eq]
          · rw [fr_rdL F3 (by omega), fr_rdL Y.2.1 (by omega), rL_eq]
      · refine ⟨-2, h, h, fun Q => ?_, fun Q => ?_, I⟩
        · simp (disch := first | with_reducible assumption | omega | exact Or.inl rfl | exact Or.inr rfl | exact bI_01 | exact c_cat | exact vt_ref | exact vt_null | rfl | with_reducible repeat (first | assumption | omega | apply S_I | apply S_L | apply S_D | apply ob_I | apply ob_L | apply ob_D | apply ob_R | apply ax_I | apply ax_L | apply ax_D | apply ax_R | apply o303 | apply o307 | apply o302 | apply o301 | apply ax304 | apply ax305 | apply ax306 | apply ax308 | apply ax309 | apply ax310 | apply lt_S | apply ar305 | apply ar308 | apply ar309)) only [g144_0, g144_1, g144_4, g144_7, g144_8, g144_9, g144_11, g144_14, g144_16, g144_18, g144_21, g144_23, g144_24, g144_25, g144_26, g144_29, g144_30, g144_32, g144_35, g144_38, g144_39, Option.toList, List.nil_append, List.cons_append, va_rf, x_noCellN hc, nI_ltI, nI_leI, nI_eq, nI_add, nI_sub, nI_lt0, nI_e0, nI_m1, m1_nI, Nat.reduceEqDiff, Nat.reduceLT, Nat.reduceLeDiff, Nat.reduceAdd, Nat.reduceSub, Nat.reduceMul, ↓reduceIte, eq_self, show ¬ e ≤ 15 by omega, show 15 < e by omega]
        · simp (disch := first | with_reducible assumption | omega | exact Or.inl rfl | exact Or.inr rfl | exact bI_01 | exact c_cat | exact vt_ref | exact vt_null | rfl | with_reducible repeat (first | assumption | omega | apply S_I | apply S_L | apply S_D | apply ob_I | apply ob_L | apply ob_D | apply ob_R | apply ax_I | apply ax_L | apply ax_D | apply ax_R | apply o303 | apply o307 | apply o302 | apply o301 | apply ax304 | apply ax305 | apply ax306 | apply ax308 | apply ax309 | apply ax310 | apply lt_S | apply ar305 | apply ar308 | apply ar309)) only [g188_0, g188_1, g188_4, g188_7, g188_8, g188_9, g188_11, g188_14, g188_16, g188_18, g188_21, g188_23, g188_24, g188_25, g188_26, g188_29, g188_30, g188_33, g188_34, g188_35, g188_36, g188_37, g188_40, g188_41, g188_42, g188_43, g188_45, g188_48, g188_49, g188_50, g188_51, Option.toList, List.nil_append, List.cons_append, va_rf, m_isCell1 hc, nI_ltI, nI_leI, nI_eq, nI_add, nI_sub, nI_lt0, nI_e0, nI_m1, m1_nI, Nat.reduceEqDiff, Nat.reduceLT, Nat.reduceLeDiff, Nat.reduceAdd, Nat.reduceSub, Nat.reduceMul, ↓reduceIte, eq_self, show ¬ e ≤ 15 by omega, show 15 < e by omega]
  · refine ⟨-1, h, h, fun Q => ?_, fun Q => ?_, I⟩
    · simp (disch := first | with_reducible assumption | omega | exact Or.inl rfl | exact Or.inr rfl | exact bI_01 | exact c_cat | exact vt_ref | exact vt_null | rfl | with_reducible repeat (first | assumption | omega | apply S_I | apply S_L | apply S_D | apply ob_I | apply ob_L | apply ob_D | apply ob_R | apply ax_I | apply ax_L | apply ax_D | apply ax_R | apply o303 | apply o307 | apply o302 | apply o301 | apply ax304 | apply ax305 | apply ax306 | apply ax308 | apply ax309 | apply ax310 | apply lt_S | apply ar305 | apply ar308 | apply ar309)) only [g144_0, g144_1, g144_4, g144_7, g144_8, g144_9, g144_11, g144_14, g144_16, g144_18, g144_21, g144_23, g144_24, g144_25, g144_26, g144_29, g144_30, g144_32, g144_35, g144_38, g144_39, Option.toList, List.nil_append, List.cons_append, va_rf, x_noCell1 hx, nI_ltI, nI_leI, nI_eq, nI_add, nI_sub, nI_lt0, nI_e0, nI_m1, m1_nI, Nat.reduceEqDiff, Nat.reduceLT, Nat.reduceLeDiff, Nat.reduceAdd, Nat.reduceSub, Nat.reduceMul, ↓reduceIte, eq_self]
    · simp (disch := first | with_reducible assumption | omega | exact Or.inl rfl | exact Or.inr rfl | exact bI_01 | exact c_cat | exact vt_ref | exact vt_null | rfl | with_reducible repeat (first | assumption | omega | apply S_I | apply S_L | apply S_D | apply ob_I | apply ob_L | apply ob_D | apply ob_R | apply ax_I | apply ax_L | apply ax_D | apply ax_R | apply o303 | apply o307 | apply o302 | apply o301 | apply ax304 | apply ax305 | apply ax306 | apply ax308 | apply ax309 | apply ax310 | apply lt_S | apply ar305 | apply ar308 | apply ar309)) only [g188_0, g188_1, g188_4, g188_7, g188_8, g188_9, g188_11, g188_14, g188_16, g188_18, g188_21, g188_23, g188_24, g188_25, g188_26, g188_29, g188_30, g188_33, g188_34, g188_35, g188_36, g188_37, g188_40, g188_41, g188_42, g188_43, g188_45, g188_48, g188_49, g188_50, g188_51, Option.toList, List.nil_append, List.cons_append, va_rf, m_isCell0 hx, nI_ltI, nI_leI, nI_eq, nI_add, nI_sub, nI_lt0, nI_e0, nI_m1, m1_nI, Nat.reduceEqDiff, Nat.reduceLT, Nat.reduceLeDiff, Nat.reduceAdd, Nat.reduceSub, Nat.reduceMul, ↓reduceIte, eq_self]
end NUM

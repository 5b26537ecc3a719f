/-! THE CLASS: the head of a function -/
section FA1
variable {d : Nat} {h g : am_H} {Q : Option Value → am_H → Prop} {v3 : Option Value} {t : Nat → Nat} {n nf : Nat} {x : Int64} {fnX ag : Nat → Int64} {fnA : Nat → Nat} {md : Nat ⊕ (Nat × Nat)} {C : List (Int32 × Int64)} {P : List Int32} {N : List Nat} {F k o ln lp : Int32}
theorem PX_frA (Fr : am_fr (fun a => a = 301 ∨ a = 310) h g) (X : PX h t n md C P N F k o ln lp) (h10 : am_I g 301 10 = o) (h11 : am_I g 301 11 = ln) (h12 : am_I g 301 12 = lp) : PX g t n md C P N F k o ln lp := by
  obtain ⟨S, T, L, ⟨c1, c2, c3⟩, ⟨p1, p2, p3⟩, ⟨n1, n2, n3, n4, n5⟩, e1, e2, e3, e4, e5⟩ := X
  refine ⟨fr_S Fr S, xT_fr Fr (by decide) (by decide) T, ?_, ⟨?_, c2, fun i x hx => ?_⟩, ⟨?_, p2, fun i x hx => ?_⟩, ⟨?_, fun i c hc => ?_, n3, n4, fun c hc => ?_⟩, ?_, ?_, h10, h11, h12⟩
  · match md, L with
    | .inl q, L =>
      simp only [lxS, LX, fr_rdI Fr (show ¬ (302 = 301 ∨ 302 = 310) by decide), fr_rdL Fr (show ¬ (302 = 301 ∨ 302 = 310) by decide)] at L ⊢
      exact L
    | .inr y, L =>
      simp only [lxS, LB, fr_rdI Fr (show ¬ (302 = 301 ∨ 302 = 310) by decide), fr_rdL Fr (show ¬ (302 = 301 ∨ 302 = 310) by decide)] at L ⊢
      exact L
  all_goals simp only [fr_rdI Fr (show ¬ (303 = 301 ∨ 303 = 310) by decide), fr_rdI Fr (show ¬ (305 = 301 ∨ 305 = 310) by decide), fr_rdL Fr (show ¬ (306 = 301 ∨ 306 = 310) by decide), fr_rdI Fr (show ¬ (307 = 301 ∨ 307 = 310) by decide), fr_rdI Fr (show ¬ (308 = 301 ∨ 308 = 310) by decide), fr_rdI Fr (show ¬ (309 = 301 ∨ 309 = 310) by decide), fr_rdL Fr (show ¬ (304 = 301 ∨ 304 = 310) by decide)]
  · exact c1
  · exact c3 i x hx
  · exact p1
  · exact p3 i x hx
  · exact n1
  · exact n2 i c hc
  · exact n5 c hc
  · exact e1
  · exact e2
/-- what the head of a function leaves -/
def XA (h h' : am_H) : Prop := am_fr rX h h' ∧ (∀ k, k ≤ 8 → k ≠ 4 → am_I h' 301 k = am_I h 301 k) ∧ ∀ k, am_L h' 301 k = am_L h 301 k
theorem XA_of (G : XF h g) : XA h g := ⟨G.1, fun k h1 h2 => G.2.1 k (by omega), G.2.2.1⟩
theorem XA_trans {g' : am_H} (G1 : XA h g) (G2 : XA g g') : XA h g' := ⟨fr_trans G1.1 G2.1, fun k h1 h2 => (G2.2.1 k h1 h2).trans (G1.2.1 k h1 h2), fun k => (G2.2.2 k).trans (G1.2.2 k)⟩
theorem x_findArg0 (S : am_S h) {na : Nat} (a3 : na ≤ 3) (c3 : am_I h 301 4 = nI na) (c4 : ∀ i, i < na → am_L h 310 i = ag i) : am_J d 92 0 [some (.ref 301), some (.long x), none, v3] [] h Q ↔ Q (some (.int (xI na (fdI ag x na)))) h := by
  have L : ∀ r i, na - i = r → i ≤ na → (am_J d 92 2 [some (.ref 301), some (.long x), none, some (.int (nI i))] [] h Q ↔ Q (some (.int (xI na (am_scan (fun i => !decide (ag i = x)) na i)))) h) := by
    intro r
    induction r with
    | zero =>
      intro i hr hi
      obtain rfl : i = na := by omega
      rw [scan_stop (fun q => absurd q.1 (Nat.lt_irrefl _)), g92_2]
      simp (disch := first | with_reducible assumption | omega | exact Or.inl rfl | exact Or.inr rfl | exact bI_01 | exact c_cat | exact vt_ref | exact vt_null | rfl | with_reducible repeat (first | assumption | omega | apply S_I | apply S_L | apply S_D | apply ob_I | apply ob_L | apply ob_D | apply ob_R | apply ax_I | apply ax_L | apply ax_D | apply ax_R | apply o303 | apply o307 | apply o302 | apply o301 | apply ax304 | apply ax305 | apply ax306 | apply ax308 | apply ax309 | apply ax310 | apply lt_S | apply ar305 | apply ar308 | apply ar309)) only [g92_3, g92_4, g92_7, g92_10, g92_11, g92_12, g92_15, g92_16, g92_19, g92_20, g92_21, g92_22, g92_23, g92_26, g92_27, g92_28, g92_31, g92_34, g92_35, c3, nI_ltI, nI_leI, nI_eq, nI_add, nI_sub, nI_lt0, nI_e0, nI_m1, m1_nI, Nat.reduceEqDiff, Nat.reduceLT, Nat.reduceLeDiff, Nat.reduceAdd, Nat.reduceSub, Nat.reduceMul, ↓reduceIte, eq_self, Nat.le_refl, xI, Nat.lt_irrefl]
    | succ r ih =>
      intro i hr hi
      have e := c4 i (by omega)
      rw [g92_2]
      by_cases c : ag i = x
      · rw [scan_stop (fun q => by simp [c] at q)]
        simp (disch := first | with_reducible assumption | omega | exact Or.inl rfl | exact Or.inr rfl | exact bI_01 | exact c_cat | exact vt_ref | exact vt_null | rfl | with_reducible repeat (first | assumption | omega | apply S_I | apply S_L | apply S_D | apply ob_I | apply ob_L | apply ob_D | apply ob_R | apply ax_I | apply ax_L | apply ax_D | apply ax_R | apply o303 | apply o307 | apply o302 | apply o301 | apply ax304 | apply ax305 | apply ax306 | apply ax308 | apply ax309 | apply ax310 | apply lt_S | apply ar305 | apply ar308 | apply ar309)) only [g92_3, g92_4, g92_7, g92_10, g92_11, g92_12, g92_15, g92_16, g92_19, g92_20, g92_21, g92_22, g92_23, g92_26, g92_27, g92_28, g92_31, g92_34, g92_35, c3, nI_ltI, nI_leI, nI_eq, nI_add, nI_sub, nI_lt0, nI_e0, nI_m1, m1_nI, Nat.reduceEqDiff, Nat.reduceLT, Nat.reduceLeDiff, Nat.reduceAdd, Nat.reduceSub, Nat.reduceMul, ↓reduceIte, eq_self, show ¬ na ≤ i by omega, show ¬ 3 ≤ i by omega, e, c, lg_cmp0, xI, show i < na by omega]
      · rw [scan_step (by omega) (by simp [c]), ← ih (i + 1) (by omega) (by omega)]
        simp (disch := first | with_reducible assumption | omega | exact Or.inl rfl | exact Or.inr rfl | exact bI_01 | exact c_cat | exact vt_ref | exact vt_null | rfl | with_reducible repeat (first | assumption | omega | apply S_I | apply S_L | apply S_D | apply ob_I | apply ob_L | apply ob_D | apply ob_R | apply ax_I | apply ax_L | apply ax_D | apply ax_R | apply o303 | apply o307 | apply o302 | apply o301 | apply ax304 | apply ax305 | apply ax306 | apply ax308 | apply ax309 | apply ax310 | apply lt_S | apply ar305 | apply ar308 | apply ar309)) only [g92_3, g92_4, g92_7, g92_10, g92_11, g92_12, g92_15, g92_16, g92_19, g92_20, g92_21, g92_22, g92_23, g92_26, g92_27, g92_28, g92_31, g92_34, g92_35, c3, nI_ltI, nI_leI, nI_eq, nI_add, nI_sub, nI_lt0, nI_e0, nI_m1, m1_nI, Nat.reduceEqDiff, Nat.reduceLT, Nat.reduceLeDiff, Nat.reduceAdd, Nat.reduceSub, Nat.reduceMul, ↓reduceIte, eq_self, show ¬ na ≤ i by omega, show ¬ 3 ≤ i by omega, e, c, lg_cmp0]
  rw [g92_0, g92_1, L na 0 (by omega) (by omega)]
  rfl
/-- readArgument -/
theorem x_arg (X : PX h t n md C P N F k o ln lp) (G : am_Gv h) {a : Nat} (ha : a < 3) (e4 : am_I h 301 4 = nI a) (hag : ∀ i, i < a → am_L h 310 i = ag i) : ∃ h' md' x, am_run (d + 4) 109 [some (.ref 301), none, none, none] h none h' ∧ mdN t n md md' x ∧ PX h' t n md' C P N F k o (if fdI ag x a < a then (xlat ln lp (nI 5) (am_I h 302 3)).1 else ln) (if fdI ag x a < a then (xlat ln lp (nI 5) (am_I h 302 3)).2 else lp) ∧ XA h h' ∧ am_I h' 301 4 = nI (a + 1) ∧ (∀ i, i < a → am_L h' 310 i = ag i) ∧ am_L h' 310 a = x := by
  have S := X.1
  obtain ⟨h1, md', x, r1, X1, F1, hN⟩ := x_plain (d := d) X G
  have S1 := X1.1
  have e41 : am_I h1 301 4 = nI a := by rw [F1.2.1 4 (by decide)]; exact e4
  have c41 : ∀ i, i < a → am_L h1 310 i = ag i := fun i hi => by rw [F1.2.2.2 i]; exact hag i hi
  have fa := fun Q => x_findArg0 (d := d + 3) (Q := Q) (x := x) (v3 := none) S1 (by omega) e41 c41
  obtain ⟨p, ep⟩ : ∃ p, p = am_I h 302 3 := ⟨_, rfl⟩
  rw [← ep]
  have hle : fdI ag x a ≤ a := fdI_le
  have fin1 : ∀ h2 ln' lp', XF h1 h2 → PX h2 t n md' C P N F k o ln' lp' → PX (am_setI (am_setL h2 310 a x) 301 4 (nI (a + 1))) t n md' C P N F k o ln' lp' ∧ XA h (am_setI (am_setL h2 310 a x) 301 4 (nI (a + 1))) ∧ am_I (am_setI (am_setL h2 310 a x) 301 4 (nI (a + 1))) 301 4 = nI (a + 1) ∧ (∀ i, i < a → am_L (am_setI (am_setL h2 310 a x) 301 4 (nI (a + 1))) 310 i = ag i) ∧ am_L (am_setI (am_setL h2 310 a x) 301 4 (nI (a + 1))) 310 a = x := by
    intro h2 ln' lp' F2 X2
    refine ⟨PX_frA (fr_I (fr_L fr_refl (Or.inr rfl)) (Or.inl rfl)) X2 ?_ ?_ ?_, XA_trans (XA_of (XF_trans F1 F2)) ⟨fr_I (fr_L fr_refl (by unfold rX; omega)) (by unfold rX; omega), fun k h1 h2 => by rw [rI_k h2, hI_L], fun k => by rw [hL_I, rL_a (by decide)]⟩, rI_eq, fun i hi => ?_, ?_⟩
    · rw [rI_k (by decide), hI_L]; exact X2.2.2.2.2.2.2.2.2.1
    · rw [rI_k (by decide), hI_L]; exact X2.2.2.2.2.2.2.2.2.2.1
    · rw [rI_k (by decide), hI_L]; exact X2.2.2.2.2.2.2.2.2.2.2
    · rw [hL_I, rL_k (by omega), F2.2.2.2 i]; exact c41 i hi
    · rw [hL_I, rL_eq]
  by_cases c : fdI ag x a < a
  · rw [show xI a (fdI ag x a) = nI (fdI ag x a) from if_pos c] at fa
    obtain ⟨h2, r2, X2, F2⟩ := x_later (d := d + 3) X1 (f := nI 5) (p := p)
    have S2 := X2.1
    have e42 : am_I h2 301 4 = nI a := by rw [F2.2.1 4 (by decide)]; exact e41
    obtain ⟨y1, y2, y3, y4, y5⟩ := fin1 h2 _ _ F2 X2
    refine ⟨_, md', x, fun Q => ?_, hN, ?_, y2, y3, y4, y5⟩
    · simp (disch := first | with_reducible assumption | omega | exact Or.inl rfl | exact Or.inr rfl | exact bI_01 | exact c_cat | exact vt_ref | exact vt_null | rfl | with_reducible repeat (first | assumption | omega | apply S_I | apply S_L | apply S_D | apply ob_I | apply ob_L | apply ob_D | apply ob_R | apply ax_I | apply ax_L | apply ax_D | apply ax_R | apply o303 | apply o307 | apply o302 | apply o301 | apply ax304 | apply ax305 | apply ax306 | apply ax308 | apply ax309 | apply ax310 | apply lt_S | apply ar305 | apply ar308 | apply ar309)) only [g109_0, g109_1, g109_4, g109_7, g109_8, g109_9, g109_12, g109_13, g109_14, g109_15, g109_18, g109_19, g109_22, g109_23, g109_24, g109_25, g109_28, g109_29, g109_32, g109_33, g109_36, g109_37, g109_40, g109_41, g109_44, g109_45, g109_46, g109_47, g109_48, g109_51, g109_52, g109_53, g109_56, Option.toList, List.nil_append, List.cons_append, va_rf, nI_ltI, nI_leI, nI_eq, nI_add, nI_sub, nI_lt0, nI_e0, nI_m1, m1_nI, Nat.reduceEqDiff, Nat.reduceLT, Nat.reduceLeDiff, Nat.reduceAdd, Nat.reduceSub, Nat.reduceMul, ↓reduceIte, eq_self, ← ep, r1 _, fa _, r2 _, e42, hI_I, hI_L, hI_D, hI_R, hL_I, hL_L, hL_D, hL_R, hD_I, hD_L, hD_D, hD_R, hR_I, hR_L, hR_D, ↓reduceIte, Nat.reduceEqDiff, show ¬ 3 ≤ a by omega]
    · rw [if_pos c, if_pos c]; exact y1
  · rw [show xI a (fdI ag x a) = -1 from if_neg c] at fa
    obtain ⟨y1, y2, y3, y4, y5⟩ := fin1 h1 _ _ XF_refl X1
    refine ⟨_, md', x, fun Q => ?_, hN, ?_, y2, y3, y4, y5⟩
    · simp (disch := first | with_reducible assumption | omega | exact Or.inl rfl | exact Or.inr rfl | exact bI_01 | exact c_cat | exact vt_ref | exact vt_null | rfl | with_reducible repeat (first | assumption | omega | apply S_I | apply S_L | apply S_D | apply ob_I | apply ob_L | apply ob_D | apply ob_R | apply ax_I | apply ax_L | apply ax_D | apply ax_R | apply o303 | apply o307 | apply o302 | apply o301 | apply ax304 | apply ax305 | apply ax306 | apply ax308 | apply ax309 | apply ax310 | apply lt_S | apply ar305 | apply ar308 | apply ar309)) only [g109_0, g109_1, g109_4, g109_7, g109_8, g109_9, g109_12, g109_13, g109_14, g109_15, g109_18, g109_19, g109_22, g109_23, g109_24, g109_25, g109_28, g109_29, g109_32, g109_33, g109_36, g109_37, g109_40, g109_41, g109_44, g109_45, g109_46, g109_47, g109_48, g109_51, g109_52, g109_53, g109_56, Option.toList, List.nil_append, List.cons_append, va_rf, nI_ltI, nI_leI, nI_eq, nI_add, nI_sub, nI_lt0, nI_e0, nI_m1, m1_nI, Nat.reduceEqDiff, Nat.reduceLT, Nat.reduceLeDiff, Nat.reduceAdd, Nat.reduceSub, Nat.reduceMul, ↓reduceIte, eq_self, ← ep, r1 _, fa _, e41, hI_I, hI_L, hI_D, hI_R, hL_I, hL_L, hL_D, hL_R, hD_I, hD_L, hD_D, hD_R, hR_I, hR_L, hR_D, ↓reduceIte, Nat.reduceEqDiff, show ¬ 3 ≤ a by omega]
    · rw [if_neg c, if_neg c]; exact y1
/-- findOwnNumber -/
theorem x_ownLoop (S : am_S h) (hnf : nf ≤ 8) (B : ∀ i, i < 8 → (i < nf → ∃ e, 402 ≤ e ∧ am_R h 11 i = some e ∧ am_ob h e 1 ∧ am_L h e 9 = fnX i ∧ am_I h e 10 = nI (fnA i)) ∧ (nf ≤ i → am_R h 11 i = none)) (e8 : am_L h 301 8 = x) {p : Int32} : ∀ r i, nf - i = r → i ≤ nf → (am_J d 110 2 [some (.ref 301), some (.int p), some (.int (nI i))] [] h Q ↔ am_J d 110 40 [some (.ref 301), some (.int p), some (.int (nI (am_scan (fun i => !decide (fnX i = x)) nf i)))] [] h Q) := by
  intro r
  induction r with
  | zero =>
    intro i hr hi
    obtain rfl : i = nf := by omega
    rw [scan_stop (fun q => absurd q.1 (Nat.lt_irrefl _)), g110_2]
    by_cases c : i = 8
    · subst c
      simp (disch := first | with_reducible assumption | omega | exact Or.inl rfl | exact Or.inr rfl | exact bI_01 | exact c_cat | exact vt_ref | exact vt_null | rfl | with_reducible repeat (first | assumption | omega | apply S_I | apply S_L | apply S_D | apply ob_I | apply ob_L | apply ob_D | apply ob_R | apply ax_I | apply ax_L | apply ax_D | apply ax_R | apply o303 | apply o307 | apply o302 | apply o301 | apply ax304 | apply ax305 | apply ax306 | apply ax308 | apply ax309 | apply ax310 | apply lt_S | apply ar305 | apply ar308 | apply ar309)) only [g110_3, g110_5, g110_8, g110_9, g110_12, g110_13, g110_14, g110_14r, g110_14n, g110_17, g110_18, g110_21, g110_22, g110_23, g110_26, g110_27, g110_30, g110_31, g110_34, g110_37, nI_ltI, nI_leI, nI_eq, nI_add, nI_sub, nI_lt0, nI_e0, nI_m1, m1_nI, Nat.reduceEqDiff, Nat.reduceLT, Nat.reduceLeDiff, Nat.reduceAdd, Nat.reduceSub, Nat.reduceMul, ↓reduceIte, eq_self, Nat.le_refl]
    · have e2 := (B i (by omega)).2 (Nat.le_refl _)
      simp (disch := first | with_reducible assumption | omega | exact Or.inl rfl | exact Or.inr rfl | exact bI_01 | exact c_cat | exact vt_ref | exact vt_null | rfl | with_reducible repeat (first | assumption | omega | apply S_I | apply S_L | apply S_D | apply ob_I | apply ob_L | apply ob_D | apply ob_R | apply ax_I | apply ax_L | apply ax_D | apply ax_R | apply o303 | apply o307 | apply o302 | apply o301 | apply ax304 | apply ax305 | apply ax306 | apply ax308 | apply ax309 | apply ax310 | apply lt_S | apply ar305 | apply ar308 | apply ar309)) only [g110_3, g110_5, g110_8, g110_9, g110_12, g110_13, g110_14, g110_14r, g110_14n, g110_17, g110_18, g110_21, g110_22, g110_23, g110_26, g110_27, g110_30, g110_31, g110_34, g110_37, Option.toList, List.nil_append, List.cons_append, va_rf, nI_ltI, nI_leI, nI_eq, nI_add, nI_sub, nI_lt0, nI_e0, nI_m1, m1_nI, Nat.reduceEqDiff, Nat.reduceLT, Nat.reduceLeDiff, Nat.reduceAdd, Nat.reduceSub, Nat.reduceMul, ↓reduceIte, eq_self, show ¬ 8 ≤ i by omega, e2]
  | succ r ih =>
    intro i hr hi
    obtain ⟨e, e1, e2, e3, e4, e5⟩ := (B i (by omega)).1 (by omega)
    rw [g110_2]
    by_cases c : fnX i = x
    · rw [scan_stop (fun q => by simp [c] at q)]
      simp (disch := first | with_reducible assumption | omega | exact Or.inl rfl | exact Or.inr rfl | exact bI_01 | exact c_cat | exact vt_ref | exact vt_null | rfl | with_reducible repeat (first | assumption | omega | apply S_I | apply S_L | apply S_D | apply ob_I | apply ob_L | apply ob_D | apply ob_R | apply ax_I | apply ax_L | apply ax_D | apply ax_R | apply o303 | apply o307 | apply o302 | apply o301 | apply ax304 | apply ax305 | apply ax306 | apply ax308 | apply ax309 | apply ax310 | apply lt_S | apply ar305 | apply ar308 | apply ar309)) only [g110_3, g110_5, g110_8, g110_9, g110_12, g110_13, g110_14, g110_14r, g110_14n, g110_17, g110_18, g110_21, g110_22, g110_23, g110_26, g110_27, g110_30, g110_31, g110_34, g110_37, Option.toList, List.nil_append, List.cons_append, va_rf, nI_ltI, nI_leI, nI_eq, nI_add, nI_sub, nI_lt0, nI_e0, nI_m1, m1_nI, Nat.reduceEqDiff, Nat.reduceLT, Nat.reduceLeDiff, Nat.reduceAdd, Nat.reduceSub, Nat.reduceMul, ↓reduceIte, eq_self, show ¬ 8 ≤ i by omega, e2, e4, e8, c, lg_cmp0]
    · rw [scan_step (by omega) (by simp [c]), ← ih (i + 1) (by omega) (by omega)]
      simp (disch := first | with_reducible assumption | omega | exact Or.inl rfl | exact Or.inr rfl | exact bI_01 | exact c_cat | exact vt_ref | exact vt_null | rfl | with_reducible repeat (first | assumption | omega | apply S_I | apply S_L | apply S_D | apply ob_I | apply ob_L | apply ob_D | apply ob_R | apply ax_I | apply ax_L | apply ax_D | apply ax_R | apply o303 | apply o307 | apply o302 | apply o301 | apply ax304 | apply ax305 | apply ax306 | apply ax308 | apply ax309 | apply ax310 | apply lt_S | apply ar305 | apply ar308 | apply ar309)) only [g110_3, g110_5, g110_8, g110_9, g110_12, g110_13, g110_14, g110_14r, g110_14n, g110_17, g110_18, g110_21, g110_22, g110_23, g110_26, g110_27, g110_30, g110_31, g110_34, g110_37, Option.toList, List.nil_append, List.cons_append, va_rf, nI_ltI, nI_leI, nI_eq, nI_add, nI_sub, nI_lt0, nI_e0, nI_m1, m1_nI, Nat.reduceEqDiff, Nat.reduceLT, Nat.reduceLeDiff, Nat.reduceAdd, Nat.reduceSub, Nat.reduceMul, ↓reduceIte, eq_self, show ¬ 8 ≤ i by omega, e2, e4, e8, c, lg_cmp0]
theorem x_ownNumber (X : PX h t n md C P N F k o ln lp) (hnf : nf ≤ 8) (B : ∀ i, i < 8 → (i < nf → ∃ e, 402 ≤ e ∧ am_R h 11 i = some e ∧ am_ob h e 1 ∧ am_L h e 9 = fnX i ∧ am_I h e 10 = nI (fnA i)) ∧ (nf ≤ i → am_R h 11 i = none)) (A : ∀ i, i < nf → fnA i ≤ 3) {na : Nat} (hna : na ≤ 3) (e4 : am_I h 301 4 = nI na) (e8 : am_L h 301 8 = x) {p : Int32} : ∃ h', am_run (d + 1) 110 [some (.ref 301), some (.int p), none] h none h' ∧ PX h' t n md C P N F k o (if fdI fnX x nf < nf ∧ fnA (fdI fnX x nf) ≠ na then (xlat ln lp (nI 5) p).1 else ln) (if fdI fnX x nf < nf ∧ fnA (fdI fnX x nf) ≠ na then (xlat ln lp (nI 5) p).2 else lp) ∧ am_fr rX h h' ∧ am_I h' 301 9 = nI (fdI fnX x nf) ∧ (∀ k, k ≤ 8 → am_I h' 301 k = am_I h 301 k) ∧ (∀ k, am_L h' 301 k = am_L h 301 k) ∧ ∀ k, am_L h' 310 k = am_L h 310 k := by
  have S := X.1
  have L : ∀ Q, (am_J (d + 1) 110 0 [some (.ref 301), some (.int p), none] [] h Q ↔ am_J (d + 1) 110 40 [some (.ref 301), some (.int p), some (.int (nI (fdI fnX x nf)))] [] h Q) := fun Q => by
    rw [g110_0, g110_1, x_ownLoop S hnf B e8 nf 0 (by omega) (by omega)]
    rfl
  have hle : fdI fnX x nf ≤ nf := fdI_le
  have X1 : PX (am_setI h 301 9 (nI (fdI fnX x nf))) t n md C P N F k o ln lp := PX_fr301 (fr_I fr_refl rfl) X (by rw [rI_k (by decide)]; exact X.2.2.2.2.2.2.2.2.1) (by rw [rI_k (by decide)]; exact X.2.2.2.2.2.2.2.2.2.1) (by rw [rI_k (by decide)]; exact X.2.2.2.2.2.2.2.2.2.2)
  by_cases c : fdI fnX x nf < nf
  · obtain ⟨e, e1, e2, e3, e5, e6⟩ := (B (fdI fnX x nf) (by omega)).1 c
    have hA := A _ c
    by_cases c2 : fnA (fdI fnX x nf) = na
    · refine ⟨_, fun Q => ?_, by rw [if_neg (fun q => q.2 c2), if_neg (fun q => q.2 c2)]; exact X1, fr_I fr_refl (by unfold rX; omega), rI_eq, fun k hk => rI_k (by omega), fun k => rfl, fun k => rfl⟩
      rw [L]
      simp (disch := first | with_reducible assumption | omega | exact Or.inl rfl | exact Or.inr rfl | exact bI_01 | exact c_cat | exact vt_ref | exact vt_null | rfl | with_reducible repeat (first | assumption | omega | apply S_I | apply S_L | apply S_D | apply ob_I | apply ob_L | apply ob_D | apply ob_R | apply ax_I | apply ax_L | apply ax_D | apply ax_R | apply o303 | apply o307 | apply o302 | apply o301 | apply ax304 | apply ax305 | apply ax306 | apply ax308 | apply ax309 | apply ax310 | apply lt_S | apply ar305 | apply ar308 | apply ar309)) only [g110_40, g110_41, g110_42, g110_45, g110_46, g110_48, g110_51, g110_52, g110_55, g110_56, g110_57, g110_57r, g110_57n, g110_60, g110_61, g110_64, g110_65, g110_66, g110_69, g110_70, g110_73, g110_76, g110_77, g110_78, g110_79, g110_82, Option.toList, List.nil_append, List.cons_append, va_rf, nI_ltI, nI_leI, nI_eq, nI_add, nI_sub, nI_lt0, nI_e0, nI_m1, m1_nI, Nat.reduceEqDiff, Nat.reduceLT, Nat.reduceLeDiff, Nat.reduceAdd, Nat.reduceSub, Nat.reduceMul, ↓reduceIte, eq_self, hI_I, hI_L, hI_D, hI_R, hL_I, hL_L, hL_D, hL_R, hD_I, hD_L, hD_D, hD_R, hR_I, hR_L, hR_D, ↓reduceIte, Nat.reduceEqDiff, show ¬ 8 ≤ fdI fnX x nf by omega, show ¬ e = 301 by omega, e2, e4, e6, c2]
    · obtain ⟨h2, r2, X2, F2⟩ := x_later (d := d) X1 (f := nI 5) (p := p)
      refine ⟨h2, fun Q => ?_, by rw [if_pos ⟨c, c2⟩, if_pos ⟨c, c2⟩]; exact X2, fr_trans (fr_I fr_refl (by unfold rX; omega)) F2.1, by rw [F2.2.1 9 (by decide), rI_eq], fun k hk => by rw [F2.2.1 k (by omega), rI_k (by omega)], fun k => F2.2.2.1 k, fun k => F2.2.2.2 k⟩
      rw [L]
      simp (disch := first | with_reducible assumption | omega | exact Or.inl rfl | exact Or.inr rfl | exact bI_01 | exact c_cat | exact vt_ref | exact vt_null | rfl | with_reducible repeat (first | assumption | omega | apply S_I | apply S_L | apply S_D | apply ob_I | apply ob_L | apply ob_D | apply ob_R | apply ax_I | apply ax_L | apply ax_D | apply ax_R | apply o303 | apply o307 | apply o302 | apply o301 | apply ax304 | apply ax305 | apply ax306 | apply ax308 | apply ax309 | apply ax310 | apply lt_S | apply ar305 | apply ar308 | apply ar309)) only [g110_40, g110_41, g110_42, g110_45, g110_46, g110_48, g110_51, g110_52, g110_55, g110_56, g110_57, g110_57r, g110_57n, g110_60, g110_61, g110_64, g110_65, g110_66, g110_69, g110_70, g110_73, g110_76, g110_77, g110_78, g110_79, g110_82, Option.toList, List.nil_append, List.cons_append, va_rf, nI_ltI, nI_leI, nI_eq, nI_add, nI_sub, nI_lt0, nI_e0, nI_m1, m1_nI, Nat.reduceEqDiff, Nat.reduceLT, Nat.reduceLeDiff, Nat.reduceAdd, Nat.reduceSub, Nat.reduceMul, ↓reduceIte, eq_self, hI_I, hI_L, hI_D, hI_R, hL_I, hL_L, hL_D, hL_R, hD_I, hD_L, hD_D, hD_R, hR_I, hR_L, hR_D, ↓reduceIte, Nat.reduceEqDiff, show ¬ 8 ≤ fdI fnX x nf by omega, show ¬ e = 301 by omega, e2, e4, e6, c2, r2 _]
  · refine ⟨_, fun Q => ?_, by rw [if_neg (fun q => c q.1), if_neg (fun q => c q.1)]; exact X1, fr_I fr_refl (by unfold rX; omega), rI_eq, fun k hk => rI_k (by omega), fun k => rfl, fun k => rfl⟩
    rw [L]
    by_cases c8 : fdI fnX x nf = 8
    · simp (disch := first | with_reducible assumption | omega | exact Or.inl rfl | exact Or.inr rfl | exact bI_01 | exact c_cat | exact vt_ref | exact vt_null | rfl | with_reducible repeat (first | assumption | omega | apply S_I | apply S_L | apply S_D | apply ob_I | apply ob_L | apply ob_D | apply ob_R | apply ax_I | apply ax_L | apply ax_D | apply ax_R | apply o303 | apply o307 | apply o302 | apply o301 | apply ax304 | apply ax305 | apply ax306 | apply ax308 | apply ax309 | apply ax310 | apply lt_S | apply ar305 | apply ar308 | apply ar309)) only [g110_40, g110_41, g110_42, g110_45, g110_46, g110_48, g110_51, g110_52, g110_55, g110_56, g110_57, g110_57r, g110_57n, g110_60, g110_61, g110_64, g110_65, g110_66, g110_69, g110_70, g110_73, g110_76, g110_77, g110_78, g110_79, g110_82, Option.toList, List.nil_append, List.cons_append, va_rf, nI_ltI, nI_leI, nI_eq, nI_add, nI_sub, nI_lt0, nI_e0, nI_m1, m1_nI, Nat.reduceEqDiff, Nat.reduceLT, Nat.reduceLeDiff, Nat.reduceAdd, Nat.reduceSub, Nat.reduceMul, ↓reduceIte, eq_self, hI_I, hI_L, hI_D, hI_R, hL_I, hL_L, hL_D, hL_R, hD_I, hD_L, hD_D, hD_R, hR_I, hR_L, hR_D, ↓reduceIte, Nat.reduceEqDiff, c8, Nat.le_refl]
    · have e2 := (B (fdI fnX x nf) (by omega)).2 (by omega)
      simp (disch := first | with_reducible assumption | omega | exact Or.inl rfl | exact Or.inr rfl | exact bI_01 | exact c_cat | exact vt_ref | exact vt_null | rfl | with_reducible repeat (first | assumption | omega | apply S_I | apply S_L | apply S_D | apply ob_I | apply ob_L | apply ob_D | apply ob_R | apply ax_I | apply ax_L | apply ax_D | apply ax_R | apply o303 | apply o307 | apply o302 | apply o301 | apply ax304 | apply ax305 | apply ax306 | apply ax308 | apply ax309 | apply ax310 | apply lt_S | apply ar305 | apply ar308 | apply ar309)) only [g110_40, g110_41, g110_42, g110_45, g110_46, g110_48, g110_51, g110_52, g110_55, g110_56, g110_57, g110_57r, g110_57n, g110_60, g110_61, g110_64, g110_65, g110_66, g110_69, g110_70, g110_73, g110_76, g110_77, g110_78, g110_79, g110_82, Option.toList, List.nil_append, List.cons_append, va_rf, nI_ltI, nI_leI, nI_eq, nI_add, nI_sub, nI_lt0, nI_e0, nI_m1, m1_nI, Nat.reduceEqDiff, Nat.reduceLT, Nat.reduceLeDiff, Nat.reduceAdd, Nat.reduceSub, Nat.reduceMul, ↓reduceIte, eq_self, hI_I, hI_L, hI_D, hI_R, hL_I, hL_L, hL_D, hL_R, hD_I, hD_L, hD_D, hD_R, hR_I, hR_L, hR_D, ↓reduceIte, Nat.reduceEqDiff, show ¬ 8 ≤ fdI fnX x nf by omega, e2]
end FA1

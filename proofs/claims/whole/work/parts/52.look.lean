/-! LOOKING UP: what the parsers know besides the text -/
/-- so: 0 a formula, 1 a constant, 2 a function; s the sheet; vis how many constants are seen; on, oX the own number and name; na, agX the arguments; nc, cnX the constants; nf, fnX, fnA the functions -/
def cfX (h : am_H) (so s vis on na nc nf : Nat) (oX : Int64) (agX cnX fnX : Nat → Int64) (fnA : Nat → Nat) : Prop :=
  so < 3 ∧ s < 4 ∧ na ≤ 3 ∧ nc ≤ 5 ∧ vis ≤ nc ∧ nf ≤ 8 ∧ on ≤ 8 ∧ am_I h 301 5 = nI so ∧ (so ≠ 2 → am_R h 301 6 = some (321 + 7 * s) ∧ am_I h 301 7 = nI vis) ∧
  (so = 2 → am_L h 301 8 = oX ∧ am_I h 301 9 = nI on ∧ am_I h 301 4 = nI na ∧ ∀ i, i < na → am_L h 310 i = agX i) ∧
  am_I h (321 + 7 * s) 1 = nI nc ∧ (∀ i, i < nc → ∃ e, 402 ≤ e ∧ am_R h (323 + 7 * s + i) 3 = some e ∧ am_ob h e 1 ∧ am_L h e 9 = cnX i) ∧
  ∀ i, i < 8 → (i < nf → ∃ e, 402 ≤ e ∧ am_R h 11 i = some e ∧ am_ob h e 1 ∧ am_L h e 9 = fnX i ∧ am_I h e 10 = nI (fnA i)) ∧ (nf ≤ i → am_R h 11 i = none)
def cwh (so : Nat) : Nat := if so = 0 then 0 else if so = 1 then 2 else 1
def cfM (h : am_H) (so s vis on na nc nf : Nat) (oM : Int64) (agM cnM fnM : Nat → Int64) (fnA : Nat → Nat) : Prop :=
  so < 3 ∧ s < 4 ∧ na ≤ 3 ∧ nc ≤ 5 ∧ vis ≤ nc ∧ nf ≤ 8 ∧ on ≤ 8 ∧ am_I h 349 28 = nI (cwh so) ∧ (so ≠ 2 → am_I h 349 29 = nI s) ∧ (so = 0 → vis = nc) ∧ (so = 1 → am_I h 349 30 = nI vis) ∧
  (so = 2 → am_L h 349 32 = oM ∧ am_I h 349 30 = nI on ∧ am_I h 349 31 = nI na ∧ ∀ i, i < na → am_L h 363 i = agM i) ∧
  am_I h 362 s = nI nc ∧ (∀ i, i < nc → am_L h 359 (5 * s + i) = cnM i) ∧ am_I h 349 16 = nI nf ∧ ∀ i, i < nf → am_L h 358 i = fnM i ∧ am_I h 361 i = nI (fnA i)
/-- class against model -/
def cfR (so na nc nf : Nat) (oX oM : Int64) (agX agM cnX cnM fnX fnM : Nat → Int64) (fnA : Nat → Nat) : Prop :=
  (so = 2 → NM oX oM ∧ ∀ i, i < na → NM (agX i) (agM i)) ∧ (∀ i, i < nc → NM (cnX i) (cnM i)) ∧ (∀ i, i < nf → NM (fnX i) (fnM i) ∧ 1 ≤ fnA i ∧ fnA i ≤ 3) ∧ ∀ i j, i < nf → j < nf → fnX i = fnX j → i = j
theorem fdI_le {f : Nat → Int64} {x : Int64} {n : Nat} : fdI f x n ≤ n := scan_le (Nat.zero_le _)
theorem fdI_at {f : Nat → Int64} {x : Int64} {n : Nat} (h : fdI f x n < n) : f (fdI f x n) = x := by
  have := scan_end (P := fun i => !decide (f i = x)) (n := n) (p := 0)
  by_cases e : f (fdI f x n) = x
  · exact e
  · exact absurd ⟨h, by show (!decide (f (fdI f x n) = x)) = true; rw [decide_eq_false e]; rfl⟩ this
theorem fdI_not {f : Nat → Int64} {x : Int64} {n i : Nat} (h : i < fdI f x n) : f i ≠ x := by
  intro e
  have := (scan_in (P := fun i => !decide (f i = x)) (Nat.zero_le i) h).2
  simp [e] at this
theorem fdI_first {f : Nat → Int64} {x : Int64} {n i : Nat} (hi : i < n) (e : f i = x) : fdI f x n ≤ i := by
  rcases Nat.lt_or_ge i (fdI f x n) with c | c
  · exact absurd e (fdI_not c)
  · exact c
theorem fdI_congr {f f' : Nat → Int64} {x x' : Int64} {n : Nat} (h : ∀ i, i < n → (f i = x ↔ f' i = x')) : fdI f x n = fdI f' x' n := scan_congr (fun i hi => by
  have := h i hi
  by_cases e : f i = x
  · rw [decide_eq_true e, decide_eq_true (this.mp e)]
  · rw [decide_eq_false e, decide_eq_false (fun q => e (this.mpr q))]) n 0 rfl
/-- found among the first vis -/
theorem fdI_vis {f : Nat → Int64} {x : Int64} {n vis : Nat} (hv : vis ≤ n) : (if fdI f x n < vis then nI (fdI f x n) else -1) = xI vis (fdI f x vis) := by
  unfold xI
  by_cases c : fdI f x n < vis
  · have e := fdI_at (f := f) (x := x) (n := n) (by omega)
    have h1 := fdI_first (n := vis) c e
    have h2 : fdI f x n ≤ fdI f x vis := by
      rcases Nat.lt_or_ge (fdI f x vis) (fdI f x n) with c2 | c2
      · exact absurd (fdI_at (f := f) (x := x) (n := vis) (by omega)) (fdI_not c2)
      · exact c2
    have h3 : fdI f x vis = fdI f x n := by omega
    rw [if_pos c, h3, if_pos c]
  · rw [if_neg c]
    have : ¬ fdI f x vis < vis := fun q => by
      have := fdI_first (n := n) (show fdI f x vis < n by omega) (fdI_at q)
      omega
    rw [if_neg this]
section LOK
variable {d : Nat} {h g g' : am_H} {Q : Option Value → am_H → Prop} {v0 v1 v2 v3 v4 v5 v6 v7 : Option Value} {so s vis on na nc nf : Nat} {oX oM : Int64} {agX agM cnX cnM fnX fnM : Nat → Int64} {fnA : Nat → Nat} {x : Int64}
theorem cfX_XF (F : XF h g) (K : cfX h so s vis on na nc nf oX agX cnX fnX fnA) : cfX g so s vis on na nc nf oX agX cnX fnX fnA := by
  obtain ⟨a1, a2, a3, a4, a5, a6, a7, b1, b2, b3, b4, b5, b6⟩ := K
  obtain ⟨f1, f2, f3, f4⟩ := F
  refine ⟨a1, a2, a3, a4, a5, a6, a7, (f2 5 (by decide)).trans b1, fun q => ⟨(fr_rdR f1).trans (b2 q).1, (f2 7 (by decide)).trans (b2 q).2⟩, fun q => ⟨(f3 8).trans (b3 q).1, (f2 9 (by decide)).trans (b3 q).2.1, (f2 4 (by decide)).trans (b3 q).2.2.1, fun i hi => (f4 i).trans ((b3 q).2.2.2 i hi)⟩, (fr_rdI f1 (by unfold rX; omega)).trans b4, fun i hi => ?_, fun i hi => ⟨fun q => ?_, fun q => (fr_rdR f1).trans ((b6 i hi).2 q)⟩⟩
  · obtain ⟨e, e1, e2, e3, e4⟩ := b5 i hi
    exact ⟨e, e1, (fr_rdR f1).trans e2, fr_ob f1 e3, (fr_rdL f1 (by unfold rX; omega)).trans e4⟩
  · obtain ⟨e, e1, e2, e3, e4, e5⟩ := (b6 i hi).1 q
    exact ⟨e, e1, (fr_rdR f1).trans e2, fr_ob f1 e3, (fr_rdL f1 (by unfold rX; omega)).trans e4, (fr_rdI f1 (by unfold rX; omega)).trans e5⟩
theorem cfM_MF {m : Nat} (F : MF h g m) (K : cfM h so s vis on na nc nf oM agM cnM fnM fnA) : cfM g so s vis on na nc nf oM agM cnM fnM fnA := by
  obtain ⟨a1, a2, a3, a4, a5, a6, a7, b1, b2, b3, b4, b5, b6, b7, b8, b9⟩ := K
  obtain ⟨f1, f2, f3, f4⟩ := F
  exact ⟨a1, a2, a3, a4, a5, a6, a7, (f2 28 (by omega)).trans b1, fun q => (f2 29 (by omega)).trans (b2 q), b3, fun q => (f2 30 (by omega)).trans (b4 q), fun q => ⟨(f3 32).trans (b5 q).1, (f2 30 (by omega)).trans (b5 q).2.1, (f2 31 (by omega)).trans (b5 q).2.2.1, fun i hi => (fr_rdL f1 (by omega)).trans ((b5 q).2.2.2 i hi)⟩, (fr_rdI f1 (by omega)).trans b6, fun i hi => (fr_rdL f1 (by omega)).trans (b7 i hi), (f2 16 (by omega)).trans b8, fun i hi => ⟨(fr_rdL f1 (by omega)).trans (b9 i hi).1, (fr_rdI f1 (by omega)).trans (b9 i hi).2⟩⟩
theorem x_findArg (S : am_S h) (K : cfX h so s vis on na nc nf oX agX cnX fnX fnA) (h2 : so = 2) : am_J d 92 0 [some (.ref 301), some (.long x), none, v3] [] h Q ↔ Q (some (.int (xI na (fdI agX x na)))) h := by
  obtain ⟨a1, a2, a3, a4, a5, a6, a7, b1, b2, b3, b4, b5, b6⟩ := K
  obtain ⟨c1, c2, c3, c4⟩ := b3 h2
  have L : ∀ r i, na - i = r → i ≤ na → (am_J d 92 2 [some (.ref 301), some (.long x), none, some (.int (nI i))] [] h Q ↔ Q (some (.int (xI na (am_scan (fun i => !decide (agX i = x)) na i)))) h) := by
    intro r
    induction r with
    | zero =>
      intro i hr hi
      obtain rfl : i = na := by omega
      rw [scan_stop (fun q => absurd q.1 (Nat.lt_irrefl _)), g92_2]
      simp (disch := first | with_reducible assumption | omega | exact Or.inl rfl | exact Or.inr rfl | exact bI_01 | exact c_cat | exact vt_ref | exact vt_null | rfl | with_reducible repeat (first | assumption | omega | apply S_I | apply S_L | apply S_D | apply ob_I | apply ob_L | apply ob_D | apply ob_R | apply ax_I | apply ax_L | apply ax_D | apply ax_R | apply o303 | apply o307 | apply o302 | apply o301 | apply ax304 | apply ax305 | apply ax306 | apply ax308 | apply ax309 | apply ax310 | apply lt_S | apply ar305 | apply ar308 | apply ar309)) only [g92_3, g92_4, g92_7, g92_10, g92_11, g92_12, g92_15, g92_16, g92_19, g92_20, g92_21, g92_22, g92_23, g92_26, g92_27, g92_28, g92_31, g92_34, g92_35, c3, nI_ltI, nI_leI, nI_eq, nI_add, nI_sub, nI_lt0, nI_e0, nI_m1, m1_nI, Nat.reduceEqDiff, Nat.reduceLT, Nat.reduceLeDiff, Nat.reduceAdd, Nat.reduceSub, Nat.reduceMul, ↓reduceIte, eq_self, Nat.le_refl, xI, Nat.lt_irrefl]
    | succ r ih =>
      intro i hr hi
      have e := c4 i (by omega)
      rw [g92_2]
      by_cases c : agX i = x
      · rw [scan_stop (fun q => by simp [c] at q)]
        simp (disch := first | with_reducible assumption | omega | exact Or.inl rfl | exact Or.inr rfl | exact bI_01 | exact c_cat | exact vt_ref | exact vt_null | rfl | with_reducible repeat (first | assumption | omega | apply S_I | apply S_L | apply S_D | apply ob_I | apply ob_L | apply ob_D | apply ob_R | apply ax_I | apply ax_L | apply ax_D | apply ax_R | apply o303 | apply o307 | apply o302 | apply o301 | apply ax304 | apply ax305 | apply ax306 | apply ax308 | apply ax309 | apply ax310 | apply lt_S | apply ar305 | apply ar308 | apply ar309)) only [g92_3, g92_4, g92_7, g92_10, g92_11, g92_12, g92_15, g92_16, g92_19, g92_20, g92_21, g92_22, g92_23, g92_26, g92_27, g92_28, g92_31, g92_34, g92_35, c3, nI_ltI, nI_leI, nI_eq, nI_add, nI_sub, nI_lt0, nI_e0, nI_m1, m1_nI, Nat.reduceEqDiff, Nat.reduceLT, Nat.reduceLeDiff, Nat.reduceAdd, Nat.reduceSub, Nat.reduceMul, ↓reduceIte, eq_self, show ¬ na ≤ i by omega, show ¬ 3 ≤ i by omega, e, c, lg_cmp0, xI, show i < na by omega]
      · rw [scan_step (by omega) (by simp [c]), ← ih (i + 1) (by omega) (by omega)]
        simp (disch := first | with_reducible assumption | omega | exact Or.inl rfl | exact Or.inr rfl | exact bI_01 | exact c_cat | exact vt_ref | exact vt_null | rfl | with_reducible repeat (first | assumption | omega | apply S_I | apply S_L | apply S_D | apply ob_I | apply ob_L | apply ob_D | apply ob_R | apply ax_I | apply ax_L | apply ax_D | apply ax_R | apply o303 | apply o307 | apply o302 | apply o301 | apply ax304 | apply ax305 | apply ax306 | apply ax308 | apply ax309 | apply ax310 | apply lt_S | apply ar305 | apply ar308 | apply ar309)) only [g92_3, g92_4, g92_7, g92_10, g92_11, g92_12, g92_15, g92_16, g92_19, g92_20, g92_21, g92_22, g92_23, g92_26, g92_27, g92_28, g92_31, g92_34, g92_35, c3, nI_ltI, nI_leI, nI_eq, nI_add, nI_sub, nI_lt0, nI_e0, nI_m1, m1_nI, Nat.reduceEqDiff, Nat.reduceLT, Nat.reduceLeDiff, Nat.reduceAdd, Nat.reduceSub, Nat.reduceMul, ↓reduceIte, eq_self, show ¬ na ≤ i by omega, show ¬ 3 ≤ i by omega, e, c, lg_cmp0]
  rw [g92_0, g92_1, L na 0 (by omega) (by omega)]
  rfl
theorem o321 (S : am_S h) (hs : s < 4) : am_ob h (321 + 7 * s) 9 ∧ am_R h (321 + 7 * s) 0 = some (322 + 7 * s) ∧ (∀ i, i < 5 → am_ax h (322 + 7 * s) 200 i ∧ am_R h (322 + 7 * s) i = some (323 + 7 * s + i) ∧ am_ob h (323 + 7 * s + i) 0) := by
  have e := S.2.2.2.2.2 s hs
  refine ⟨?_, e.2.1, fun i hi => ⟨?_, e.2.2 i hi, ?_⟩⟩
  · rcases (show s = 0 ∨ s = 1 ∨ s = 2 ∨ s = 3 by omega) with rfl | rfl | rfl | rfl <;> exact am_S_ob S (by decide +kernel)
  · rcases (show s = 0 ∨ s = 1 ∨ s = 2 ∨ s = 3 by omega) with rfl | rfl | rfl | rfl <;> exact am_S_ax S (n := 5) (by decide +kernel) hi (by decide)
  · have : ∀ s, s < 4 → ∀ i, i < 5 → (Nat.ble 4 (323 + 7 * s + i) && Nat.blt (323 + 7 * s + i) 402 && Nat.beq (am_tgs (323 + 7 * s + i)).1 0) = true := by decide +kernel
    exact am_S_ob S (this s hs i hi)
theorem x_shFind (S : am_S h) (hs : s < 4) (hnc : nc ≤ 5) (hv : vis ≤ nc) (Z : am_I h (321 + 7 * s) 1 = nI nc) (H : ∀ i, i < nc → ∃ e, 402 ≤ e ∧ am_R h (323 + 7 * s + i) 3 = some e ∧ am_ob h e 1 ∧ am_L h e 9 = cnX i) : am_J d 129 0 [some (.ref (321 + 7 * s)), some (.long x), none, some (.int (nI vis)), none, none] [] h Q ↔ Q (some (.int (xI vis (fdI cnX x vis)))) h := by
  obtain ⟨O, R, A⟩ := o321 S hs
  have L : ∀ r i (w : Option Value), vis - i = r → i ≤ vis → (am_J d 129 3 [some (.ref (321 + 7 * s)), some (.long x), none, some (.int (nI vis)), some (.int (nI i)), w] [] h Q ↔ Q (some (.int (xI vis (am_scan (fun i => !decide (cnX i = x)) vis i)))) h) := by
    intro r
    induction r with
    | zero =>
      intro i w hr hi
      obtain rfl : i = vis := by omega
      rw [scan_stop (fun q => absurd q.1 (Nat.lt_irrefl _)), g129_3]
      simp (disch := first | with_reducible assumption | omega | exact Or.inl rfl | exact Or.inr rfl | exact bI_01 | exact c_cat | exact vt_ref | exact vt_null | rfl | with_reducible repeat (first | assumption | omega | apply S_I | apply S_L | apply S_D | apply ob_I | apply ob_L | apply ob_D | apply ob_R | apply ax_I | apply ax_L | apply ax_D | apply ax_R | apply o303 | apply o307 | apply o302 | apply o301 | apply ax304 | apply ax305 | apply ax306 | apply ax308 | apply ax309 | apply ax310 | apply lt_S | apply ar305 | apply ar308 | apply ar309)) only [g129_5, g129_6, g129_9, g129_11, g129_12, g129_15, g129_18, g129_19, g129_22, g129_24, g129_25, g129_28, g129_30, g129_32, g129_32r, g129_32n, g129_35, g129_37, g129_40, g129_41, g129_42, g129_45, g129_47, g129_48, g129_51, g129_54, g129_55, nI_ltI, nI_leI, nI_eq, nI_add, nI_sub, nI_lt0, nI_e0, nI_m1, m1_nI, Nat.reduceEqDiff, Nat.reduceLT, Nat.reduceLeDiff, Nat.reduceAdd, Nat.reduceSub, Nat.reduceMul, ↓reduceIte, eq_self, Nat.le_refl, xI, Nat.lt_irrefl]
    | succ r ih =>
      intro i w hr hi
      obtain ⟨e, e1, e2, e3, e4⟩ := H i (by omega)
      obtain ⟨A1, A2, A3⟩ := A i (by omega)
      rw [g129_3]
      by_cases c : cnX i = x
      · rw [scan_stop (fun q => by simp [c] at q)]
        simp (disch := first | with_reducible assumption | omega | exact Or.inl rfl | exact Or.inr rfl | exact bI_01 | exact c_cat | exact vt_ref | exact vt_null | rfl | with_reducible repeat (first | assumption | omega | apply S_I | apply S_L | apply S_D | apply ob_I | apply ob_L | apply ob_D | apply ob_R | apply ax_I | apply ax_L | apply ax_D | apply ax_R | apply o303 | apply o307 | apply o302 | apply o301 | apply ax304 | apply ax305 | apply ax306 | apply ax308 | apply ax309 | apply ax310 | apply lt_S | apply ar305 | apply ar308 | apply ar309)) only [g129_5, g129_6, g129_9, g129_11, g129_12, g129_15, g129_18, g129_19, g129_22, g129_24, g129_25, g129_28, g129_30, g129_32, g129_32r, g129_32n, g129_35, g129_37, g129_40, g129_41, g129_42, g129_45, g129_47, g129_48, g129_51, g129_54, g129_55, Z, R, A2, e2, Option.toList, List.nil_append, List.cons_append, va_rf, nI_ltI, nI_leI, nI_eq, nI_add, nI_sub, nI_lt0, nI_e0, nI_m1, m1_nI, Nat.reduceEqDiff, Nat.reduceLT, Nat.reduceLeDiff, Nat.reduceAdd, Nat.reduceSub, Nat.reduceMul, ↓reduceIte, eq_self, show ¬ vis ≤ i by omega, show ¬ nc ≤ i by omega, e4, c, lg_cmp0, xI, show i < vis by omega, reduceCtorEq]
      · rw [scan_step (by omega) (by simp [c]), ← ih (i + 1) (some (.ref e)) (by omega) (by omega)]
        simp (disch := first | with_reducible assumption | omega | exact Or.inl rfl | exact Or.inr rfl | exact bI_01 | exact c_cat | exact vt_ref | exact vt_null | rfl | with_reducible repeat (first | assumption | omega | apply S_I | apply S_L | apply S_D | apply ob_I | apply ob_L | apply ob_D | apply ob_R | apply ax_I | apply ax_L | apply ax_D | apply ax_R | apply o303 | apply o307 | apply o302 | apply o301 | apply ax304 | apply ax305 | apply ax306 | apply ax308 | apply ax309 | apply ax310 | apply lt_S | apply ar305 | apply ar308 | apply ar309)) only [g129_5, g129_6, g129_9, g129_11, g129_12, g129_15, g129_18, g129_19, g129_22, g129_24, g129_25, g129_28, g129_30, g129_32, g129_32r, g129_32n, g129_35, g129_37, g129_40, g129_41, g129_42, g129_45, g129_47, g129_48, g129_51, g129_54, g129_55, Z, R, A2, e2, Option.toList, List.nil_append, List.cons_append, va_rf, nI_ltI, nI_leI, nI_eq, nI_add, nI_sub, nI_lt0, nI_e0, nI_m1, m1_nI, Nat.reduceEqDiff, Nat.reduceLT, Nat.reduceLeDiff, Nat.reduceAdd, Nat.reduceSub, Nat.reduceMul, ↓reduceIte, eq_self, show ¬ vis ≤ i by omega, show ¬ nc ≤ i by omega, e4, c, lg_cmp0, reduceCtorEq]
  rw [g129_0, g129_1, L vis 0 none (by omega) (by omega)]
  rfl
end LOK

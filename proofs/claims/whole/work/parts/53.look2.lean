/-! LOOKING UP: names and functions, on both sides -/
def fnR (fn : Nat → Int64) (fnA : Nat → Nat) (x : Int64) (nf gv : Nat) : Int32 := if fdI fn x nf < nf ∧ fnA (fdI fn x nf) = gv then nI (fdI fn x nf) else -1
/-- the number of a function by its name and how many it takes -/
def fnF (so on na nf : Nat) (oX : Int64) (fnX : Nat → Int64) (fnA : Nat → Nat) (x : Int64) (gv : Nat) : Int32 := if so = 2 ∧ x = oX then (if gv = na then nI on else -1) else fnR fnX fnA x nf gv
/-- the number of a name -/
def nmF (so na vis : Nat) (agX cnX : Nat → Int64) (x : Int64) : Int32 := if so = 2 then xI na (fdI agX x na) else xI vis (fdI cnX x vis)
section LO2
variable {d : Nat} {h g g' : am_H} {Q : Option Value → am_H → Prop} {v0 v1 v2 v3 v4 v5 v6 v7 : Option Value} {so s vis on na nc nf : Nat} {oX oM : Int64} {agX agM cnX cnM fnX fnM : Nat → Int64} {fnA : Nat → Nat} {x : Int64}
variable {t : Nat → Nat} {n : Nat} {md : Nat ⊕ (Nat × Nat)} {C : List (Int32 × Int64)} {P : List Int32} {N : List Nat} {F k o ln lp wn wp : Int32} {m : Nat}
theorem cf_nmF (R : cfR so na nc nf oX oM agX agM cnX cnM fnX fnM fnA) (hv : vis ≤ nc) {y : Int64} (hx : NM x y) : nmF so na vis agX cnX x = nmF so na vis agM cnM y := by
  unfold nmF
  by_cases h2 : so = 2
  · rw [if_pos h2, if_pos h2, fdI_congr (fun i hi => NM_iff ((R.1 h2).2 i hi) hx)]
  · rw [if_neg h2, if_neg h2, fdI_congr (fun i hi => NM_iff (R.2.1 i (by omega)) hx)]
theorem cf_fnF (R : cfR so na nc nf oX oM agX agM cnX cnM fnX fnM fnA) {y : Int64} (hx : NM x y) {gv : Nat} : fnF so on na nf oX fnX fnA x gv = fnF so on na nf oM fnM fnA y gv := by
  unfold fnF fnR
  rw [fdI_congr (fun i hi => NM_iff (R.2.2.1 i hi).1 hx)]
  by_cases h2 : so = 2
  · have e := NM_iff hx (R.1 h2).1
    simp only [h2, true_and, e]
  · simp only [h2, false_and, ↓reduceIte]
/-- resolveName -/
theorem x_resName (X : PX h t n md C P N F k o ln lp) (K : cfX h so s vis on na nc nf oX agX cnX fnX fnA) {p : Int32} : ∃ h', am_run (d + 1) 91 [some (.ref 301), some (.long x), none, some (.int p), v4] h none h' ∧ PX h' t n md (xadd C (nI (if so = 2 then 5 else 4), (nmF so na vis agX cnX x).toInt64)) P N F k o (if nmF so na vis agX cnX x = -1 then (xlat ln lp (nI 4) p).1 else ln) (if nmF so na vis agX cnX x = -1 then (xlat ln lp (nI 4) p).2 else lp) ∧ XF h h' := by
  obtain ⟨a1, a2, a3, a4, a5, a6, a7, b1, b2, b3, b4, b5, b6⟩ := id K
  have S := X.1
  have O := o321 S a2
  have W : ∀ Q, am_J (d + 1) 91 0 [some (.ref 301), some (.long x), none, some (.int p), v4] [] h Q ↔ am_J (d + 1) 91 30 [some (.ref 301), some (.long x), none, some (.int p), some (.int (nmF so na vis agX cnX x))] [] h Q := by
    intro Q
    by_cases h2 : so = 2
    · rw [show nmF so na vis agX cnX x = xI na (fdI agX x na) from if_pos h2]
      simp (disch := first | with_reducible assumption | omega | exact Or.inl rfl | exact Or.inr rfl | exact bI_01 | exact c_cat | exact vt_ref | exact vt_null | rfl | with_reducible repeat (first | assumption | omega | apply S_I | apply S_L | apply S_D | apply ob_I | apply ob_L | apply ob_D | apply ob_R | apply ax_I | apply ax_L | apply ax_D | apply ax_R | apply o303 | apply o307 | apply o302 | apply o301 | apply ax304 | apply ax305 | apply ax306 | apply ax308 | apply ax309 | apply ax310 | apply lt_S | apply ar305 | apply ar308 | apply ar309)) only [g91_0, g91_1, g91_4, g91_5, g91_8, g91_9, g91_10, g91_13, g91_16, g91_17, g91_20, g91_21, g91_22, g91_25, g91_28, b1, h2, nI_ltI, nI_leI, nI_eq, nI_add, nI_sub, nI_lt0, nI_e0, nI_m1, m1_nI, Nat.reduceEqDiff, Nat.reduceLT, Nat.reduceLeDiff, Nat.reduceAdd, Nat.reduceSub, Nat.reduceMul, ↓reduceIte, eq_self, Option.toList, List.nil_append, List.cons_append, va_rf, x_findArg S K h2]
    · rw [show nmF so na vis agX cnX x = xI vis (fdI cnX x vis) from if_neg h2]
      obtain ⟨c1, c2⟩ := b2 h2
      have O1 := O.1
      simp (disch := first | with_reducible assumption | omega | exact Or.inl rfl | exact Or.inr rfl | exact bI_01 | exact c_cat | exact vt_ref | exact vt_null | rfl | with_reducible repeat (first | assumption | omega | apply S_I | apply S_L | apply S_D | apply ob_I | apply ob_L | apply ob_D | apply ob_R | apply ax_I | apply ax_L | apply ax_D | apply ax_R | apply o303 | apply o307 | apply o302 | apply o301 | apply ax304 | apply ax305 | apply ax306 | apply ax308 | apply ax309 | apply ax310 | apply lt_S | apply ar305 | apply ar308 | apply ar309)) only [g91_0, g91_1, g91_4, g91_5, g91_8, g91_9, g91_10, g91_13, g91_16, g91_17, g91_20, g91_21, g91_22, g91_25, g91_28, b1, h2, c1, c2, nI_ltI, nI_leI, nI_eq, nI_add, nI_sub, nI_lt0, nI_e0, nI_m1, m1_nI, Nat.reduceEqDiff, Nat.reduceLT, Nat.reduceLeDiff, Nat.reduceAdd, Nat.reduceSub, Nat.reduceMul, ↓reduceIte, eq_self, Option.toList, List.nil_append, List.cons_append, va_rf, x_shFind S a2 a4 a5 b4 b5]
  have e8 : ∀ w : Nat, w < 128 → (nI w).toInt8.toInt32 = nI w := by decide +kernel
  generalize nmF so na vis agX cnX x = r at *
  by_cases c : r = -1
  · obtain ⟨h1, R1, X1, F1⟩ := x_later (d := d) X (f := nI 4) (p := p)
    obtain ⟨h2, R2, X2, F2⟩ := x_add (d := d) X1 (w := nI (if so = 2 then 5 else 4)) (v := r.toInt64)
    rw [e8 _ (by split <;> decide)] at X2 R2
    have S1 := X1.1
    have b1' := F1.2.1 5 (by decide)
    rw [b1] at b1'
    refine ⟨h2, fun Q => ?_, ?_, XF_trans F1 (XF_303 F2)⟩
    · rw [W]
      by_cases h2 : so = 2
      · simp only [h2, ↓reduceIte, c] at R2
        simp (disch := first | with_reducible assumption | omega | exact Or.inl rfl | exact Or.inr rfl | exact bI_01 | exact c_cat | exact vt_ref | exact vt_null | rfl | with_reducible repeat (first | assumption | omega | apply S_I | apply S_L | apply S_D | apply ob_I | apply ob_L | apply ob_D | apply ob_R | apply ax_I | apply ax_L | apply ax_D | apply ax_R | apply o303 | apply o307 | apply o302 | apply o301 | apply ax304 | apply ax305 | apply ax306 | apply ax308 | apply ax309 | apply ax310 | apply lt_S | apply ar305 | apply ar308 | apply ar309)) only [g91_30, g91_32, g91_33, g91_36, g91_37, g91_38, g91_39, g91_42, g91_43, g91_46, g91_47, g91_50, g91_51, g91_54, g91_55, g91_58, g91_59, g91_61, g91_62, g91_65, g91_66, c, nI_ltI, nI_leI, nI_eq, nI_add, nI_sub, nI_lt0, nI_e0, nI_m1, m1_nI, Nat.reduceEqDiff, Nat.reduceLT, Nat.reduceLeDiff, Nat.reduceAdd, Nat.reduceSub, Nat.reduceMul, ↓reduceIte, eq_self, Option.toList, List.nil_append, List.cons_append, va_rf, R1 _, b1', h2, R2 _]
      · simp only [h2, ↓reduceIte, c] at R2
        simp (disch := first | with_reducible assumption | omega | exact Or.inl rfl | exact Or.inr rfl | exact bI_01 | exact c_cat | exact vt_ref | exact vt_null | rfl | with_reducible repeat (first | assumption | omega | apply S_I | apply S_L | apply S_D | apply ob_I | apply ob_L | apply ob_D | apply ob_R | apply ax_I | apply ax_L | apply ax_D | apply ax_R | apply o303 | apply o307 | apply o302 | apply o301 | apply ax304 | apply ax305 | apply ax306 | apply ax308 | apply ax309 | apply ax310 | apply lt_S | apply ar305 | apply ar308 | apply ar309)) only [g91_30, g91_32, g91_33, g91_36, g91_37, g91_38, g91_39, g91_42, g91_43, g91_46, g91_47, g91_50, g91_51, g91_54, g91_55, g91_58, g91_59, g91_61, g91_62, g91_65, g91_66, c, nI_ltI, nI_leI, nI_eq, nI_add, nI_sub, nI_lt0, nI_e0, nI_m1, m1_nI, Nat.reduceEqDiff, Nat.reduceLT, Nat.reduceLeDiff, Nat.reduceAdd, Nat.reduceSub, Nat.reduceMul, ↓reduceIte, eq_self, Option.toList, List.nil_append, List.cons_append, va_rf, R1 _, b1', h2, R2 _]
    · rw [if_pos c, if_pos c]; exact X2
  · obtain ⟨h2, R2, X2, F2⟩ := x_add (d := d) X (w := nI (if so = 2 then 5 else 4)) (v := r.toInt64)
    rw [e8 _ (by split <;> decide)] at X2 R2
    refine ⟨h2, fun Q => ?_, ?_, XF_303 F2⟩
    · rw [W]
      by_cases h2 : so = 2
      · simp only [h2, ↓reduceIte] at R2
        simp (disch := first | with_reducible assumption | omega | exact Or.inl rfl | exact Or.inr rfl | exact bI_01 | exact c_cat | exact vt_ref | exact vt_null | rfl | with_reducible repeat (first | assumption | omega | apply S_I | apply S_L | apply S_D | apply ob_I | apply ob_L | apply ob_D | apply ob_R | apply ax_I | apply ax_L | apply ax_D | apply ax_R | apply o303 | apply o307 | apply o302 | apply o301 | apply ax304 | apply ax305 | apply ax306 | apply ax308 | apply ax309 | apply ax310 | apply lt_S | apply ar305 | apply ar308 | apply ar309)) only [g91_30, g91_32, g91_33, g91_36, g91_37, g91_38, g91_39, g91_42, g91_43, g91_46, g91_47, g91_50, g91_51, g91_54, g91_55, g91_58, g91_59, g91_61, g91_62, g91_65, g91_66, c, nI_ltI, nI_leI, nI_eq, nI_add, nI_sub, nI_lt0, nI_e0, nI_m1, m1_nI, Nat.reduceEqDiff, Nat.reduceLT, Nat.reduceLeDiff, Nat.reduceAdd, Nat.reduceSub, Nat.reduceMul, ↓reduceIte, eq_self, Option.toList, List.nil_append, List.cons_append, va_rf, b1, h2, R2 _]
      · simp only [h2, ↓reduceIte] at R2
        simp (disch := first | with_reducible assumption | omega | exact Or.inl rfl | exact Or.inr rfl | exact bI_01 | exact c_cat | exact vt_ref | exact vt_null | rfl | with_reducible repeat (first | assumption | omega | apply S_I | apply S_L | apply S_D | apply ob_I | apply ob_L | apply ob_D | apply ob_R | apply ax_I | apply ax_L | apply ax_D | apply ax_R | apply o303 | apply o307 | apply o302 | apply o301 | apply ax304 | apply ax305 | apply ax306 | apply ax308 | apply ax309 | apply ax310 | apply lt_S | apply ar305 | apply ar308 | apply ar309)) only [g91_30, g91_32, g91_33, g91_36, g91_37, g91_38, g91_39, g91_42, g91_43, g91_46, g91_47, g91_50, g91_51, g91_54, g91_55, g91_58, g91_59, g91_61, g91_62, g91_65, g91_66, c, nI_ltI, nI_leI, nI_eq, nI_add, nI_sub, nI_lt0, nI_e0, nI_m1, m1_nI, Nat.reduceEqDiff, Nat.reduceLT, Nat.reduceLeDiff, Nat.reduceAdd, Nat.reduceSub, Nat.reduceMul, ↓reduceIte, eq_self, Option.toList, List.nil_append, List.cons_append, va_rf, b1, h2, R2 _]
    · rw [if_neg c, if_neg c]; exact X2
/-- the class's search among the functions -/
theorem x_fnLoop (S : am_S h) (K : cfX h so s vis on na nc nf oX agX cnX fnX fnA) (D : ∀ i j, i < nf → j < nf → fnX i = fnX j → i = j) (A : ∀ i, i < nf → fnA i ≤ 3) {gv : Nat} (hg : gv ≤ 3) {p : Int32} : ∀ r j (w : Option Value), 8 - j = r → j ≤ 8 → ∃ j' w', ∀ Q, (am_J d 95 44 [some (.ref 301), some (.long x), none, some (.int (nI gv)), some (.int p), some (.int (if fdI fnX x nf < j then fnR fnX fnA x nf gv else -1)), some (.int (nI j)), w] [] h Q ↔ am_J d 95 94 [some (.ref 301), some (.long x), none, some (.int (nI gv)), some (.int p), some (.int (fnR fnX fnA x nf gv)), j', w'] [] h Q) := by
  obtain ⟨a1, a2, a3, a4, a5, a6, a7, b1, b2, b3, b4, b5, b6⟩ := K
  intro r
  induction r with
  | zero =>
    intro j w hr hj
    obtain rfl : j = 8 := by omega
    refine ⟨some (.int (nI 8)), w, fun Q => ?_⟩
    have e : (if fdI fnX x nf < 8 then fnR fnX fnA x nf gv else -1) = fnR fnX fnA x nf gv := by
      by_cases c : fdI fnX x nf < 8
      · rw [if_pos c]
      · rw [if_neg c]; unfold fnR
        have := fdI_le (f := fnX) (x := x) (n := nf)
        rw [if_neg (fun q => by omega)]
    rw [e, g95_44]
    simp (disch := first | with_reducible assumption | omega | exact Or.inl rfl | exact Or.inr rfl | exact bI_01 | exact c_cat | exact vt_ref | exact vt_null | rfl | with_reducible repeat (first | assumption | omega | apply S_I | apply S_L | apply S_D | apply ob_I | apply ob_L | apply ob_D | apply ob_R | apply ax_I | apply ax_L | apply ax_D | apply ax_R | apply o303 | apply o307 | apply o302 | apply o301 | apply ax304 | apply ax305 | apply ax306 | apply ax308 | apply ax309 | apply ax310 | apply lt_S | apply ar305 | apply ar308 | apply ar309)) only [g95_46, g95_48, nI_ltI, nI_leI, nI_eq, nI_add, nI_sub, nI_lt0, nI_e0, nI_m1, m1_nI, Nat.reduceEqDiff, Nat.reduceLT, Nat.reduceLeDiff, Nat.reduceAdd, Nat.reduceSub, Nat.reduceMul, ↓reduceIte, eq_self, Nat.le_refl]
  | succ r ih =>
    intro j w hr hj
    by_cases hjn : j < nf
    · obtain ⟨e, e1, e2, e3, e4, e5⟩ := (b6 j (by omega)).1 hjn
      have hA := A j hjn
      obtain ⟨j', w', W⟩ := ih (j + 1) (some (.ref e)) (by omega) (by omega)
      refine ⟨j', w', fun Q => ?_⟩
      rw [← W, g95_44]
      by_cases c : fnX j = x
      · have hi : fdI fnX x nf = j := by
          have h1 := fdI_first hjn c
          have h2 := fdI_at (f := fnX) (x := x) (n := nf) (by omega)
          exact D _ _ (by omega) hjn (h2.trans c.symm)
        rw [hi, if_neg (Nat.lt_irrefl _), if_pos (Nat.lt_succ_self _)]
        have hR : fnR fnX fnA x nf gv = if fnA j = gv then nI j else -1 := by
          unfold fnR; rw [hi]; simp only [hjn, true_and]
        rw [hR]
        by_cases c2 : fnA j = gv
        · simp (disch := first | with_reducible assumption | omega | exact Or.inl rfl | exact Or.inr rfl | exact bI_01 | exact c_cat | exact vt_ref | exact vt_null | rfl | with_reducible repeat (first | assumption | omega | apply S_I | apply S_L | apply S_D | apply ob_I | apply ob_L | apply ob_D | apply ob_R | apply ax_I | apply ax_L | apply ax_D | apply ax_R | apply o303 | apply o307 | apply o302 | apply o301 | apply ax304 | apply ax305 | apply ax306 | apply ax308 | apply ax309 | apply ax310 | apply lt_S | apply ar305 | apply ar308 | apply ar309)) only [g95_46, g95_48, g95_51, g95_52, g95_55, g95_57, g95_58, g95_60, g95_62, g95_62r, g95_62n, g95_65, g95_67, g95_70, g95_71, g95_72, g95_75, g95_77, g95_80, g95_81, g95_84, g95_86, g95_88, g95_91, Option.toList, List.nil_append, List.cons_append, va_rf, nI_ltI, nI_leI, nI_eq, nI_add, nI_sub, nI_lt0, nI_e0, nI_m1, m1_nI, Nat.reduceEqDiff, Nat.reduceLT, Nat.reduceLeDiff, Nat.reduceAdd, Nat.reduceSub, Nat.reduceMul, ↓reduceIte, eq_self, show ¬ 8 ≤ j by omega, e2, e4, e5, c, lg_cmp0, c2]
        · simp (disch := first | with_reducible assumption | omega | exact Or.inl rfl | exact Or.inr rfl | exact bI_01 | exact c_cat | exact vt_ref | exact vt_null | rfl | with_reducible repeat (first | assumption | omega | apply S_I | apply S_L | apply S_D | apply ob_I | apply ob_L | apply ob_D | apply ob_R | apply ax_I | apply ax_L | apply ax_D | apply ax_R | apply o303 | apply o307 | apply o302 | apply o301 | apply ax304 | apply ax305 | apply ax306 | apply ax308 | apply ax309 | apply ax310 | apply lt_S | apply ar305 | apply ar308 | apply ar309)) only [g95_46, g95_48, g95_51, g95_52, g95_55, g95_57, g95_58, g95_60, g95_62, g95_62r, g95_62n, g95_65, g95_67, g95_70, g95_71, g95_72, g95_75, g95_77, g95_80, g95_81, g95_84, g95_86, g95_88, g95_91, Option.toList, List.nil_append, List.cons_append, va_rf, nI_ltI, nI_leI, nI_eq, nI_add, nI_sub, nI_lt0, nI_e0, nI_m1, m1_nI, Nat.reduceEqDiff, Nat.reduceLT, Nat.reduceLeDiff, Nat.reduceAdd, Nat.reduceSub, Nat.reduceMul, ↓reduceIte, eq_self, show ¬ 8 ≤ j by omega, e2, e4, e5, c, lg_cmp0, c2]
      · have hi : fdI fnX x nf ≠ j := fun q => c (by
          have := fdI_at (f := fnX) (x := x) (n := nf) (by omega)
          rw [q] at this; exact this)
        have e : (if fdI fnX x nf < j + 1 then fnR fnX fnA x nf gv else -1) = if fdI fnX x nf < j then fnR fnX fnA x nf gv else -1 := by
          by_cases c3 : fdI fnX x nf < j
          · rw [if_pos c3, if_pos (by omega)]
          · rw [if_neg c3, if_neg (by omega)]
        rw [e]
        simp (disch := first | with_reducible assumption | omega | exact Or.inl rfl | exact Or.inr rfl | exact bI_01 | exact c_cat | exact vt_ref | exact vt_null | rfl | with_reducible repeat (first | assumption | omega | apply S_I | apply S_L | apply S_D | apply ob_I | apply ob_L | apply ob_D | apply ob_R | apply ax_I | apply ax_L | apply ax_D | apply ax_R | apply o303 | apply o307 | apply o302 | apply o301 | apply ax304 | apply ax305 | apply ax306 | apply ax308 | apply ax309 | apply ax310 | apply lt_S | apply ar305 | apply ar308 | apply ar309)) only [g95_46, g95_48, g95_51, g95_52, g95_55, g95_57, g95_58, g95_60, g95_62, g95_62r, g95_62n, g95_65, g95_67, g95_70, g95_71, g95_72, g95_75, g95_77, g95_80, g95_81, g95_84, g95_86, g95_88, g95_91, Option.toList, List.nil_append, List.cons_append, va_rf, nI_ltI, nI_leI, nI_eq, nI_add, nI_sub, nI_lt0, nI_e0, nI_m1, m1_nI, Nat.reduceEqDiff, Nat.reduceLT, Nat.reduceLeDiff, Nat.reduceAdd, Nat.reduceSub, Nat.reduceMul, ↓reduceIte, eq_self, show ¬ 8 ≤ j by omega, e2, e4, c, lg_cmp0]
    · have e2 := (b6 j (by omega)).2 (by omega)
      obtain ⟨j', w', W⟩ := ih (j + 1) (some .null) (by omega) (by omega)
      refine ⟨j', w', fun Q => ?_⟩
      rw [← W, g95_44]
      have hle := fdI_le (f := fnX) (x := x) (n := nf)
      have e : (if fdI fnX x nf < j + 1 then fnR fnX fnA x nf gv else -1) = if fdI fnX x nf < j then fnR fnX fnA x nf gv else -1 := by
        by_cases c3 : fdI fnX x nf < j
        · rw [if_pos c3, if_pos (by omega)]
        · have hi : ¬ fdI fnX x nf < nf := by omega
          have : fnR fnX fnA x nf gv = -1 := by unfold fnR; rw [if_neg (fun q => hi q.1)]
          rw [this, if_neg c3]; split <;> rfl
      rw [e]
      simp (disch := first | with_reducible assumption | omega | exact Or.inl rfl | exact Or.inr rfl | exact bI_01 | exact c_cat | exact vt_ref | exact vt_null | rfl | with_reducible repeat (first | assumption | omega | apply S_I | apply S_L | apply S_D | apply ob_I | apply ob_L | apply ob_D | apply ob_R | apply ax_I | apply ax_L | apply ax_D | apply ax_R | apply o303 | apply o307 | apply o302 | apply o301 | apply ax304 | apply ax305 | apply ax306 | apply ax308 | apply ax309 | apply ax310 | apply lt_S | apply ar305 | apply ar308 | apply ar309)) only [g95_46, g95_48, g95_51, g95_52, g95_55, g95_57, g95_58, g95_60, g95_62, g95_62r, g95_62n, g95_65, g95_67, g95_70, g95_71, g95_72, g95_75, g95_77, g95_80, g95_81, g95_84, g95_86, g95_88, g95_91, Option.toList, List.nil_append, List.cons_append, va_rf, nI_ltI, nI_leI, nI_eq, nI_add, nI_sub, nI_lt0, nI_e0, nI_m1, m1_nI, Nat.reduceEqDiff, Nat.reduceLT, Nat.reduceLeDiff, Nat.reduceAdd, Nat.reduceSub, Nat.reduceMul, ↓reduceIte, eq_self, show ¬ 8 ≤ j by omega, e2]
/-- calls |= 1 << f -/
theorem PX_F {F' : Int32} (X : PX h t n md C P N F k o ln lp) : PX (am_setI h 303 8 F') t n md C P N F' k o ln lp ∧ am_fr (fun a => 303 ≤ a ∧ a ≤ 309) h (am_setI h 303 8 F') := by
  obtain ⟨S, T, L, hC, hP, hN, e1, e2, -⟩ := id X
  have Fr : am_fr (fun a => 303 ≤ a ∧ a ≤ 309) h (am_setI h 303 8 F') := fr_I fr_refl (by omega)
  exact ⟨PX_of Fr X (XC_keep (by simp only [hI_I, hI_L, hI_D, hI_R, hL_I, hL_L, hL_D, hL_R, hD_I, hD_L, hD_D, hD_R, hR_I, hR_L, hR_D, ↓reduceIte, Nat.reduceEqDiff]) (fun i => by simp only [hI_I, hI_L, hI_D, hI_R, hL_I, hL_L, hL_D, hL_R, hD_I, hD_L, hD_D, hD_R, hR_I, hR_L, hR_D, ↓reduceIte, Nat.reduceEqDiff]) (fun i => rfl) hC) (XP_keep (by simp only [hI_I, hI_L, hI_D, hI_R, hL_I, hL_L, hL_D, hL_R, hD_I, hD_L, hD_D, hD_R, hR_I, hR_L, hR_D, ↓reduceIte, Nat.reduceEqDiff]) (fun i => by simp only [hI_I, hI_L, hI_D, hI_R, hL_I, hL_L, hL_D, hL_R, hD_I, hD_L, hD_D, hD_R, hR_I, hR_L, hR_D, ↓reduceIte, Nat.reduceEqDiff]) hP) (XN_keep (by simp only [hI_I, hI_L, hI_D, hI_R, hL_I, hL_L, hL_D, hL_R, hD_I, hD_L, hD_D, hD_R, hR_I, hR_L, hR_D, ↓reduceIte, Nat.reduceEqDiff]) (fun i => by simp only [hI_I, hI_L, hI_D, hI_R, hL_I, hL_L, hL_D, hL_R, hD_I, hD_L, hD_D, hD_R, hR_I, hR_L, hR_D, ↓reduceIte, Nat.reduceEqDiff]) (fun i => rfl) hN) (by simp only [hI_I, hI_L, hI_D, hI_R, hL_I, hL_L, hL_D, hL_R, hD_I, hD_L, hD_D, hD_R, hR_I, hR_L, hR_D, ↓reduceIte, Nat.reduceEqDiff]) (by simp only [hI_I, hI_L, hI_D, hI_R, hL_I, hL_L, hL_D, hL_R, hD_I, hD_L, hD_D, hD_R, hR_I, hR_L, hR_D, ↓reduceIte, Nat.reduceEqDiff, e2]), Fr⟩
/-- resolveFunction -/
theorem x_resFn (X : PX h t n md C P N F k o ln lp) (K : cfX h so s vis on na nc nf oX agX cnX fnX fnA) (D : ∀ i j, i < nf → j < nf → fnX i = fnX j → i = j) (A : ∀ i, i < nf → fnA i ≤ 3) {gv : Nat} (hg : gv ≤ 3) {p : Int32} : ∃ h', am_run (d + 1) 95 [some (.ref 301), some (.long x), none, some (.int (nI gv)), some (.int p), none, none, none] h (some (.int (if fnF so on na nf oX fnX fnA x gv = -1 then nI 0 else fnF so on na nf oX fnX fnA x gv))) h' ∧ PX h' t n md C P N (if fnF so on na nf oX fnX fnA x gv = -1 then F else F ||| (nI 1 <<< (fnF so on na nf oX fnX fnA x gv &&& 31))) k o (if fnF so on na nf oX fnX fnA x gv = -1 then (xlat ln lp (nI 4) p).1 else ln) (if fnF so on na nf oX fnX fnA x gv = -1 then (xlat ln lp (nI 4) p).2 else lp) ∧ XF h h' := by
  obtain ⟨a1, a2, a3, a4, a5, a6, a7, b1, b2, b3, b4, b5, b6⟩ := id K
  have S := X.1
  have e8 := X.2.2.2.2.2.2.1
  have W : ∃ j' w', ∀ Q, (am_J (d + 1) 95 0 [some (.ref 301), some (.long x), none, some (.int (nI gv)), some (.int p), none, none, none] [] h Q ↔ am_J (d + 1) 95 94 [some (.ref 301), some (.long x), none, some (.int (nI gv)), some (.int p), some (.int (fnF so on na nf oX fnX fnA x gv)), j', w'] [] h Q) := by
    by_cases h2 : so = 2 ∧ x = oX
    · obtain ⟨c1, c2, c3, c4⟩ := b3 h2.1
      refine ⟨none, none, fun Q => ?_⟩
      have hF : fnF so on na nf oX fnX fnA x gv = if gv = na then nI on else -1 := if_pos h2
      rw [hF, h2.2]
      by_cases c : gv = na
      · simp (disch := first | with_reducible assumption | omega | exact Or.inl rfl | exact Or.inr rfl | exact bI_01 | exact c_cat | exact vt_ref | exact vt_null | rfl | with_reducible repeat (first | assumption | omega | apply S_I | apply S_L | apply S_D | apply ob_I | apply ob_L | apply ob_D | apply ob_R | apply ax_I | apply ax_L | apply ax_D | apply ax_R | apply o303 | apply o307 | apply o302 | apply o301 | apply ax304 | apply ax305 | apply ax306 | apply ax308 | apply ax309 | apply ax310 | apply lt_S | apply ar305 | apply ar308 | apply ar309)) only [g95_0, g95_1, g95_3, g95_4, g95_7, g95_8, g95_11, g95_12, g95_13, g95_16, g95_17, g95_20, g95_21, g95_22, g95_25, g95_28, g95_29, g95_32, g95_35, g95_36, g95_38, b1, h2.1, nI_ltI, nI_leI, nI_eq, nI_add, nI_sub, nI_lt0, nI_e0, nI_m1, m1_nI, Nat.reduceEqDiff, Nat.reduceLT, Nat.reduceLeDiff, Nat.reduceAdd, Nat.reduceSub, Nat.reduceMul, ↓reduceIte, eq_self, c1, lg_cmp0, c3, c2, c]
      · simp (disch := first | with_reducible assumption | omega | exact Or.inl rfl | exact Or.inr rfl | exact bI_01 | exact c_cat | exact vt_ref | exact vt_null | rfl | with_reducible repeat (first | assumption | omega | apply S_I | apply S_L | apply S_D | apply ob_I | apply ob_L | apply ob_D | apply ob_R | apply ax_I | apply ax_L | apply ax_D | apply ax_R | apply o303 | apply o307 | apply o302 | apply o301 | apply ax304 | apply ax305 | apply ax306 | apply ax308 | apply ax309 | apply ax310 | apply lt_S | apply ar305 | apply ar308 | apply ar309)) only [g95_0, g95_1, g95_3, g95_4, g95_7, g95_8, g95_11, g95_12, g95_13, g95_16, g95_17, g95_20, g95_21, g95_22, g95_25, g95_28, g95_29, g95_32, g95_35, g95_36, g95_38, b1, h2.1, nI_ltI, nI_leI, nI_eq, nI_add, nI_sub, nI_lt0, nI_e0, nI_m1, m1_nI, Nat.reduceEqDiff, Nat.reduceLT, Nat.reduceLeDiff, Nat.reduceAdd, Nat.reduceSub, Nat.reduceMul, ↓reduceIte, eq_self, c1, lg_cmp0, c3, c2, c]
    · obtain ⟨j', w', L⟩ := x_fnLoop (d := d + 1) (x := x) (p := p) S K D A hg 8 0 none rfl (by decide)
      refine ⟨j', w', fun Q => ?_⟩
      have hF : fnF so on na nf oX fnX fnA x gv = fnR fnX fnA x nf gv := if_neg h2
      rw [hF, ← L, if_neg (Nat.not_lt_zero _)]
      by_cases c : so = 2
      · obtain ⟨c1, c2, c3, c4⟩ := b3 c
        have hx : ¬ x = oX := fun q => h2 ⟨c, q⟩
        simp (disch := first | with_reducible assumption | omega | exact Or.inl rfl | exact Or.inr rfl | exact bI_01 | exact c_cat | exact vt_ref | exact vt_null | rfl | with_reducible repeat (first | assumption | omega | apply S_I | apply S_L | apply S_D | apply ob_I | apply ob_L | apply ob_D | apply ob_R | apply ax_I | apply ax_L | apply ax_D | apply ax_R | apply o303 | apply o307 | apply o302 | apply o301 | apply ax304 | apply ax305 | apply ax306 | apply ax308 | apply ax309 | apply ax310 | apply lt_S | apply ar305 | apply ar308 | apply ar309)) only [g95_0, g95_1, g95_3, g95_4, g95_7, g95_8, g95_11, g95_12, g95_13, g95_16, g95_17, g95_20, g95_21, g95_22, g95_25, g95_28, g95_29, g95_32, g95_35, g95_36, g95_38, g95_41, g95_42, b1, c, nI_ltI, nI_leI, nI_eq, nI_add, nI_sub, nI_lt0, nI_e0, nI_m1, m1_nI, Nat.reduceEqDiff, Nat.reduceLT, Nat.reduceLeDiff, Nat.reduceAdd, Nat.reduceSub, Nat.reduceMul, ↓reduceIte, eq_self, c1, lg_cmp0, hx]
      · simp (disch := first | with_reducible assumption | omega | exact Or.inl rfl | exact Or.inr rfl | exact bI_01 | exact c_cat | exact vt_ref | exact vt_null | rfl | with_reducible repeat (first | assumption | omega | apply S_I | apply S_L | apply S_D | apply ob_I | apply ob_L | apply ob_D | apply ob_R | apply ax_I | apply ax_L | apply ax_D | apply ax_R | apply o303 | apply o307 | apply o302 | apply o301 | apply ax304 | apply ax305 | apply ax306 | apply ax308 | apply ax309 | apply ax310 | apply lt_S | apply ar305 | apply ar308 | apply ar309)) only [g95_0, g95_1, g95_3, g95_4, g95_7, g95_8, g95_11, g95_12, g95_13, g95_16, g95_17, g95_20, g95_21, g95_22, g95_25, g95_28, g95_29, g95_32, g95_35, g95_36, g95_38, g95_41, g95_42, b1, c, nI_ltI, nI_leI, nI_eq, nI_add, nI_sub, nI_lt0, nI_e0, nI_m1, m1_nI, Nat.reduceEqDiff, Nat.reduceLT, Nat.reduceLeDiff, Nat.reduceAdd, Nat.reduceSub, Nat.reduceMul, ↓reduceIte, eq_self]
  obtain ⟨j', w', W⟩ := W
  generalize fnF so on na nf oX fnX fnA x gv = r at *
  by_cases c : r = -1
  · obtain ⟨h1, R1, X1, F1⟩ := x_later (d := d) X (f := nI 4) (p := p)
    simp only [c, ↓reduceIte]
    refine ⟨h1, fun Q => ?_, X1, F1⟩
    rw [W]
    simp (disch := first | with_reducible assumption | omega | exact Or.inl rfl | exact Or.inr rfl | exact bI_01 | exact c_cat | exact vt_ref | exact vt_null | rfl | with_reducible repeat (first | assumption | omega | apply S_I | apply S_L | apply S_D | apply ob_I | apply ob_L | apply ob_D | apply ob_R | apply ax_I | apply ax_L | apply ax_D | apply ax_R | apply o303 | apply o307 | apply o302 | apply o301 | apply ax304 | apply ax305 | apply ax306 | apply ax308 | apply ax309 | apply ax310 | apply lt_S | apply ar305 | apply ar308 | apply ar309)) only [g95_94, g95_96, g95_97, g95_100, g95_101, g95_102, g95_104, g95_107, g95_108, g95_109, g95_110, g95_113, g95_114, g95_117, g95_118, g95_120, g95_121, g95_122, g95_125, g95_127, c, ↓reduceIte, R1 _, Option.toList, List.nil_append, List.cons_append, va_rf]
  · simp only [c, ↓reduceIte]
    obtain ⟨X1, F1⟩ := PX_F (F' := F ||| (nI 1 <<< (r &&& 31))) X
    refine ⟨_, fun Q => ?_, X1, XF_303 F1⟩
    rw [W]
    simp (disch := first | with_reducible assumption | omega | exact Or.inl rfl | exact Or.inr rfl | exact bI_01 | exact c_cat | exact vt_ref | exact vt_null | rfl | with_reducible repeat (first | assumption | omega | apply S_I | apply S_L | apply S_D | apply ob_I | apply ob_L | apply ob_D | apply ob_R | apply ax_I | apply ax_L | apply ax_D | apply ax_R | apply o303 | apply o307 | apply o302 | apply o301 | apply ax304 | apply ax305 | apply ax306 | apply ax308 | apply ax309 | apply ax310 | apply lt_S | apply ar305 | apply ar308 | apply ar309)) only [g95_94, g95_96, g95_97, g95_100, g95_101, g95_102, g95_104, g95_107, g95_108, g95_109, g95_110, g95_113, g95_114, g95_117, g95_118, g95_120, g95_121, g95_122, g95_125, g95_127, c, ↓reduceIte, Option.toList, List.nil_append, List.cons_append, va_rf, e8]
end LO2

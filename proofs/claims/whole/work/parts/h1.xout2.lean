/-! THE CLASS: an E is worked out -/
/-- what settle needs of the machine -/
def XE (h g : am_H) (o : Nat) (rr : Option Nat) (rd : List Nat) : Prop := kp (xmP o rr) h g ∧ am_S g ∧ am_R g 9 15 = some o ∧ RDx g o rr rd
/-- what is held after it was worked out -/
def WO (h g : am_H) (o : Nat) (rr : Option Nat) (nb : Int32) (r : FO) : Prop := kp (woP o rr) h g ∧ am_S g ∧ RDx g o rr r.2.2 ∧ match r.1 with
  | .inl (.inl x) => am_I g o 0 = nI 1 ∧ am_L g o 1 = x
  | .inl (.inr y) => am_I g o 0 = nI 2 ∧ am_D g o 2 = y ∧ am_L g o 1 = y.toInt64 ∧ okD y
  | .inr (.inl k) => am_I g o 0 = nI 3 ∧ am_I g o 4 = nI k ∧ am_I g o 5 = nb ∧ am_I g o 6 = nI 0 ∧ 1 ≤ k ∧ k ≤ 11
  | .inr (.inr c) => c < 256 ∧ am_I g o 0 = nI 5 ∧ am_I g o 4 = am_I h (22 + c) 4 ∧ am_I g o 5 = am_I h (22 + c) 5 ∧ am_I g o 6 = am_I h (22 + c) 6
section XOV
variable {h g g' : am_H} {o sa dp d e : Nat} {rr : Option Nat} {ts : List (Nat × Nat × Nat)} {σ : SR} {v : VL} {nb x1 x2 x3 x4 : Int32} {rd : List Nat}
theorem x_setFailed (O : am_ob h o 0) (h4 : 4 ≤ o) : am_run (d + 1) 7 [some (.ref o), some (.int x1), some (.int x2), some (.int x3), some (.int x4)] h none (am_setI (am_setI (am_setI (am_setL (am_setI h o 0 x1) o 1 (lN 0)) o 4 x2) o 5 x3) o 6 x4) := fun Q => by
  simp (disch := first | with_reducible assumption | omega | exact Or.inl rfl | exact Or.inr rfl | exact bI_01 | exact c_cat | exact vt_ref | exact vt_null | rfl | with_reducible repeat (first | assumption | omega | apply S_I | apply S_L | apply S_D | apply ob_I | apply ob_L | apply ob_D | apply ob_R | apply ax_I | apply ax_L | apply ax_D | apply ax_R | apply o303 | apply o307 | apply o302 | apply o301 | apply ax304 | apply ax305 | apply ax306 | apply ax308 | apply ax309 | apply ax310 | apply lt_S | apply ar305 | apply ar308 | apply ar309)) only [g7_0, g7_1, g7_2, g7_5, g7_6, g7_7, g7_10, g7_11, g7_12, g7_15, g7_16, g7_18, g7_21, g3_0, g3_1, g3_2, g3_5, g3_6, g3_7, g3_10, Option.toList, List.nil_append, List.cons_append, va_rf]
theorem kp_wo (K : kp (xmP o rr) h g) : kp (woP o rr) h g := ⟨K.1, K.2.1, fun a k h1 h2 => K.2.2 a k h1 (fun q => h2 (Or.inl q))⟩
theorem wo_p {k : Nat} (h3 : k ≠ 3) (h6 : k ≤ 6) : woP o rr o k := Or.inr ⟨rfl, h3, h6⟩
theorem RDx_own {rd : List Nat} (R : RDx g o rr rd) (h0 : am_I g' o 9 = am_I g o 9) (hR : am_R g' o 8 = am_R g o 8) (ht : ∀ a, a < g.1 → am_tg g' a = am_tg g a) (hs : g.1 ≤ g'.1) (ha : ∀ a, rr = some a → ∀ k, am_I g' a k = am_I g a k) : RDx g' o rr rd := by
  obtain ⟨a1, a2, a3, a4, a5⟩ := R
  refine ⟨hR.trans a1, ⟨Nat.lt_of_lt_of_le a2.1 hs, by rw [ht o a2.1]; exact a2.2⟩, a3, a4, fun a q => ?_⟩
  obtain ⟨b1, b2, b3, b4, b5⟩ := a5 a q
  exact ⟨b1, by omega, (ht a b2).trans b3, h0.trans b4, fun i h1 h2 => (ha a q i).trans (b5 i h1 h2)⟩
/-- the failed owner -/
abbrev faH (g : am_H) (o : Nat) (x1 x2 x3 x4 : Int32) : am_H := am_setI (am_setI (am_setI (am_setL (am_setI g o 0 x1) o 1 (lN 0)) o 4 x2) o 5 x3) o 6 x4
theorem fa_I {a k : Nat} (h : a ≠ o ∨ (k ≠ 0 ∧ k ≠ 4 ∧ k ≠ 5 ∧ k ≠ 6)) : am_I (faH g o x1 x2 x3 x4) a k = am_I g a k := by
  show am_I (am_setI (am_setI (am_setI (am_setI g o 0 x1) o 4 x2) o 5 x3) o 6 x4) a k = _
  rcases h with h | ⟨h0, h4, h5, h6⟩
  · rw [rI_a h, rI_a h, rI_a h, rI_a h]
  · by_cases c : a = o
    · subst c; rw [rI_k h6, rI_k h5, rI_k h4, rI_k h0]
    · rw [rI_a c, rI_a c, rI_a c, rI_a c]
theorem fa_V : am_I (faH g o x1 x2 x3 x4) o 0 = x1 ∧ am_I (faH g o x1 x2 x3 x4) o 4 = x2 ∧ am_I (faH g o x1 x2 x3 x4) o 5 = x3 ∧ am_I (faH g o x1 x2 x3 x4) o 6 = x4 := by
  show am_I (am_setI (am_setI (am_setI (am_setI g o 0 x1) o 4 x2) o 5 x3) o 6 x4) o 0 = x1 ∧ am_I (am_setI (am_setI (am_setI (am_setI g o 0 x1) o 4 x2) o 5 x3) o 6 x4) o 4 = x2 ∧ am_I (am_setI (am_setI (am_setI (am_setI g o 0 x1) o 4 x2) o 5 x3) o 6 x4) o 5 = x3 ∧ am_I (am_setI (am_setI (am_setI (am_setI g o 0 x1) o 4 x2) o 5 x3) o 6 x4) o 6 = x4
  refine ⟨?_, ?_, ?_, ?_⟩
  · rw [rI_k (by decide), rI_k (by decide), rI_k (by decide), rI_eq]
  · rw [rI_k (by decide), rI_k (by decide), rI_eq]
  · rw [rI_k (by decide), rI_eq]
  · rw [rI_eq]
/-- settle, where it failed -/
theorem x_settleF {q : Nat ⊕ Nat} (h4 : 402 ≤ h.1) (A : XE h g o rr rd) (L : FLx h g q) : ∃ g', am_run (d + 2) 55 [some (.ref 9), some (.int nb)] g none g' ∧ WO h g' o rr nb (.inr q, (e, rd)) := by
  obtain ⟨a1, S, a8, a10⟩ := A
  obtain ⟨-, O, o1, o2, oR⟩ := id a10
  have h4o : 4 ≤ o := by omega
  have K2 : ∀ x1 x2 x3 x4, kp (woP o rr) h (faH g o x1 x2 x3 x4) := fun x1 x2 x3 x4 => kp_I (kp_I (kp_I (kp_L (kp_I (kp_wo a1) (wo_p (by decide) (by decide))) (wo_p (by decide) (by decide))) (wo_p (by decide) (by decide))) (wo_p (by decide) (by decide))) (wo_p (by decide) (by decide))
  have R2 : ∀ x1 x2 x3 x4, RDx (faH g o x1 x2 x3 x4) o rr rd := fun x1 x2 x3 x4 => RDx_own a10 (fa_I (Or.inr (by decide))) rfl (fun _ _ => rfl) (Nat.le_refl _) (fun a q k => fa_I (Or.inl (by have := (oR a q).1; omega)))
  match q, L with
  | .inl k, ⟨k1, k2, k3, k4⟩ =>
    obtain ⟨f1, f2, f3, f4⟩ := fa_V (g := g) (o := o) (x1 := nI 3) (x2 := nI k) (x3 := nb) (x4 := nI 0)
    refine ⟨faH g o (nI 3) (nI k) nb (nI 0), fun Q => ?_, K2 _ _ _ _, S, R2 _ _ _ _, f1, f2, f3, f4, by omega, by omega⟩
    have sf := x_setFailed (d := d) (h := g) (o := o) (x1 := nI 3) (x2 := nI k) (x3 := nb) (x4 := nI 0) O h4o
    simp (disch := first | with_reducible assumption | omega | exact Or.inl rfl | exact Or.inr rfl | exact bI_01 | exact c_cat | exact vt_ref | exact vt_null | rfl | with_reducible repeat (first | assumption | omega | apply S_I | apply S_L | apply S_D | apply ob_I | apply ob_L | apply ob_D | apply ob_R | apply ax_I | apply ax_L | apply ax_D | apply ax_R | apply o303 | apply o307 | apply o302 | apply o301 | apply ax304 | apply ax305 | apply ax306 | apply ax308 | apply ax309 | apply ax310 | apply lt_S | apply ar305 | apply ar308 | apply ar309)) only [g55_0, g55_1, g55_4, g55_4r, g55_4n, g55_7, g55_8, g55_11, g55_12, g55_13, g55_16, g55_19, g55_20, g55_23, g55_26, g55_27, g55_30, g55_33, g55_36, g55_39, g55_40, g55_43, g55_46, g55_47, g55_50, g55_51, g55_52, g55_55, g55_56, g55_57, g55_60, g55_63, g55_64, g55_67, g55_70, g55_73, g55_74, g55_77, g55_78, g55_81, g55_84, g55_87, g55_90, g55_91, g55_94, g55_95, g55_98, g55_101, g55_104, Option.toList, List.nil_append, List.cons_append, va_rf, nI_ltI, nI_leI, nI_eq, nI_add, nI_sub, nI_lt0, nI_e0, nI_m1, m1_nI, Nat.reduceEqDiff, Nat.reduceLT, Nat.reduceLeDiff, Nat.reduceAdd, Nat.reduceSub, Nat.reduceMul, ↓reduceIte, eq_self, k4, k1, a8, show ¬ k = 0 by omega, sf _]
  | .inr c, ⟨k1, k2, k, k3, k4, k5, k6⟩ =>
    have Oc := o22 S k1
    have np : ∀ j, j ≠ 9 → ¬ xmP o rr (22 + c) j := fun j hj q => by
      rcases q with q | q | q | q | q | q
      · omega
      · omega
      · omega
      · omega
      · omega
      · have := (oR _ q).1; omega
    have e4 := (a1.2.2 (22 + c) 4 (by omega) (np 4 (by decide))).1
    have e5 := (a1.2.2 (22 + c) 5 (by omega) (np 5 (by decide))).1
    have e6 := (a1.2.2 (22 + c) 6 (by omega) (np 6 (by decide))).1
    obtain ⟨f1, f2, f3, f4⟩ := fa_V (g := g) (o := o) (x1 := nI 5) (x2 := am_I g (22 + c) 4) (x3 := am_I g (22 + c) 5) (x4 := am_I g (22 + c) 6)
    refine ⟨faH g o (nI 5) (am_I g (22 + c) 4) (am_I g (22 + c) 5) (am_I g (22 + c) 6), fun Q => ?_, K2 _ _ _ _, S, R2 _ _ _ _, k1, f1, f2.trans e4, f3.trans e5, f4.trans e6⟩
    have sf := x_setFailed (d := d) (h := g) (o := o) (x1 := nI 5) (x2 := am_I g (22 + c) 4) (x3 := am_I g (22 + c) 5) (x4 := am_I g (22 + c) 6) O h4o
    simp (disch := first | with_reducible assumption | omega | exact Or.inl rfl | exact Or.inr rfl | exact bI_01 | exact c_cat | exact vt_ref | exact vt_null | rfl | with_reducible repeat (first | assumption | omega | apply S_I | apply S_L | apply S_D | apply ob_I | apply ob_L | apply ob_D | apply ob_R | apply ax_I | apply ax_L | apply ax_D | apply ax_R | apply o303 | apply o307 | apply o302 | apply o301 | apply ax304 | apply ax305 | apply ax306 | apply ax308 | apply ax309 | apply ax310 | apply lt_S | apply ar305 | apply ar308 | apply ar309)) only [g55_0, g55_1, g55_4, g55_4r, g55_4n, g55_7, g55_8, g55_11, g55_12, g55_13, g55_16, g55_19, g55_20, g55_23, g55_26, g55_27, g55_30, g55_33, g55_36, g55_39, g55_40, g55_43, g55_46, g55_47, g55_50, g55_51, g55_52, g55_55, g55_56, g55_57, g55_60, g55_63, g55_64, g55_67, g55_70, g55_73, g55_74, g55_77, g55_78, g55_81, g55_84, g55_87, g55_90, g55_91, g55_94, g55_95, g55_98, g55_101, g55_104, Option.toList, List.nil_append, List.cons_append, va_rf, nI_ltI, nI_leI, nI_eq, nI_add, nI_sub, nI_lt0, nI_e0, nI_m1, m1_nI, Nat.reduceEqDiff, Nat.reduceLT, Nat.reduceLeDiff, Nat.reduceAdd, Nat.reduceSub, Nat.reduceMul, ↓reduceIte, eq_self, k2, a8, sf _, reduceCtorEq]
/-- settle, where it went well -/
theorem x_settleV (A : XE h g o rr rd) (Z : KZ g) (N : NS g [v]) (kv : okV v) : ∃ g', am_run (d + 3) 55 [some (.ref 9), some (.int nb)] g none g' ∧ WO h g' o rr nb (.inl v, (e, rd)) := by
  obtain ⟨a1, S, a8, a10⟩ := A
  obtain ⟨-, O, o1, o2, oR⟩ := id a10
  have h4o : 4 ≤ o := by omega
  have z1 := Z.1
  have z2 := Z.2
  have N' : NS g ([] ++ [v]) := N
  have tl := x_topIsLong (d := d + 2) S N' (by decide)
  match v, N', kv, tl with
  | .inl x, N', _, tl =>
    rw [show isLg (.inl x) = true from rfl, bI_t] at tl
    obtain ⟨y, ey, rp, N1, F1⟩ := x_popL (d := d + 2) S N' (by decide)
    obtain rfl : x = y := Sum.inl.inj ey
    have O1 : am_ob (am_setI g 12 3 (nI 0)) o 0 := O
    refine ⟨am_setL (am_setI (am_setI g 12 3 (nI 0)) o 0 (nI 1)) o 1 x, fun Q => ?_, ?_, S, ?_, ?_, rL_eq⟩
    · simp (disch := first | with_reducible assumption | omega | exact Or.inl rfl | exact Or.inr rfl | exact bI_01 | exact c_cat | exact vt_ref | exact vt_null | rfl | with_reducible repeat (first | assumption | omega | apply S_I | apply S_L | apply S_D | apply ob_I | apply ob_L | apply ob_D | apply ob_R | apply ax_I | apply ax_L | apply ax_D | apply ax_R | apply o303 | apply o307 | apply o302 | apply o301 | apply ax304 | apply ax305 | apply ax306 | apply ax308 | apply ax309 | apply ax310 | apply lt_S | apply ar305 | apply ar308 | apply ar309)) only [g55_0, g55_1, g55_4, g55_4r, g55_4n, g55_7, g55_8, g55_11, g55_12, g55_13, g55_16, g55_19, g55_20, g55_23, g55_26, g55_27, g55_30, g55_33, g55_36, g55_39, g55_40, g55_43, g55_46, g55_47, g55_50, g55_51, g55_52, g55_55, g55_56, g55_57, g55_60, g55_63, g55_64, g55_67, g55_70, g55_73, g55_74, g55_77, g55_78, g55_81, g55_84, g55_87, g55_90, g55_91, g55_94, g55_95, g55_98, g55_101, g55_104, g1_0, g1_1, g1_2, g1_5, g1_6, g1_7, g1_10, Option.toList, List.nil_append, List.cons_append, va_rf, nI_ltI, nI_leI, nI_eq, nI_add, nI_sub, nI_lt0, nI_e0, nI_m1, m1_nI, Nat.reduceEqDiff, Nat.reduceLT, Nat.reduceLeDiff, Nat.reduceAdd, Nat.reduceSub, Nat.reduceMul, ↓reduceIte, eq_self, z2, z1, a8, tl _, rp _, List.length_nil]
    · exact kp_L (kp_I (kp_I (kp_wo a1) (Or.inl (Or.inr (Or.inl ⟨by decide, by decide⟩)))) (wo_p (by decide) (by decide))) (wo_p (by decide) (by decide))
    · refine RDx_own a10 ?_ rfl (fun _ _ => rfl) (Nat.le_refl _) (fun a q k => ?_)
      · rw [hI_L, rI_k (by decide), rI_a (by omega)]
      · have := (oR a q).1
        rw [hI_L, rI_a (by omega), rI_a (by omega)]
    · rw [hI_L, rI_eq]
  | .inr x, N', kx, tl =>
    rw [show isLg (.inr x) = false from rfl, bI_f] at tl
    obtain ⟨rp, N1, F1⟩ := x_popD (d := d + 1) S N' (by decide)
    have rp : am_run (d + 1 + 1) 58 [some (.ref 12)] g (some (.double x)) (am_setI g 12 3 (nI 0)) := rp
    have O1 : am_ob (am_setI g 12 3 (nI 0)) o 0 := O
    have sd := x_setDouble (d := d) (h := am_setI g 12 3 (nI 0)) (b := o) O1 h4o kx
    refine ⟨am_setL (am_setD (am_setI (am_setI g 12 3 (nI 0)) o 0 (nI 2)) o 2 x) o 1 x.toInt64, fun Q => ?_, ?_, S, ?_, ?_, ?_, rL_eq, kx⟩
    · simp (disch := first | with_reducible assumption | omega | exact Or.inl rfl | exact Or.inr rfl | exact bI_01 | exact c_cat | exact vt_ref | exact vt_null | rfl | with_reducible repeat (first | assumption | omega | apply S_I | apply S_L | apply S_D | apply ob_I | apply ob_L | apply ob_D | apply ob_R | apply ax_I | apply ax_L | apply ax_D | apply ax_R | apply o303 | apply o307 | apply o302 | apply o301 | apply ax304 | apply ax305 | apply ax306 | apply ax308 | apply ax309 | apply ax310 | apply lt_S | apply ar305 | apply ar308 | apply ar309)) only [g55_0, g55_1, g55_4, g55_4r, g55_4n, g55_7, g55_8, g55_11, g55_12, g55_13, g55_16, g55_19, g55_20, g55_23, g55_26, g55_27, g55_30, g55_33, g55_36, g55_39, g55_40, g55_43, g55_46, g55_47, g55_50, g55_51, g55_52, g55_55, g55_56, g55_57, g55_60, g55_63, g55_64, g55_67, g55_70, g55_73, g55_74, g55_77, g55_78, g55_81, g55_84, g55_87, g55_90, g55_91, g55_94, g55_95, g55_98, g55_101, g55_104, Option.toList, List.nil_append, List.cons_append, va_rf, nI_ltI, nI_leI, nI_eq, nI_add, nI_sub, nI_lt0, nI_e0, nI_m1, m1_nI, Nat.reduceEqDiff, Nat.reduceLT, Nat.reduceLeDiff, Nat.reduceAdd, Nat.reduceSub, Nat.reduceMul, ↓reduceIte, eq_self, z2, z1, a8, tl _, rp _, sd _]
    · exact kp_L (kp_D (kp_I (kp_I (kp_wo a1) (Or.inl (Or.inr (Or.inl ⟨by decide, by decide⟩)))) (wo_p (by decide) (by decide))) (wo_p (by decide) (by decide))) (wo_p (by decide) (by decide))
    · refine RDx_own a10 ?_ rfl (fun _ _ => rfl) (Nat.le_refl _) (fun a q k => ?_)
      · rw [hI_L, hI_D, rI_k (by decide), rI_a (by omega)]
      · have := (oR a q).1
        rw [hI_L, hI_D, rI_a (by omega), rI_a (by omega)]
    · rw [hI_L, hI_D, rI_eq]
    · rw [hD_L, rD_eq]
/-- the machine has stopped -/
theorem XE_of (A : XS h g o rr sa dp ts σ) : XE h g o rr σ.2 := by
  obtain ⟨a1, S, -, -, -, -, -, a8, -, a10⟩ := A
  exact ⟨a1, S, a8, a10⟩
theorem XE_stop (A : XE h g o rr rd) : XE h (am_setI g 9 12 x1) o rr rd := by
  obtain ⟨a1, S, a8, a10⟩ := A
  obtain ⟨-, -, o1, o2, oR⟩ := id a10
  exact ⟨kp_I a1 (Or.inl ⟨rfl, by decide⟩), S, a8, RDx_own a10 (rI_a (by omega)) rfl (fun _ _ => rfl) (Nat.le_refl _) (fun a q k => rI_a (by have := (oR a q).1; omega))⟩
end XOV

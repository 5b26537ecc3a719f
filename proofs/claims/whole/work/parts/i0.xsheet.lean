/-! THE CLASS: a sheet's constants, changed or not, begun anew -/
/-- the constants as the class has them -/
def CSx (g : am_H) (s nc nf : Nat) (ce : Nat → Nat) (Gc : Nat → List (Nat × Nat)) : Prop := s < 4 ∧ nc ≤ 5 ∧ am_I g (321 + 7 * s) 1 = nI nc ∧ ∀ i, i < nc → am_R g (323 + 7 * s + i) 3 = some (ce i) ∧ 402 ≤ ce i ∧ am_ob g (ce i) 1 ∧ am_I g (ce i) 8 = (Gc i).foldl gF (nI 0) ∧ ∀ z, z ∈ Gc i → z.1 < nf
section XSH
variable {d s nc nf : Nat} {g h : am_H} {ce : Nat → Nat} {Gc : Nat → List (Nat × Nat)} {x : Int32} {r : Nat → Bool} {tl : Bool}
theorem x_isChanged (S : am_S g) (C : CSx g s nc nf ce Gc) (n8 : nf ≤ 8) (B : SB x r) (e2 : am_I g (321 + 7 * s) 2 = bI tl) : am_run d 131 [some (.ref (321 + 7 * s)), some (.int x), none, none, none] g (some (.int (bI (tl || orU (fun i => hit r (Gc i)) nc)))) g := by
  obtain ⟨s4, n5, e1, H⟩ := C
  obtain ⟨O, R, A⟩ := o321 S s4
  have L : ∀ q i v, nc - i = q → i ≤ nc → ∀ Q, am_J d 131 7 [some (.ref (321 + 7 * s)), some (.int x), some (.int (bI (tl || orU (fun i => hit r (Gc i)) i))), some (.int (nI i)), v] [] g Q ↔ Q (some (.int (bI (tl || orU (fun i => hit r (Gc i)) nc)))) g := by
    intro q
    induction q with
    | zero =>
      intro i v hq hi Q
      obtain rfl : i = nc := by omega
      rw [g131_7]
      simp (disch := first | with_reducible assumption | omega | exact Or.inl rfl | exact Or.inr rfl | exact bI_01 | exact c_cat | exact vt_ref | exact vt_null | rfl | with_reducible repeat (first | assumption | omega | apply S_I | apply S_L | apply S_D | apply ob_I | apply ob_L | apply ob_D | apply ob_R | apply ax_I | apply ax_L | apply ax_D | apply ax_R | apply o303 | apply o307 | apply o302 | apply o301 | apply ax304 | apply ax305 | apply ax306 | apply ax308 | apply ax309 | apply ax310 | apply lt_S | apply ar305 | apply ar308 | apply ar309)) only [g131_8, g131_9, g131_12, g131_49, g131_50, Option.toList, List.nil_append, List.cons_append, va_rf, nI_ltI, nI_leI, nI_eq, nI_add, nI_sub, nI_lt0, nI_e0, nI_m1, m1_nI, Nat.reduceEqDiff, Nat.reduceLT, Nat.reduceLeDiff, Nat.reduceAdd, Nat.reduceSub, Nat.reduceMul, ↓reduceIte, eq_self, e1, Nat.le_refl]
    | succ q ih =>
      intro i v hq hi Q
      obtain ⟨a1, a2, a3, a4, a5⟩ := H i (by omega)
      obtain ⟨A1, A2, A3⟩ := A i (by omega)
      have hz := SB_hit (G := Gc i) B (fun z hz => by have := a5 z hz; omega)
      rw [← a4, nI0] at hz
      rw [← ih (i + 1) (some (.ref (ce i))) (by omega) (by omega) Q, g131_7]
      have e : orU (fun i => hit r (Gc i)) (i + 1) = (orU (fun i => hit r (Gc i)) i || hit r (Gc i)) := rfl
      rw [e]
      cases hh : hit r (Gc i) with
      | true =>
        have hz : ¬ am_I g (ce i) 8 &&& x = 0 := fun q => by rw [hz.mp q] at hh; cases hh
        simp (disch := first | with_reducible assumption | omega | exact Or.inl rfl | exact Or.inr rfl | exact bI_01 | exact c_cat | exact vt_ref | exact vt_null | rfl | with_reducible repeat (first | assumption | omega | apply S_I | apply S_L | apply S_D | apply ob_I | apply ob_L | apply ob_D | apply ob_R | apply ax_I | apply ax_L | apply ax_D | apply ax_R | apply o303 | apply o307 | apply o302 | apply o301 | apply ax304 | apply ax305 | apply ax306 | apply ax308 | apply ax309 | apply ax310 | apply lt_S | apply ar305 | apply ar308 | apply ar309)) only [g131_8, g131_9, g131_12, g131_15, g131_16, g131_19, g131_20, g131_21, g131_24, g131_26, g131_28, g131_28r, g131_28n, g131_31, g131_33, g131_36, g131_37, g131_38, g131_41, g131_42, g131_43, g131_46, Option.toList, List.nil_append, List.cons_append, va_rf, nI_ltI, nI_leI, nI_eq, nI_add, nI_sub, nI_lt0, nI_e0, nI_m1, m1_nI, Nat.reduceEqDiff, Nat.reduceLT, Nat.reduceLeDiff, Nat.reduceAdd, Nat.reduceSub, Nat.reduceMul, ↓reduceIte, eq_self, e1, show ¬ nc ≤ i by omega, R, A2, a1, hz, Bool.or_true, bI_t]
      | false =>
        have hz : am_I g (ce i) 8 &&& x = 0 := hz.mpr hh
        simp (disch := first | with_reducible assumption | omega | exact Or.inl rfl | exact Or.inr rfl | exact bI_01 | exact c_cat | exact vt_ref | exact vt_null | rfl | with_reducible repeat (first | assumption | omega | apply S_I | apply S_L | apply S_D | apply ob_I | apply ob_L | apply ob_D | apply ob_R | apply ax_I | apply ax_L | apply ax_D | apply ax_R | apply o303 | apply o307 | apply o302 | apply o301 | apply ax304 | apply ax305 | apply ax306 | apply ax308 | apply ax309 | apply ax310 | apply lt_S | apply ar305 | apply ar308 | apply ar309)) only [g131_8, g131_9, g131_12, g131_15, g131_16, g131_19, g131_20, g131_21, g131_24, g131_26, g131_28, g131_28r, g131_28n, g131_31, g131_33, g131_36, g131_37, g131_38, g131_41, g131_42, g131_43, g131_46, Option.toList, List.nil_append, List.cons_append, va_rf, nI_ltI, nI_leI, nI_eq, nI_add, nI_sub, nI_lt0, nI_e0, nI_m1, m1_nI, Nat.reduceEqDiff, Nat.reduceLT, Nat.reduceLeDiff, Nat.reduceAdd, Nat.reduceSub, Nat.reduceMul, ↓reduceIte, eq_self, e1, show ¬ nc ≤ i by omega, R, A2, a1, hz, Bool.or_false]
  intro Q
  rw [← L nc 0 none (Nat.sub_zero _) (Nat.zero_le _) Q]
  simp (disch := first | with_reducible assumption | omega | exact Or.inl rfl | exact Or.inr rfl | exact bI_01 | exact c_cat | exact vt_ref | exact vt_null | rfl | with_reducible repeat (first | assumption | omega | apply S_I | apply S_L | apply S_D | apply ob_I | apply ob_L | apply ob_D | apply ob_R | apply ax_I | apply ax_L | apply ax_D | apply ax_R | apply o303 | apply o307 | apply o302 | apply o301 | apply ax304 | apply ax305 | apply ax306 | apply ax308 | apply ax309 | apply ax310 | apply lt_S | apply ar305 | apply ar308 | apply ar309)) only [g131_0, g131_1, g131_4, g131_5, g131_6, Option.toList, List.nil_append, List.cons_append, va_rf, e2, show orU (fun i => hit r (Gc i)) 0 = false from rfl, Bool.or_false]
def pXc (s a k : Nat) : Prop := (a = 9 ∧ 9 ≤ k) ∨ (12 ≤ a ∧ a ≤ 15) ∨ (17 ≤ a ∧ a ≤ 21) ∨ (278 ≤ a ∧ a ≤ 299) ∨ (a = 321 + 7 * s ∧ 2 ≤ k) ∨ (323 + 7 * s ≤ a ∧ a < 328 + 7 * s ∧ k ≠ 3 ∧ k ≠ 8)
/-- begun anew, up to the i-th -/
def BAx (s : Nat) (h g : am_H) (i : Nat) : Prop := am_fr (fun a => a = 321 + 7 * s ∨ (323 + 7 * s ≤ a ∧ a < 328 + 7 * s)) h g ∧ (∀ k, k ≠ 2 → k ≠ 3 → k ≠ 4 → am_I g (321 + 7 * s) k = am_I h (321 + 7 * s) k) ∧ am_I g (321 + 7 * s) 2 = nI 0 ∧ am_I g (321 + 7 * s) 3 = nI 0 ∧ am_I g (321 + 7 * s) 4 = am_I h (321 + 7 * s) 4 + nI 1 ∧ (∀ j, j < i → am_I g (323 + 7 * s + j) 0 = nI 0) ∧ kp (pXc s) h g
theorem x_beginAnew (S : am_S h) (s4 : s < 4) (n5 : nc ≤ 5) (e1 : am_I h (321 + 7 * s) 1 = nI nc) : ∃ g, am_run (d + 1) 132 [some (.ref (321 + 7 * s)), none] h none g ∧ BAx s h g nc := by
  have L : ∀ q i g, nc - i = q → i ≤ nc → BAx s h g i → ∃ g', BAx s h g' nc ∧ ∀ Q, am_J (d + 1) 132 22 [some (.ref (321 + 7 * s)), some (.int (nI i))] [] g Q ↔ Q none g' := by
    intro q
    induction q with
    | zero =>
      intro i g hq hi B
      obtain rfl : i = nc := by omega
      have Sg := fr_S B.1 S
      obtain ⟨O, R, A⟩ := o321 Sg s4
      have e1' : am_I g (321 + 7 * s) 1 = nI i := (B.2.1 1 (by decide) (by decide) (by decide)).trans e1
      refine ⟨g, B, fun Q => ?_⟩
      rw [g132_22]
      simp (disch := first | with_reducible assumption | omega | exact Or.inl rfl | exact Or.inr rfl | exact bI_01 | exact c_cat | exact vt_ref | exact vt_null | rfl | with_reducible repeat (first | assumption | omega | apply S_I | apply S_L | apply S_D | apply ob_I | apply ob_L | apply ob_D | apply ob_R | apply ax_I | apply ax_L | apply ax_D | apply ax_R | apply o303 | apply o307 | apply o302 | apply o301 | apply ax304 | apply ax305 | apply ax306 | apply ax308 | apply ax309 | apply ax310 | apply lt_S | apply ar305 | apply ar308 | apply ar309)) only [g132_23, g132_24, g132_27, g132_46, Option.toList, List.nil_append, List.cons_append, va_rf, nI_ltI, nI_leI, nI_eq, nI_add, nI_sub, nI_lt0, nI_e0, nI_m1, m1_nI, Nat.reduceEqDiff, Nat.reduceLT, Nat.reduceLeDiff, Nat.reduceAdd, Nat.reduceSub, Nat.reduceMul, ↓reduceIte, eq_self, e1', Nat.le_refl]
    | succ q ih =>
      intro i g hq hi B
      have Sg := fr_S B.1 S
      obtain ⟨O, R, A⟩ := o321 Sg s4
      obtain ⟨A1, A2, A3⟩ := A i (by omega)
      obtain ⟨b1, b2, b3, b4, b5, b6, b7⟩ := B
      have e1' : am_I g (321 + 7 * s) 1 = nI nc := (b2 1 (by decide) (by decide) (by decide)).trans e1
      have n1 : 321 + 7 * s ≠ 323 + 7 * s + i := by omega
      have h4 : 4 ≤ 323 + 7 * s + i := by omega
      obtain ⟨g', B', R'⟩ := ih (i + 1) (am_setL (am_setI g (323 + 7 * s + i) 0 (nI 0)) (323 + 7 * s + i) 1 (lN 0)) (by omega) (by omega) ⟨fr_L (fr_I b1 (by omega)) (by omega), fun k h1 h2 h3 => by rw [hI_L, rI_a n1]; exact b2 k h1 h2 h3, by rw [hI_L, rI_a n1]; exact b3, by rw [hI_L, rI_a n1]; exact b4, by rw [hI_L, rI_a n1]; exact b5, fun j hj => (by
        rw [hI_L]
        by_cases e : j = i
        · rw [e, rI_eq]
        · rw [rI_a (by omega)]; exact b6 j (by omega)), kp_L (kp_I b7 (by unfold pXc; omega)) (by unfold pXc; omega)⟩
      refine ⟨g', B', fun Q => ?_⟩
      rw [← R' Q, g132_22]
      simp (disch := first | with_reducible assumption | omega | exact Or.inl rfl | exact Or.inr rfl | exact bI_01 | exact c_cat | exact vt_ref | exact vt_null | rfl | with_reducible repeat (first | assumption | omega | apply S_I | apply S_L | apply S_D | apply ob_I | apply ob_L | apply ob_D | apply ob_R | apply ax_I | apply ax_L | apply ax_D | apply ax_R | apply o303 | apply o307 | apply o302 | apply o301 | apply ax304 | apply ax305 | apply ax306 | apply ax308 | apply ax309 | apply ax310 | apply lt_S | apply ar305 | apply ar308 | apply ar309)) only [g132_23, g132_24, g132_27, g132_30, g132_31, g132_34, g132_35, g132_36, g132_37, g132_40, g132_43, g3_0, g3_1, g3_2, g3_5, g3_6, g3_7, g3_10, Option.toList, List.nil_append, List.cons_append, va_rf, nI_ltI, nI_leI, nI_eq, nI_add, nI_sub, nI_lt0, nI_e0, nI_m1, m1_nI, Nat.reduceEqDiff, Nat.reduceLT, Nat.reduceLeDiff, Nat.reduceAdd, Nat.reduceSub, Nat.reduceMul, ↓reduceIte, eq_self, e1', show ¬ nc ≤ i by omega, R, A2]
  obtain ⟨O, R, A⟩ := o321 S s4
  have h4 : 4 ≤ 321 + 7 * s := by omega
  obtain ⟨g', B', R'⟩ := L nc 0 (am_setI (am_setI (am_setI h (321 + 7 * s) 2 (nI 0)) (321 + 7 * s) 3 (nI 0)) (321 + 7 * s) 4 (am_I h (321 + 7 * s) 4 + nI 1)) (Nat.sub_zero _) (Nat.zero_le _) ⟨fr_I (fr_I (fr_I fr_refl (Or.inl rfl)) (Or.inl rfl)) (Or.inl rfl), fun k h1 h2 h3 => by rw [rI_k h3, rI_k h2, rI_k h1], by rw [rI_k (by decide), rI_k (by decide), rI_eq], by rw [rI_k (by decide), rI_eq], rI_eq, fun j hj => absurd hj (Nat.not_lt_zero _), kp_I (kp_I (kp_I kp_refl (by unfold pXc; omega)) (by unfold pXc; omega)) (by unfold pXc; omega)⟩
  refine ⟨g', fun Q => ?_, B'⟩
  rw [← R' Q]
  simp (disch := first | with_reducible assumption | omega | exact Or.inl rfl | exact Or.inr rfl | exact bI_01 | exact c_cat | exact vt_ref | exact vt_null | rfl | with_reducible repeat (first | assumption | omega | apply S_I | apply S_L | apply S_D | apply ob_I | apply ob_L | apply ob_D | apply ob_R | apply ax_I | apply ax_L | apply ax_D | apply ax_R | apply o303 | apply o307 | apply o302 | apply o301 | apply ax304 | apply ax305 | apply ax306 | apply ax308 | apply ax309 | apply ax310 | apply lt_S | apply ar305 | apply ar308 | apply ar309)) only [g132_0, g132_1, g132_2, g132_5, g132_6, g132_7, g132_10, g132_11, g132_12, g132_15, g132_16, g132_17, g132_20, g132_21, Option.toList, List.nil_append, List.cons_append, va_rf, rI_k (show (4 : Nat) ≠ 3 by decide), rI_k (show (4 : Nat) ≠ 2 by decide)]
end XSH

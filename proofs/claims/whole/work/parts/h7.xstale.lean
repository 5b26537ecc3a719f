/-! THE CLASS: the functions that are stale -/
theorem nI0 : nI 0 = (0 : Int32) := by decide
theorem bI_e0 {b : Bool} : (bI b = 0) = (b = false) := propext (by cases b <;> decide)
/-- or, from below -/
def orU (w : Nat → Bool) : Nat → Bool
  | 0 => false
  | n + 1 => orU w n || w n
theorem orU_iff {w : Nat → Bool} : ∀ n, orU w n = true ↔ ∃ i, i < n ∧ w i = true := by
  intro n
  induction n with
  | zero => exact ⟨fun q => (by cases q), fun ⟨i, hi, _⟩ => absurd hi (Nat.not_lt_zero _)⟩
  | succ n ih =>
    show (orU w n || w n) = true ↔ _
    rw [Bool.or_eq_true, ih]
    constructor
    · rintro (⟨i, h1, h2⟩ | h)
      · exact ⟨i, by omega, h2⟩
      · exact ⟨n, by omega, h⟩
    · rintro ⟨i, h1, h2⟩
      by_cases e : i = n
      · subst e; exact Or.inr h2
      · exact Or.inl ⟨i, by omega, h2⟩
theorem orU_up {w : Nat → Bool} {k : Nat} (h : orU w k = true) : ∀ n, k ≤ n → orU w n = true := fun n hn => by
  obtain ⟨i, h1, h2⟩ := (orU_iff k).mp h
  exact (orU_iff n).mpr ⟨i, by omega, h2⟩
/-- the functions as the class has them -/
def FS (g : am_H) (nf : Nat) (fe : Nat → Nat) (Gf : Nat → List (Nat × Nat)) (ft : Nat → Bool) : Prop := nf ≤ 8 ∧ am_I g 4 10 = nI nf ∧ ∀ i, i < nf → am_R g 11 i = some (fe i) ∧ 402 ≤ fe i ∧ am_ob g (fe i) 1 ∧ am_I g (fe i) 8 = (Gf i).foldl gF (nI 0) ∧ am_I g (fe i) 11 = bI (ft i) ∧ ∀ z, z ∈ Gf i → z.1 < nf
theorem SB_ext {x : Int32} {r t : Nat → Bool} (h : SB x r) (e : ∀ j, j < 32 → r j = t j) : SB x t := fun j hj => (h j hj).trans (e j hj)
section XST
variable {d nf : Nat} {g : am_H} {fe : Nat → Nat} {Gf : Nat → List (Nat × Nat)} {ft : Nat → Bool} {v : Option Value}
theorem x_stale1 (S : am_S g) (F : FS g nf fe Gf ft) : ∀ r i s, nf - i = r → i ≤ nf → SB s (fun j => decide (j < i) && ft j) → ∃ s', SB s' (fun j => decide (j < nf) && ft j) ∧ ∀ Q, am_J d 155 4 [some (.ref 4), some (.int s), some (.int (nI i)), v] [] g Q ↔ am_J d 155 45 [some (.ref 4), some (.int s'), some (.int (nI nf)), v] [] g Q := by
  obtain ⟨f8, f1, f2⟩ := id F
  intro r
  induction r with
  | zero =>
    intro i s hr hi B
    obtain rfl : i = nf := by omega
    refine ⟨s, B, fun Q => ?_⟩
    rw [g155_4]
    simp (disch := first | with_reducible assumption | omega | exact Or.inl rfl | exact Or.inr rfl | exact bI_01 | exact c_cat | exact vt_ref | exact vt_null | rfl | with_reducible repeat (first | assumption | omega | apply S_I | apply S_L | apply S_D | apply ob_I | apply ob_L | apply ob_D | apply ob_R | apply ax_I | apply ax_L | apply ax_D | apply ax_R | apply o303 | apply o307 | apply o302 | apply o301 | apply ax304 | apply ax305 | apply ax306 | apply ax308 | apply ax309 | apply ax310 | apply lt_S | apply ar305 | apply ar308 | apply ar309)) only [g155_5, g155_6, g155_9, Option.toList, List.nil_append, List.cons_append, va_rf, nI_ltI, nI_leI, nI_eq, nI_add, nI_sub, nI_lt0, nI_e0, nI_m1, m1_nI, Nat.reduceEqDiff, Nat.reduceLT, Nat.reduceLeDiff, Nat.reduceAdd, Nat.reduceSub, Nat.reduceMul, ↓reduceIte, eq_self, f1, Nat.le_refl]
  | succ r ih =>
    intro i s hr hi B
    obtain ⟨a1, a2, a3, a4, a5, -⟩ := f2 i (by omega)
    cases hf : ft i with
    | true =>
      rw [hf, bI_t] at a5
      obtain ⟨s', B', R⟩ := ih (i + 1) (s ||| (nI 1 <<< (nI i &&& 31))) (by omega) (by omega) (SB_ext (SB_or B (by omega)) (fun j hj => by
        by_cases e : j = i
        · subst e; rw [hf]; simp
        · by_cases c : j < i
          · rw [decide_eq_true c, decide_eq_true (show j < i + 1 by omega), decide_eq_false e, Bool.or_false]
          · rw [decide_eq_false c, decide_eq_false (show ¬ j < i + 1 by omega), decide_eq_false e]; rfl))
      refine ⟨s', B', fun Q => ?_⟩
      rw [← R Q, g155_4]
      simp (disch := first | with_reducible assumption | omega | exact Or.inl rfl | exact Or.inr rfl | exact bI_01 | exact c_cat | exact vt_ref | exact vt_null | rfl | with_reducible repeat (first | assumption | omega | apply S_I | apply S_L | apply S_D | apply ob_I | apply ob_L | apply ob_D | apply ob_R | apply ax_I | apply ax_L | apply ax_D | apply ax_R | apply o303 | apply o307 | apply o302 | apply o301 | apply ax304 | apply ax305 | apply ax306 | apply ax308 | apply ax309 | apply ax310 | apply lt_S | apply ar305 | apply ar308 | apply ar309)) only [g155_5, g155_6, g155_9, g155_12, g155_13, g155_16, g155_17, g155_18, g155_18r, g155_18n, g155_21, g155_22, g155_25, g155_26, g155_27, g155_30, g155_33, g155_34, g155_35, g155_36, g155_37, g155_38, g155_39, g155_42, Option.toList, List.nil_append, List.cons_append, va_rf, nI_ltI, nI_leI, nI_eq, nI_add, nI_sub, nI_lt0, nI_e0, nI_m1, m1_nI, Nat.reduceEqDiff, Nat.reduceLT, Nat.reduceLeDiff, Nat.reduceAdd, Nat.reduceSub, Nat.reduceMul, ↓reduceIte, eq_self, f1, show ¬ nf ≤ i by omega, a1, a5]
    | false =>
      rw [hf, bI_f] at a5
      obtain ⟨s', B', R⟩ := ih (i + 1) s (by omega) (by omega) (SB_ext B (fun j hj => by
        by_cases e : j = i
        · subst e; rw [hf]; simp
        · by_cases c : j < i
          · rw [decide_eq_true c, decide_eq_true (show j < i + 1 by omega)]
          · rw [decide_eq_false c, decide_eq_false (show ¬ j < i + 1 by omega)]))
      refine ⟨s', B', fun Q => ?_⟩
      rw [← R Q, g155_4]
      simp (disch := first | with_reducible assumption | omega | exact Or.inl rfl | exact Or.inr rfl | exact bI_01 | exact c_cat | exact vt_ref | exact vt_null | rfl | with_reducible repeat (first | assumption | omega | apply S_I | apply S_L | apply S_D | apply ob_I | apply ob_L | apply ob_D | apply ob_R | apply ax_I | apply ax_L | apply ax_D | apply ax_R | apply o303 | apply o307 | apply o302 | apply o301 | apply ax304 | apply ax305 | apply ax306 | apply ax308 | apply ax309 | apply ax310 | apply lt_S | apply ar305 | apply ar308 | apply ar309)) only [g155_5, g155_6, g155_9, g155_12, g155_13, g155_16, g155_17, g155_18, g155_18r, g155_18n, g155_21, g155_22, g155_25, g155_26, g155_27, g155_30, g155_33, g155_34, g155_35, g155_36, g155_37, g155_38, g155_39, g155_42, Option.toList, List.nil_append, List.cons_append, va_rf, nI_ltI, nI_leI, nI_eq, nI_add, nI_sub, nI_lt0, nI_e0, nI_m1, m1_nI, Nat.reduceEqDiff, Nat.reduceLT, Nat.reduceLeDiff, Nat.reduceAdd, Nat.reduceSub, Nat.reduceMul, ↓reduceIte, eq_self, f1, show ¬ nf ≤ i by omega, a1, a5]
theorem x_stale2 (S : am_S g) (F : FS g nf fe Gf ft) {R0 : Nat → Bool} {k : Nat} : ∀ r i s, nf - i = r → i ≤ nf → SB s (pas Gf R0 i) → ∃ s', SB s' (pas Gf R0 nf) ∧ ∀ Q, am_J d 155 55 [some (.ref 4), some (.int s), some (.int (nI k)), some (.int (nI i))] [] g Q ↔ am_J d 155 98 [some (.ref 4), some (.int s'), some (.int (nI k)), some (.int (nI nf))] [] g Q := by
  obtain ⟨f8, f1, f2⟩ := id F
  intro r
  induction r with
  | zero =>
    intro i s hr hi B
    obtain rfl : i = nf := by omega
    refine ⟨s, B, fun Q => ?_⟩
    rw [g155_55]
    simp (disch := first | with_reducible assumption | omega | exact Or.inl rfl | exact Or.inr rfl | exact bI_01 | exact c_cat | exact vt_ref | exact vt_null | rfl | with_reducible repeat (first | assumption | omega | apply S_I | apply S_L | apply S_D | apply ob_I | apply ob_L | apply ob_D | apply ob_R | apply ax_I | apply ax_L | apply ax_D | apply ax_R | apply o303 | apply o307 | apply o302 | apply o301 | apply ax304 | apply ax305 | apply ax306 | apply ax308 | apply ax309 | apply ax310 | apply lt_S | apply ar305 | apply ar308 | apply ar309)) only [g155_56, g155_57, g155_60, Option.toList, List.nil_append, List.cons_append, va_rf, nI_ltI, nI_leI, nI_eq, nI_add, nI_sub, nI_lt0, nI_e0, nI_m1, m1_nI, Nat.reduceEqDiff, Nat.reduceLT, Nat.reduceLeDiff, Nat.reduceAdd, Nat.reduceSub, Nat.reduceMul, ↓reduceIte, eq_self, f1, Nat.le_refl]
  | succ r ih =>
    intro i s hr hi B
    obtain ⟨a1, a2, a3, a4, a5, a6⟩ := f2 i (by omega)
    have hz := SB_hit (G := Gf i) B (fun z hz => by have := a6 z hz; omega)
    rw [← a4, nI0] at hz
    cases hh : hit (pas Gf R0 i) (Gf i) with
    | true =>
      have hz : ¬ am_I g (fe i) 8 &&& s = 0 := fun q => by rw [hz.mp q] at hh; cases hh
      obtain ⟨s', B', R⟩ := ih (i + 1) (s ||| (nI 1 <<< (nI i &&& 31))) (by omega) (by omega) (SB_ext (SB_or B (by omega)) (fun j hj => by
        show _ = (pas Gf R0 i j || (hit (pas Gf R0 i) (Gf i) && decide (j = i)))
        rw [hh, Bool.true_and]))
      refine ⟨s', B', fun Q => ?_⟩
      rw [← R Q, g155_55]
      simp (disch := first | with_reducible assumption | omega | exact Or.inl rfl | exact Or.inr rfl | exact bI_01 | exact c_cat | exact vt_ref | exact vt_null | rfl | with_reducible repeat (first | assumption | omega | apply S_I | apply S_L | apply S_D | apply ob_I | apply ob_L | apply ob_D | apply ob_R | apply ax_I | apply ax_L | apply ax_D | apply ax_R | apply o303 | apply o307 | apply o302 | apply o301 | apply ax304 | apply ax305 | apply ax306 | apply ax308 | apply ax309 | apply ax310 | apply lt_S | apply ar305 | apply ar308 | apply ar309)) only [g155_56, g155_57, g155_60, g155_63, g155_64, g155_67, g155_68, g155_69, g155_69r, g155_69n, g155_72, g155_73, g155_76, g155_77, g155_78, g155_81, g155_82, g155_83, g155_86, g155_87, g155_88, g155_89, g155_90, g155_91, g155_92, g155_95, Option.toList, List.nil_append, List.cons_append, va_rf, nI_ltI, nI_leI, nI_eq, nI_add, nI_sub, nI_lt0, nI_e0, nI_m1, m1_nI, Nat.reduceEqDiff, Nat.reduceLT, Nat.reduceLeDiff, Nat.reduceAdd, Nat.reduceSub, Nat.reduceMul, ↓reduceIte, eq_self, f1, show ¬ nf ≤ i by omega, a1, hz]
    | false =>
      have hz : am_I g (fe i) 8 &&& s = 0 := hz.mpr hh
      obtain ⟨s', B', R⟩ := ih (i + 1) s (by omega) (by omega) (SB_ext B (fun j hj => by
        show _ = (pas Gf R0 i j || (hit (pas Gf R0 i) (Gf i) && decide (j = i)))
        rw [hh, Bool.false_and, Bool.or_false]))
      refine ⟨s', B', fun Q => ?_⟩
      rw [← R Q, g155_55]
      simp (disch := first | with_reducible assumption | omega | exact Or.inl rfl | exact Or.inr rfl | exact bI_01 | exact c_cat | exact vt_ref | exact vt_null | rfl | with_reducible repeat (first | assumption | omega | apply S_I | apply S_L | apply S_D | apply ob_I | apply ob_L | apply ob_D | apply ob_R | apply ax_I | apply ax_L | apply ax_D | apply ax_R | apply o303 | apply o307 | apply o302 | apply o301 | apply ax304 | apply ax305 | apply ax306 | apply ax308 | apply ax309 | apply ax310 | apply lt_S | apply ar305 | apply ar308 | apply ar309)) only [g155_56, g155_57, g155_60, g155_63, g155_64, g155_67, g155_68, g155_69, g155_69r, g155_69n, g155_72, g155_73, g155_76, g155_77, g155_78, g155_81, g155_82, g155_83, g155_86, g155_87, g155_88, g155_89, g155_90, g155_91, g155_92, g155_95, Option.toList, List.nil_append, List.cons_append, va_rf, nI_ltI, nI_leI, nI_eq, nI_add, nI_sub, nI_lt0, nI_e0, nI_m1, m1_nI, Nat.reduceEqDiff, Nat.reduceLT, Nat.reduceLeDiff, Nat.reduceAdd, Nat.reduceSub, Nat.reduceMul, ↓reduceIte, eq_self, f1, show ¬ nf ≤ i by omega, a1, hz]
theorem x_stale3 (S : am_S g) (F : FS g nf fe Gf ft) {R0 : Nat → Bool} : ∀ r k s v, 8 - k = r → k ≤ 8 → SB s (rds Gf nf R0 k) → ∃ s', SB s' (rds Gf nf R0 8) ∧ ∃ v', ∀ Q, am_J d 155 47 [some (.ref 4), some (.int s), some (.int (nI k)), v] [] g Q ↔ am_J d 155 104 [some (.ref 4), some (.int s'), some (.int (nI 8)), v'] [] g Q := by
  intro r
  induction r with
  | zero =>
    intro k s v hr hi B
    obtain rfl : k = 8 := by omega
    refine ⟨s, B, v, fun Q => ?_⟩
    rw [g155_47]
    simp (disch := first | with_reducible assumption | omega | exact Or.inl rfl | exact Or.inr rfl | exact bI_01 | exact c_cat | exact vt_ref | exact vt_null | rfl | with_reducible repeat (first | assumption | omega | apply S_I | apply S_L | apply S_D | apply ob_I | apply ob_L | apply ob_D | apply ob_R | apply ax_I | apply ax_L | apply ax_D | apply ax_R | apply o303 | apply o307 | apply o302 | apply o301 | apply ax304 | apply ax305 | apply ax306 | apply ax308 | apply ax309 | apply ax310 | apply lt_S | apply ar305 | apply ar308 | apply ar309)) only [g155_48, g155_50, Option.toList, List.nil_append, List.cons_append, va_rf, nI_ltI, nI_leI, nI_eq, nI_add, nI_sub, nI_lt0, nI_e0, nI_m1, m1_nI, Nat.reduceEqDiff, Nat.reduceLT, Nat.reduceLeDiff, Nat.reduceAdd, Nat.reduceSub, Nat.reduceMul, ↓reduceIte, eq_self, Nat.le_refl]
  | succ r ih =>
    intro k s v hr hi B
    obtain ⟨s1, B1, R1⟩ := x_stale2 (d := d) (k := k) S F nf 0 s (Nat.sub_zero _) (Nat.zero_le _) B
    obtain ⟨s', B', v', R⟩ := ih (k + 1) s1 (some (.int (nI nf))) (by omega) (by omega) B1
    refine ⟨s', B', v', fun Q => ?_⟩
    rw [← R Q, g155_47]
    simp (disch := first | with_reducible assumption | omega | exact Or.inl rfl | exact Or.inr rfl | exact bI_01 | exact c_cat | exact vt_ref | exact vt_null | rfl | with_reducible repeat (first | assumption | omega | apply S_I | apply S_L | apply S_D | apply ob_I | apply ob_L | apply ob_D | apply ob_R | apply ax_I | apply ax_L | apply ax_D | apply ax_R | apply o303 | apply o307 | apply o302 | apply o301 | apply ax304 | apply ax305 | apply ax306 | apply ax308 | apply ax309 | apply ax310 | apply lt_S | apply ar305 | apply ar308 | apply ar309)) only [g155_48, g155_50, g155_53, g155_54, Option.toList, List.nil_append, List.cons_append, va_rf, nI_ltI, nI_leI, nI_eq, nI_add, nI_sub, nI_lt0, nI_e0, nI_m1, m1_nI, Nat.reduceEqDiff, Nat.reduceLT, Nat.reduceLeDiff, Nat.reduceAdd, Nat.reduceSub, Nat.reduceMul, ↓reduceIte, eq_self, show ¬ 8 ≤ k by omega, R1 _, g155_98, g155_101]
/-- stale, as the class finds it -/
theorem x_stale (S : am_S g) (F : FS g nf fe Gf ft) : ∃ s, am_run d 155 [some (.ref 4), none, none, none] g (some (.int s)) g ∧ SB s (rds Gf nf (fun j => decide (j < nf) && ft j) nf) := by
  obtain ⟨s1, B1, R1⟩ := x_stale1 (d := d) (v := none) S F nf 0 (nI 0) (Nat.sub_zero _) (Nat.zero_le _) (SB_ext SB_0 (fun j _ => by simp))
  obtain ⟨s2, B2, v', R2⟩ := x_stale3 (d := d) S F (R0 := fun j => decide (j < nf) && ft j) 8 0 s1 none (Nat.sub_zero _) (Nat.zero_le _) B1
  rw [rds_8 F.1] at B2
  refine ⟨s2, fun Q => ?_, B2⟩
  simp (disch := first | with_reducible assumption | omega | exact Or.inl rfl | exact Or.inr rfl | exact bI_01 | exact c_cat | exact vt_ref | exact vt_null | rfl | with_reducible repeat (first | assumption | omega | apply S_I | apply S_L | apply S_D | apply ob_I | apply ob_L | apply ob_D | apply ob_R | apply ax_I | apply ax_L | apply ax_D | apply ax_R | apply o303 | apply o307 | apply o302 | apply o301 | apply ax304 | apply ax305 | apply ax306 | apply ax308 | apply ax309 | apply ax310 | apply lt_S | apply ar305 | apply ar308 | apply ar309)) only [g155_0, g155_1, g155_2, g155_3, R1 _, g155_45, g155_46, R2 _, g155_104, g155_105, Option.toList, List.nil_append, List.cons_append, va_rf]
end XST

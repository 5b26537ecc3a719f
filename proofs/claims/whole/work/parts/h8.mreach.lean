/-! THE MODEL: the functions that are reached -/
/-- is it a call of f? -/
def isC (g : am_H) (s f i : Nat) : Bool := decide ((am_I g 352 (48 * s + i) = nI 8 ∨ am_I g 352 (48 * s + i) = nI 9) ∧ am_L g 357 (48 * s + i) = lN f)
/-- slot s has m nodes, G is what is called there -/
def SLc (g : am_H) (s m : Nat) (G : List (Nat × Nat)) : Prop := s < 77 ∧ m ≤ 40 ∧ am_I g 364 s = nI m ∧ NC (tb g (48 * s)) 0 m G ∧ ∀ y, y ∈ G → y.1 ≤ 8 ∧ ∃ i, i < m ∧ ((tb g (48 * s) i).1 = nI 8 ∨ (tb g (48 * s) i).1 = nI 9) ∧ (tb g (48 * s) i).2.2.2.2 = lN y.1
section MRC
variable {d s m f nf : Nat} {g h : am_H} {G : List (Nat × Nat)}
theorem isC_G (A : SLc g s m G) (hf : f < 2 ^ 31) : orU (isC g s f) m = G.any (fun z => decide (f = z.1)) := by
  obtain ⟨a1, a2, a3, a4, a5⟩ := A
  rw [Bool.eq_iff_iff, orU_iff, List.any_eq_true]
  constructor
  · rintro ⟨i, h1, h2⟩
    have h2 := of_decide_eq_true h2
    obtain ⟨z, z1, z2⟩ := a4 i (Nat.zero_le _) h1 h2.1
    refine ⟨z, z1, decide_eq_true ?_⟩
    have e : lN z.1 = lN f := z2.symm.trans h2.2
    exact ((lN_inj64 (by have := (a5 z z1).1; omega) (by omega)).mp e).symm
  · rintro ⟨z, z1, z2⟩
    have z2 := of_decide_eq_true z2
    subst z2
    obtain ⟨b1, i, b2, b3, b4⟩ := a5 z z1
    exact ⟨i, b2, decide_eq_true ⟨b3, b4⟩⟩
theorem m_calls (S : am_S g) (A : SLc g s m G) (hf : f < 64) : am_run d 230 [some (.ref 349), some (.int (nI s)), some (.int (nI f)), none, none] g (some (.int (bI (G.any (fun z => decide (f = z.1)))))) g := by
  obtain ⟨a1, a2, a3, a4, a5⟩ := id A
  rw [← isC_G A (by omega)]
  have L : ∀ r i, m - i = r → i ≤ m → ∀ Q, am_J d 230 8 [some (.ref 349), some (.int (nI s)), some (.int (nI f)), some (.int (bI (orU (isC g s f) i))), some (.int (nI (48 * s + i)))] [] g Q ↔ Q (some (.int (bI (orU (isC g s f) m)))) g := by
    intro r
    induction r with
    | zero =>
      intro i hr hi Q
      obtain rfl : i = m := by omega
      rw [g230_8]
      simp (disch := first | with_reducible assumption | omega | exact Or.inl rfl | exact Or.inr rfl | exact bI_01 | exact c_cat | exact vt_ref | exact vt_null | rfl | with_reducible repeat (first | assumption | omega | apply S_I | apply S_L | apply S_D | apply ob_I | apply ob_L | apply ob_D | apply ob_R | apply ax_I | apply ax_L | apply ax_D | apply ax_R | apply o303 | apply o307 | apply o302 | apply o301 | apply ax304 | apply ax305 | apply ax306 | apply ax308 | apply ax309 | apply ax310 | apply lt_S | apply ar305 | apply ar308 | apply ar309)) only [g230_10, g230_12, g230_13, g230_14, g230_15, g230_18, g230_19, g230_20, g230_21, g230_77, g230_78, Option.toList, List.nil_append, List.cons_append, va_rf, nI_ltI, nI_leI, nI_eq, nI_add, nI_sub, nI_lt0, nI_e0, nI_m1, m1_nI, Nat.reduceEqDiff, Nat.reduceLT, Nat.reduceLeDiff, Nat.reduceAdd, Nat.reduceSub, Nat.reduceMul, ↓reduceIte, eq_self, nI_mul, a3, Nat.le_refl]
    | succ r ih =>
      intro i hr hi Q
      cases ho : orU (isC g s f) i with
      | true =>
        rw [orU_up ho m (by omega), g230_8]
        simp (disch := first | with_reducible assumption | omega | exact Or.inl rfl | exact Or.inr rfl | exact bI_01 | exact c_cat | exact vt_ref | exact vt_null | rfl | with_reducible repeat (first | assumption | omega | apply S_I | apply S_L | apply S_D | apply ob_I | apply ob_L | apply ob_D | apply ob_R | apply ax_I | apply ax_L | apply ax_D | apply ax_R | apply o303 | apply o307 | apply o302 | apply o301 | apply ax304 | apply ax305 | apply ax306 | apply ax308 | apply ax309 | apply ax310 | apply lt_S | apply ar305 | apply ar308 | apply ar309)) only [g230_10, g230_12, g230_13, g230_14, g230_15, g230_18, g230_19, g230_20, g230_21, g230_24, g230_25, g230_77, g230_78, Option.toList, List.nil_append, List.cons_append, va_rf, nI_ltI, nI_leI, nI_eq, nI_add, nI_sub, nI_lt0, nI_e0, nI_m1, m1_nI, Nat.reduceEqDiff, Nat.reduceLT, Nat.reduceLeDiff, Nat.reduceAdd, Nat.reduceSub, Nat.reduceMul, ↓reduceIte, eq_self, nI_mul, a3, show ¬ 48 * s + m ≤ 48 * s + i by omega, bI_t]
      | false =>
        rw [← ih (i + 1) (by omega) (by omega) Q]
        have e : orU (isC g s f) (i + 1) = isC g s f i := by
          show (orU (isC g s f) i || isC g s f i) = _
          rw [ho, Bool.false_or]
        rw [e, g230_8]
        have q352 : 48 * s + i < 3696 := by omega
        by_cases c : am_L g 357 (48 * s + i) = lN f
        · by_cases c8 : am_I g 352 (48 * s + i) = nI 8
          · have t : isC g s f i = true := decide_eq_true ⟨Or.inl c8, c⟩
            rw [t]
            simp (disch := first | with_reducible assumption | omega | exact Or.inl rfl | exact Or.inr rfl | exact bI_01 | exact c_cat | exact vt_ref | exact vt_null | rfl | with_reducible repeat (first | assumption | omega | apply S_I | apply S_L | apply S_D | apply ob_I | apply ob_L | apply ob_D | apply ob_R | apply ax_I | apply ax_L | apply ax_D | apply ax_R | apply o303 | apply o307 | apply o302 | apply o301 | apply ax304 | apply ax305 | apply ax306 | apply ax308 | apply ax309 | apply ax310 | apply lt_S | apply ar305 | apply ar308 | apply ar309)) only [g230_10, g230_12, g230_13, g230_14, g230_15, g230_18, g230_19, g230_20, g230_21, g230_24, g230_25, g230_28, g230_29, g230_32, g230_34, g230_35, g230_37, g230_40, g230_41, g230_44, g230_46, g230_47, g230_49, g230_52, g230_53, g230_56, g230_58, g230_59, g230_60, g230_61, g230_62, g230_65, g230_66, g230_69, g230_70, g230_71, g230_74, Option.toList, List.nil_append, List.cons_append, va_rf, nI_ltI, nI_leI, nI_eq, nI_add, nI_sub, nI_lt0, nI_e0, nI_m1, m1_nI, Nat.reduceEqDiff, Nat.reduceLT, Nat.reduceLeDiff, Nat.reduceAdd, Nat.reduceSub, Nat.reduceMul, ↓reduceIte, eq_self, nI_mul, a3, show ¬ 48 * s + m ≤ 48 * s + i by omega, bI_f, bI_t, c8, c, lg_cmp0, nI_l, Nat.add_assoc]
          · by_cases c9 : am_I g 352 (48 * s + i) = nI 9
            · have t : isC g s f i = true := decide_eq_true ⟨Or.inr c9, c⟩
              rw [t]
              simp (disch := first | with_reducible assumption | omega | exact Or.inl rfl | exact Or.inr rfl | exact bI_01 | exact c_cat | exact vt_ref | exact vt_null | rfl | with_reducible repeat (first | assumption | omega | apply S_I | apply S_L | apply S_D | apply ob_I | apply ob_L | apply ob_D | apply ob_R | apply ax_I | apply ax_L | apply ax_D | apply ax_R | apply o303 | apply o307 | apply o302 | apply o301 | apply ax304 | apply ax305 | apply ax306 | apply ax308 | apply ax309 | apply ax310 | apply lt_S | apply ar305 | apply ar308 | apply ar309)) only [g230_10, g230_12, g230_13, g230_14, g230_15, g230_18, g230_19, g230_20, g230_21, g230_24, g230_25, g230_28, g230_29, g230_32, g230_34, g230_35, g230_37, g230_40, g230_41, g230_44, g230_46, g230_47, g230_49, g230_52, g230_53, g230_56, g230_58, g230_59, g230_60, g230_61, g230_62, g230_65, g230_66, g230_69, g230_70, g230_71, g230_74, Option.toList, List.nil_append, List.cons_append, va_rf, nI_ltI, nI_leI, nI_eq, nI_add, nI_sub, nI_lt0, nI_e0, nI_m1, m1_nI, Nat.reduceEqDiff, Nat.reduceLT, Nat.reduceLeDiff, Nat.reduceAdd, Nat.reduceSub, Nat.reduceMul, ↓reduceIte, eq_self, nI_mul, a3, show ¬ 48 * s + m ≤ 48 * s + i by omega, bI_f, bI_t, c9, c, lg_cmp0, nI_l, Nat.add_assoc]
            · have t : isC g s f i = false := decide_eq_false (fun q => q.1.elim c8 c9)
              rw [t]
              simp (disch := first | with_reducible assumption | omega | exact Or.inl rfl | exact Or.inr rfl | exact bI_01 | exact c_cat | exact vt_ref | exact vt_null | rfl | with_reducible repeat (first | assumption | omega | apply S_I | apply S_L | apply S_D | apply ob_I | apply ob_L | apply ob_D | apply ob_R | apply ax_I | apply ax_L | apply ax_D | apply ax_R | apply o303 | apply o307 | apply o302 | apply o301 | apply ax304 | apply ax305 | apply ax306 | apply ax308 | apply ax309 | apply ax310 | apply lt_S | apply ar305 | apply ar308 | apply ar309)) only [g230_10, g230_12, g230_13, g230_14, g230_15, g230_18, g230_19, g230_20, g230_21, g230_24, g230_25, g230_28, g230_29, g230_32, g230_34, g230_35, g230_37, g230_40, g230_41, g230_44, g230_46, g230_47, g230_49, g230_52, g230_53, g230_56, g230_58, g230_59, g230_60, g230_61, g230_62, g230_65, g230_66, g230_69, g230_70, g230_71, g230_74, Option.toList, List.nil_append, List.cons_append, va_rf, nI_ltI, nI_leI, nI_eq, nI_add, nI_sub, nI_lt0, nI_e0, nI_m1, m1_nI, Nat.reduceEqDiff, Nat.reduceLT, Nat.reduceLeDiff, Nat.reduceAdd, Nat.reduceSub, Nat.reduceMul, ↓reduceIte, eq_self, nI_mul, a3, show ¬ 48 * s + m ≤ 48 * s + i by omega, bI_f, c8, c9, Nat.add_assoc]
        · have t : isC g s f i = false := decide_eq_false (fun q => c q.2)
          rw [t]
          by_cases c8 : am_I g 352 (48 * s + i) = nI 8
          · simp (disch := first | with_reducible assumption | omega | exact Or.inl rfl | exact Or.inr rfl | exact bI_01 | exact c_cat | exact vt_ref | exact vt_null | rfl | with_reducible repeat (first | assumption | omega | apply S_I | apply S_L | apply S_D | apply ob_I | apply ob_L | apply ob_D | apply ob_R | apply ax_I | apply ax_L | apply ax_D | apply ax_R | apply o303 | apply o307 | apply o302 | apply o301 | apply ax304 | apply ax305 | apply ax306 | apply ax308 | apply ax309 | apply ax310 | apply lt_S | apply ar305 | apply ar308 | apply ar309)) only [g230_10, g230_12, g230_13, g230_14, g230_15, g230_18, g230_19, g230_20, g230_21, g230_24, g230_25, g230_28, g230_29, g230_32, g230_34, g230_35, g230_37, g230_40, g230_41, g230_44, g230_46, g230_47, g230_49, g230_52, g230_53, g230_56, g230_58, g230_59, g230_60, g230_61, g230_62, g230_65, g230_66, g230_69, g230_70, g230_71, g230_74, Option.toList, List.nil_append, List.cons_append, va_rf, nI_ltI, nI_leI, nI_eq, nI_add, nI_sub, nI_lt0, nI_e0, nI_m1, m1_nI, Nat.reduceEqDiff, Nat.reduceLT, Nat.reduceLeDiff, Nat.reduceAdd, Nat.reduceSub, Nat.reduceMul, ↓reduceIte, eq_self, nI_mul, a3, show ¬ 48 * s + m ≤ 48 * s + i by omega, bI_f, c8, c, lg_cmp0, nI_l, Nat.add_assoc]
          · by_cases c9 : am_I g 352 (48 * s + i) = nI 9
            · simp (disch := first | with_reducible assumption | omega | exact Or.inl rfl | exact Or.inr rfl | exact bI_01 | exact c_cat | exact vt_ref | exact vt_null | rfl | with_reducible repeat (first | assumption | omega | apply S_I | apply S_L | apply S_D | apply ob_I | apply ob_L | apply ob_D | apply ob_R | apply ax_I | apply ax_L | apply ax_D | apply ax_R | apply o303 | apply o307 | apply o302 | apply o301 | apply ax304 | apply ax305 | apply ax306 | apply ax308 | apply ax309 | apply ax310 | apply lt_S | apply ar305 | apply ar308 | apply ar309)) only [g230_10, g230_12, g230_13, g230_14, g230_15, g230_18, g230_19, g230_20, g230_21, g230_24, g230_25, g230_28, g230_29, g230_32, g230_34, g230_35, g230_37, g230_40, g230_41, g230_44, g230_46, g230_47, g230_49, g230_52, g230_53, g230_56, g230_58, g230_59, g230_60, g230_61, g230_62, g230_65, g230_66, g230_69, g230_70, g230_71, g230_74, Option.toList, List.nil_append, List.cons_append, va_rf, nI_ltI, nI_leI, nI_eq, nI_add, nI_sub, nI_lt0, nI_e0, nI_m1, m1_nI, Nat.reduceEqDiff, Nat.reduceLT, Nat.reduceLeDiff, Nat.reduceAdd, Nat.reduceSub, Nat.reduceMul, ↓reduceIte, eq_self, nI_mul, a3, show ¬ 48 * s + m ≤ 48 * s + i by omega, bI_f, c9, c, lg_cmp0, nI_l, Nat.add_assoc]
            · simp (disch := first | with_reducible assumption | omega | exact Or.inl rfl | exact Or.inr rfl | exact bI_01 | exact c_cat | exact vt_ref | exact vt_null | rfl | with_reducible repeat (first | assumption | omega | apply S_I | apply S_L | apply S_D | apply ob_I | apply ob_L | apply ob_D | apply ob_R | apply ax_I | apply ax_L | apply ax_D | apply ax_R | apply o303 | apply o307 | apply o302 | apply o301 | apply ax304 | apply ax305 | apply ax306 | apply ax308 | apply ax309 | apply ax310 | apply lt_S | apply ar305 | apply ar308 | apply ar309)) only [g230_10, g230_12, g230_13, g230_14, g230_15, g230_18, g230_19, g230_20, g230_21, g230_24, g230_25, g230_28, g230_29, g230_32, g230_34, g230_35, g230_37, g230_40, g230_41, g230_44, g230_46, g230_47, g230_49, g230_52, g230_53, g230_56, g230_58, g230_59, g230_60, g230_61, g230_62, g230_65, g230_66, g230_69, g230_70, g230_71, g230_74, Option.toList, List.nil_append, List.cons_append, va_rf, nI_ltI, nI_leI, nI_eq, nI_add, nI_sub, nI_lt0, nI_e0, nI_m1, m1_nI, Nat.reduceEqDiff, Nat.reduceLT, Nat.reduceLeDiff, Nat.reduceAdd, Nat.reduceSub, Nat.reduceMul, ↓reduceIte, eq_self, nI_mul, a3, show ¬ 48 * s + m ≤ 48 * s + i by omega, bI_f, c8, c9, Nat.add_assoc]
  intro Q
  have := L m 0 (Nat.sub_zero _) (Nat.zero_le _) Q
  rw [Nat.add_zero] at this
  rw [← this]
  simp (disch := first | with_reducible assumption | omega | exact Or.inl rfl | exact Or.inr rfl | exact bI_01 | exact c_cat | exact vt_ref | exact vt_null | rfl | with_reducible repeat (first | assumption | omega | apply S_I | apply S_L | apply S_D | apply ob_I | apply ob_L | apply ob_D | apply ob_R | apply ax_I | apply ax_L | apply ax_D | apply ax_R | apply o303 | apply o307 | apply o302 | apply o301 | apply ax304 | apply ax305 | apply ax306 | apply ax308 | apply ax309 | apply ax310 | apply lt_S | apply ar305 | apply ar308 | apply ar309)) only [g230_0, g230_1, g230_2, g230_4, g230_5, g230_6, Option.toList, List.nil_append, List.cons_append, va_rf, nI_ltI, nI_leI, nI_eq, nI_add, nI_sub, nI_lt0, nI_e0, nI_m1, m1_nI, Nat.reduceEqDiff, Nat.reduceLT, Nat.reduceLeDiff, Nat.reduceAdd, Nat.reduceSub, Nat.reduceMul, ↓reduceIte, eq_self, nI_mul, show orU (isC g s f) 0 = false from rfl, bI_f]
/-- reaches holds r -/
def RA (h g : am_H) (r : Nat → Bool) : Prop := am_fr (fun a => a = 393) h g ∧ ∀ j, j < 8 → am_I g 393 j = bI (r j)
/-- the functions as the model has them -/
def FT (h : am_H) (nf : Nat) (Gf : Nat → List (Nat × Nat)) (ft : Nat → Bool) : Prop := nf ≤ 8 ∧ am_I h 349 16 = nI nf ∧ ∀ i, i < nf → am_I h 377 i = bI (ft i) ∧ (∃ m, SLc h (48 + i) m (Gf i)) ∧ ∀ z, z ∈ Gf i → z.1 < nf
theorem SLc_fr {P : Nat → Prop} (F : am_fr P h g) (h1 : ¬ P 352) (h2 : ¬ P 353) (h3 : ¬ P 354) (h4 : ¬ P 355) (h5 : ¬ P 357) (h6 : ¬ P 364) (A : SLc h s m G) : SLc g s m G := by
  have e : tb g (48 * s) = tb h (48 * s) := by
    funext n
    unfold tb
    rw [fr_rdI F h1, fr_rdI F h2, fr_rdI F h3, fr_rdI F h4, fr_rdL F h5]
  obtain ⟨a1, a2, a3, a4, a5⟩ := A
  exact ⟨a1, a2, (fr_rdI F h6).trans a3, by rw [e]; exact a4, by rw [e]; exact a5⟩
theorem m_isReached {r : Nat → Bool} (S : am_S g) (hn : nf ≤ 8) (e : am_I g 349 16 = nI nf) (R : ∀ j, j < 8 → am_I g 393 j = bI (r j)) (A : SLc g s m G) (hG : ∀ z, z ∈ G → z.1 < nf) : am_run (d + 1) 231 [some (.ref 349), some (.int (nI s)), none, none] g (some (.int (bI (hit r G)))) g := by
  have fin : orU (fun k => r k && G.any (fun z => decide (k = z.1))) nf = hit r G := by
    rw [Bool.eq_iff_iff, orU_iff, hit_iff]
    constructor
    · rintro ⟨i, h1, h2⟩
      rw [Bool.and_eq_true, List.any_eq_true] at h2
      obtain ⟨h2, z, z1, z2⟩ := h2
      have z2 := of_decide_eq_true z2
      exact ⟨z, z1, by rw [← z2]; exact h2⟩
    · rintro ⟨z, z1, z2⟩
      exact ⟨z.1, hG z z1, by rw [Bool.and_eq_true, List.any_eq_true]; exact ⟨z2, z, z1, decide_eq_true rfl⟩⟩
  rw [← fin]
  have L : ∀ q k, nf - k = q → k ≤ nf → ∀ Q, am_J (d + 1) 231 4 [some (.ref 349), some (.int (nI s)), some (.int (bI (orU (fun k => r k && G.any (fun z => decide (k = z.1))) k))), some (.int (nI k))] [] g Q ↔ Q (some (.int (bI (orU (fun k => r k && G.any (fun z => decide (k = z.1))) nf)))) g := by
    intro q
    induction q with
    | zero =>
      intro k hr hk Q
      obtain rfl : k = nf := by omega
      rw [g231_4]
      simp (disch := first | with_reducible assumption | omega | exact Or.inl rfl | exact Or.inr rfl | exact bI_01 | exact c_cat | exact vt_ref | exact vt_null | rfl | with_reducible repeat (first | assumption | omega | apply S_I | apply S_L | apply S_D | apply ob_I | apply ob_L | apply ob_D | apply ob_R | apply ax_I | apply ax_L | apply ax_D | apply ax_R | apply o303 | apply o307 | apply o302 | apply o301 | apply ax304 | apply ax305 | apply ax306 | apply ax308 | apply ax309 | apply ax310 | apply lt_S | apply ar305 | apply ar308 | apply ar309)) only [g231_5, g231_6, g231_9, g231_46, g231_47, Option.toList, List.nil_append, List.cons_append, va_rf, nI_ltI, nI_leI, nI_eq, nI_add, nI_sub, nI_lt0, nI_e0, nI_m1, m1_nI, Nat.reduceEqDiff, Nat.reduceLT, Nat.reduceLeDiff, Nat.reduceAdd, Nat.reduceSub, Nat.reduceMul, ↓reduceIte, eq_self, e, Nat.le_refl]
    | succ q ih =>
      intro k hr hk Q
      cases ho : orU (fun k => r k && G.any (fun z => decide (k = z.1))) k with
      | true =>
        rw [orU_up ho nf (by omega), g231_4]
        simp (disch := first | with_reducible assumption | omega | exact Or.inl rfl | exact Or.inr rfl | exact bI_01 | exact c_cat | exact vt_ref | exact vt_null | rfl | with_reducible repeat (first | assumption | omega | apply S_I | apply S_L | apply S_D | apply ob_I | apply ob_L | apply ob_D | apply ob_R | apply ax_I | apply ax_L | apply ax_D | apply ax_R | apply o303 | apply o307 | apply o302 | apply o301 | apply ax304 | apply ax305 | apply ax306 | apply ax308 | apply ax309 | apply ax310 | apply lt_S | apply ar305 | apply ar308 | apply ar309)) only [g231_5, g231_6, g231_9, g231_12, g231_13, g231_46, g231_47, Option.toList, List.nil_append, List.cons_append, va_rf, nI_ltI, nI_leI, nI_eq, nI_add, nI_sub, nI_lt0, nI_e0, nI_m1, m1_nI, Nat.reduceEqDiff, Nat.reduceLT, Nat.reduceLeDiff, Nat.reduceAdd, Nat.reduceSub, Nat.reduceMul, ↓reduceIte, eq_self, e, show ¬ nf ≤ k by omega, bI_t]
      | false =>
        rw [← ih (k + 1) (by omega) (by omega) Q]
        have e1 : orU (fun k => r k && G.any (fun z => decide (k = z.1))) (k + 1) = (r k && G.any (fun z => decide (k = z.1))) := by
          show (orU _ k || _) = _
          rw [ho, Bool.false_or]
        rw [e1, g231_4]
        have mc := m_calls (d := d) (f := k) S A (by omega)
        have rk := R k (by omega)
        cases hr2 : r k with
        | true =>
          rw [hr2, bI_t] at rk
          cases hc : G.any (fun z => decide (k = z.1)) with
          | true =>
            rw [hc] at mc
            simp (disch := first | with_reducible assumption | omega | exact Or.inl rfl | exact Or.inr rfl | exact bI_01 | exact c_cat | exact vt_ref | exact vt_null | rfl | with_reducible repeat (first | assumption | omega | apply S_I | apply S_L | apply S_D | apply ob_I | apply ob_L | apply ob_D | apply ob_R | apply ax_I | apply ax_L | apply ax_D | apply ax_R | apply o303 | apply o307 | apply o302 | apply o301 | apply ax304 | apply ax305 | apply ax306 | apply ax308 | apply ax309 | apply ax310 | apply lt_S | apply ar305 | apply ar308 | apply ar309)) only [g231_5, g231_6, g231_9, g231_12, g231_13, g231_16, g231_17, g231_20, g231_21, g231_22, g231_25, g231_26, g231_27, g231_28, g231_31, g231_34, g231_35, g231_38, g231_39, g231_40, g231_43, Option.toList, List.nil_append, List.cons_append, va_rf, nI_ltI, nI_leI, nI_eq, nI_add, nI_sub, nI_lt0, nI_e0, nI_m1, m1_nI, Nat.reduceEqDiff, Nat.reduceLT, Nat.reduceLeDiff, Nat.reduceAdd, Nat.reduceSub, Nat.reduceMul, ↓reduceIte, eq_self, e, show ¬ nf ≤ k by omega, bI_f, bI_t, rk, mc _, Bool.and_self]
          | false =>
            rw [hc] at mc
            simp (disch := first | with_reducible assumption | omega | exact Or.inl rfl | exact Or.inr rfl | exact bI_01 | exact c_cat | exact vt_ref | exact vt_null | rfl | with_reducible repeat (first | assumption | omega | apply S_I | apply S_L | apply S_D | apply ob_I | apply ob_L | apply ob_D | apply ob_R | apply ax_I | apply ax_L | apply ax_D | apply ax_R | apply o303 | apply o307 | apply o302 | apply o301 | apply ax304 | apply ax305 | apply ax306 | apply ax308 | apply ax309 | apply ax310 | apply lt_S | apply ar305 | apply ar308 | apply ar309)) only [g231_5, g231_6, g231_9, g231_12, g231_13, g231_16, g231_17, g231_20, g231_21, g231_22, g231_25, g231_26, g231_27, g231_28, g231_31, g231_34, g231_35, g231_38, g231_39, g231_40, g231_43, Option.toList, List.nil_append, List.cons_append, va_rf, nI_ltI, nI_leI, nI_eq, nI_add, nI_sub, nI_lt0, nI_e0, nI_m1, m1_nI, Nat.reduceEqDiff, Nat.reduceLT, Nat.reduceLeDiff, Nat.reduceAdd, Nat.reduceSub, Nat.reduceMul, ↓reduceIte, eq_self, e, show ¬ nf ≤ k by omega, bI_f, rk, mc _, Bool.and_false]
        | false =>
          rw [hr2, bI_f] at rk
          simp (disch := first | with_reducible assumption | omega | exact Or.inl rfl | exact Or.inr rfl | exact bI_01 | exact c_cat | exact vt_ref | exact vt_null | rfl | with_reducible repeat (first | assumption | omega | apply S_I | apply S_L | apply S_D | apply ob_I | apply ob_L | apply ob_D | apply ob_R | apply ax_I | apply ax_L | apply ax_D | apply ax_R | apply o303 | apply o307 | apply o302 | apply o301 | apply ax304 | apply ax305 | apply ax306 | apply ax308 | apply ax309 | apply ax310 | apply lt_S | apply ar305 | apply ar308 | apply ar309)) only [g231_5, g231_6, g231_9, g231_12, g231_13, g231_16, g231_17, g231_20, g231_21, g231_22, g231_25, g231_26, g231_27, g231_28, g231_31, g231_34, g231_35, g231_38, g231_39, g231_40, g231_43, Option.toList, List.nil_append, List.cons_append, va_rf, nI_ltI, nI_leI, nI_eq, nI_add, nI_sub, nI_lt0, nI_e0, nI_m1, m1_nI, Nat.reduceEqDiff, Nat.reduceLT, Nat.reduceLeDiff, Nat.reduceAdd, Nat.reduceSub, Nat.reduceMul, ↓reduceIte, eq_self, e, show ¬ nf ≤ k by omega, bI_f, rk, Bool.false_and]
  intro Q
  rw [← L nf 0 (Nat.sub_zero _) (Nat.zero_le _) Q]
  simp (disch := first | with_reducible assumption | omega | exact Or.inl rfl | exact Or.inr rfl | exact bI_01 | exact c_cat | exact vt_ref | exact vt_null | rfl | with_reducible repeat (first | assumption | omega | apply S_I | apply S_L | apply S_D | apply ob_I | apply ob_L | apply ob_D | apply ob_R | apply ax_I | apply ax_L | apply ax_D | apply ax_R | apply o303 | apply o307 | apply o302 | apply o301 | apply ax304 | apply ax305 | apply ax306 | apply ax308 | apply ax309 | apply ax310 | apply lt_S | apply ar305 | apply ar308 | apply ar309)) only [g231_0, g231_1, g231_2, g231_3, Option.toList, List.nil_append, List.cons_append, va_rf, nI_ltI, nI_leI, nI_eq, nI_add, nI_sub, nI_lt0, nI_e0, nI_m1, m1_nI, Nat.reduceEqDiff, Nat.reduceLT, Nat.reduceLeDiff, Nat.reduceAdd, Nat.reduceSub, Nat.reduceMul, ↓reduceIte, eq_self, show orU (fun k => r k && G.any (fun z => decide (k = z.1))) 0 = false from rfl, bI_f]
theorem RA_set {r : Nat → Bool} {j : Nat} {b : Bool} (A : RA h g r) : RA h (am_setI g 393 j (bI b)) (fun k => if k = j then b else r k) := ⟨fr_I A.1 rfl, fun k hk => by
  rw [hI_I, if_pos rfl]
  show (if k = j then bI b else am_I g 393 k) = bI (if k = j then b else r k)
  by_cases e : k = j
  · rw [if_pos e, if_pos e]
  · rw [if_neg e, if_neg e]; exact A.2 k hk⟩
theorem RA_ext {r t : Nat → Bool} (A : RA h g r) (e : ∀ j, j < 8 → r j = t j) : RA h g t := ⟨A.1, fun j hj => (A.2 j hj).trans (by rw [e j hj])⟩
theorem m_reach1 {Gf : Nat → List (Nat × Nat)} {ft : Nat → Bool} (S : am_S h) (F : FT h nf Gf ft) : ∀ q f g, 8 - f = q → f ≤ 8 → am_fr (fun a => a = 393) h g → (∀ j, j < f → am_I g 393 j = bI (decide (j < nf) && ft j)) → ∃ g', RA h g' (fun j => decide (j < nf) && ft j) ∧ ∀ Q, am_J d 229 2 [some (.ref 349), some (.int (nI f)), none, none] [] g Q ↔ am_J d 229 42 [some (.ref 349), some (.int (nI 8)), none, none] [] g' Q := by
  obtain ⟨n8, e1, e2⟩ := F
  intro q
  induction q with
  | zero =>
    intro f g hq hf A B
    obtain rfl : f = 8 := by omega
    refine ⟨g, ⟨A, B⟩, fun Q => ?_⟩
    rw [g229_2]
    simp (disch := first | with_reducible assumption | omega | exact Or.inl rfl | exact Or.inr rfl | exact bI_01 | exact c_cat | exact vt_ref | exact vt_null | rfl | with_reducible repeat (first | assumption | omega | apply S_I | apply S_L | apply S_D | apply ob_I | apply ob_L | apply ob_D | apply ob_R | apply ax_I | apply ax_L | apply ax_D | apply ax_R | apply o303 | apply o307 | apply o302 | apply o301 | apply ax304 | apply ax305 | apply ax306 | apply ax308 | apply ax309 | apply ax310 | apply lt_S | apply ar305 | apply ar308 | apply ar309)) only [g229_3, g229_5, Option.toList, List.nil_append, List.cons_append, va_rf, nI_ltI, nI_leI, nI_eq, nI_add, nI_sub, nI_lt0, nI_e0, nI_m1, m1_nI, Nat.reduceEqDiff, Nat.reduceLT, Nat.reduceLeDiff, Nat.reduceAdd, Nat.reduceSub, Nat.reduceMul, ↓reduceIte, eq_self, Nat.le_refl]
  | succ q ih =>
    intro f g hq hf A B
    have Sg := fr_S A S
    have e16 : am_I g 349 16 = nI nf := (fr_rdI A (by decide)).trans e1
    obtain ⟨g', A', R⟩ := ih (f + 1) (am_setI g 393 f (bI (decide (f < nf) && ft f))) (by omega) (by omega) (fr_I A rfl) (fun j hj => by
      by_cases e : j = f
      · rw [e, rI_eq]
      · rw [rI_k e]; exact B j (by omega))
    refine ⟨g', A', fun Q => ?_⟩
    rw [← R Q, g229_2]
    by_cases c : f < nf
    · have e3 : am_I g 377 f = bI (ft f) := (fr_rdI A (by decide)).trans (e2 f c).1
      cases hf2 : ft f with
      | true =>
        rw [hf2, bI_t] at e3
        simp (disch := first | with_reducible assumption | omega | exact Or.inl rfl | exact Or.inr rfl | exact bI_01 | exact c_cat | exact vt_ref | exact vt_null | rfl | with_reducible repeat (first | assumption | omega | apply S_I | apply S_L | apply S_D | apply ob_I | apply ob_L | apply ob_D | apply ob_R | apply ax_I | apply ax_L | apply ax_D | apply ax_R | apply o303 | apply o307 | apply o302 | apply o301 | apply ax304 | apply ax305 | apply ax306 | apply ax308 | apply ax309 | apply ax310 | apply lt_S | apply ar305 | apply ar308 | apply ar309)) only [g229_3, g229_5, g229_8, g229_9, g229_12, g229_13, g229_14, g229_15, g229_18, g229_21, g229_22, g229_25, g229_26, g229_27, g229_30, g229_31, g229_34, g229_35, g229_36, g229_39, Option.toList, List.nil_append, List.cons_append, va_rf, nI_ltI, nI_leI, nI_eq, nI_add, nI_sub, nI_lt0, nI_e0, nI_m1, m1_nI, Nat.reduceEqDiff, Nat.reduceLT, Nat.reduceLeDiff, Nat.reduceAdd, Nat.reduceSub, Nat.reduceMul, ↓reduceIte, eq_self, show ¬ 8 ≤ f by omega, e16, show ¬ nf ≤ f by omega, e3, decide_eq_true c, Bool.and_self, bI_t]
      | false =>
        rw [hf2, bI_f] at e3
        simp (disch := first | with_reducible assumption | omega | exact Or.inl rfl | exact Or.inr rfl | exact bI_01 | exact c_cat | exact vt_ref | exact vt_null | rfl | with_reducible repeat (first | assumption | omega | apply S_I | apply S_L | apply S_D | apply ob_I | apply ob_L | apply ob_D | apply ob_R | apply ax_I | apply ax_L | apply ax_D | apply ax_R | apply o303 | apply o307 | apply o302 | apply o301 | apply ax304 | apply ax305 | apply ax306 | apply ax308 | apply ax309 | apply ax310 | apply lt_S | apply ar305 | apply ar308 | apply ar309)) only [g229_3, g229_5, g229_8, g229_9, g229_12, g229_13, g229_14, g229_15, g229_18, g229_21, g229_22, g229_25, g229_26, g229_27, g229_30, g229_31, g229_34, g229_35, g229_36, g229_39, Option.toList, List.nil_append, List.cons_append, va_rf, nI_ltI, nI_leI, nI_eq, nI_add, nI_sub, nI_lt0, nI_e0, nI_m1, m1_nI, Nat.reduceEqDiff, Nat.reduceLT, Nat.reduceLeDiff, Nat.reduceAdd, Nat.reduceSub, Nat.reduceMul, ↓reduceIte, eq_self, show ¬ 8 ≤ f by omega, e16, show ¬ nf ≤ f by omega, e3, Bool.and_false, bI_f]
    · simp (disch := first | with_reducible assumption | omega | exact Or.inl rfl | exact Or.inr rfl | exact bI_01 | exact c_cat | exact vt_ref | exact vt_null | rfl | with_reducible repeat (first | assumption | omega | apply S_I | apply S_L | apply S_D | apply ob_I | apply ob_L | apply ob_D | apply ob_R | apply ax_I | apply ax_L | apply ax_D | apply ax_R | apply o303 | apply o307 | apply o302 | apply o301 | apply ax304 | apply ax305 | apply ax306 | apply ax308 | apply ax309 | apply ax310 | apply lt_S | apply ar305 | apply ar308 | apply ar309)) only [g229_3, g229_5, g229_8, g229_9, g229_12, g229_13, g229_14, g229_15, g229_18, g229_21, g229_22, g229_25, g229_26, g229_27, g229_30, g229_31, g229_34, g229_35, g229_36, g229_39, Option.toList, List.nil_append, List.cons_append, va_rf, nI_ltI, nI_leI, nI_eq, nI_add, nI_sub, nI_lt0, nI_e0, nI_m1, m1_nI, Nat.reduceEqDiff, Nat.reduceLT, Nat.reduceLeDiff, Nat.reduceAdd, Nat.reduceSub, Nat.reduceMul, ↓reduceIte, eq_self, show ¬ 8 ≤ f by omega, e16, show nf ≤ f by omega, decide_eq_false c, Bool.false_and, bI_f]
/-- one function's turn -/
theorem m_reach2 {Gf : Nat → List (Nat × Nat)} {ft R0 : Nat → Bool} {t f : Nat} (S : am_S h) (F : FT h nf Gf ft) (hf : f < nf) : ∀ q k g, nf - k = q → k ≤ nf → RA h g (stp R0 (orU (fun k => R0 k && (Gf f).any (fun z => decide (k = z.1))) k) f) → ∃ g', RA h g' (stp R0 (hit R0 (Gf f)) f) ∧ ∀ Q, am_J (d + 1) 229 64 [some (.ref 349), some (.int (nI t)), some (.int (nI f)), some (.int (nI k))] [] g Q ↔ am_J (d + 1) 229 106 [some (.ref 349), some (.int (nI t)), some (.int (nI f)), some (.int (nI nf))] [] g' Q := by
  obtain ⟨n8, e1, e2⟩ := F
  obtain ⟨-, ⟨m, e4⟩, hG⟩ := e2 f hf
  have fin : orU (fun k => R0 k && (Gf f).any (fun z => decide (k = z.1))) nf = hit R0 (Gf f) := by
    rw [Bool.eq_iff_iff, orU_iff, hit_iff]
    constructor
    · rintro ⟨i, h1, h2⟩
      rw [Bool.and_eq_true, List.any_eq_true] at h2
      obtain ⟨h2, z, z1, z2⟩ := h2
      have z2 := of_decide_eq_true z2
      exact ⟨z, z1, by rw [← z2]; exact h2⟩
    · rintro ⟨z, z1, z2⟩
      exact ⟨z.1, hG z z1, by rw [Bool.and_eq_true, List.any_eq_true]; exact ⟨z2, z, z1, decide_eq_true rfl⟩⟩
  intro q
  induction q with
  | zero =>
    intro k g hq hk A
    obtain rfl : k = nf := by omega
    have Sg := fr_S A.1 S
    have e16 : am_I g 349 16 = nI k := (fr_rdI A.1 (by decide)).trans e1
    rw [fin] at A
    refine ⟨g, A, fun Q => ?_⟩
    rw [g229_64]
    simp (disch := first | with_reducible assumption | omega | exact Or.inl rfl | exact Or.inr rfl | exact bI_01 | exact c_cat | exact vt_ref | exact vt_null | rfl | with_reducible repeat (first | assumption | omega | apply S_I | apply S_L | apply S_D | apply ob_I | apply ob_L | apply ob_D | apply ob_R | apply ax_I | apply ax_L | apply ax_D | apply ax_R | apply o303 | apply o307 | apply o302 | apply o301 | apply ax304 | apply ax305 | apply ax306 | apply ax308 | apply ax309 | apply ax310 | apply lt_S | apply ar305 | apply ar308 | apply ar309)) only [g229_65, g229_66, g229_69, Option.toList, List.nil_append, List.cons_append, va_rf, nI_ltI, nI_leI, nI_eq, nI_add, nI_sub, nI_lt0, nI_e0, nI_m1, m1_nI, Nat.reduceEqDiff, Nat.reduceLT, Nat.reduceLeDiff, Nat.reduceAdd, Nat.reduceSub, Nat.reduceMul, ↓reduceIte, eq_self, e16, Nat.le_refl]
  | succ q ih =>
    intro k g hq hk A
    have Sg := fr_S A.1 S
    have e16 : am_I g 349 16 = nI nf := (fr_rdI A.1 (by decide)).trans e1
    have A4 := SLc_fr A.1 (by decide) (by decide) (by decide) (by decide) (by decide) (by decide) e4
    have mc := m_calls (d := d) (f := k) Sg A4 (by omega)
    have rk := A.2 k (by omega)
    cases hr : stp R0 (orU (fun k => R0 k && (Gf f).any (fun z => decide (k = z.1))) k) f k with
    | false =>
      rw [hr, bI_f] at rk
      have r0 : R0 k = false := by
        have h2 : (R0 k || _) = false := hr
        exact (Bool.or_eq_false_iff.mp h2).1
      obtain ⟨g', A', R⟩ := ih (k + 1) g (by omega) (by omega) (by
        have : orU (fun k => R0 k && (Gf f).any (fun z => decide (k = z.1))) (k + 1) = orU (fun k => R0 k && (Gf f).any (fun z => decide (k = z.1))) k := by
          show (orU _ k || (R0 k && _)) = _
          rw [r0, Bool.false_and, Bool.or_false]
        rw [this]; exact A)
      refine ⟨g', A', fun Q => ?_⟩
      rw [← R Q, g229_64]
      simp (disch := first | with_reducible assumption | omega | exact Or.inl rfl | exact Or.inr rfl | exact bI_01 | exact c_cat | exact vt_ref | exact vt_null | rfl | with_reducible repeat (first | assumption | omega | apply S_I | apply S_L | apply S_D | apply ob_I | apply ob_L | apply ob_D | apply ob_R | apply ax_I | apply ax_L | apply ax_D | apply ax_R | apply o303 | apply o307 | apply o302 | apply o301 | apply ax304 | apply ax305 | apply ax306 | apply ax308 | apply ax309 | apply ax310 | apply lt_S | apply ar305 | apply ar308 | apply ar309)) only [g229_65, g229_66, g229_69, g229_72, g229_73, g229_76, g229_77, g229_78, g229_81, g229_82, g229_84, g229_85, g229_86, g229_87, g229_90, g229_93, g229_94, g229_97, g229_98, g229_99, g229_100, g229_103, Option.toList, List.nil_append, List.cons_append, va_rf, nI_ltI, nI_leI, nI_eq, nI_add, nI_sub, nI_lt0, nI_e0, nI_m1, m1_nI, Nat.reduceEqDiff, Nat.reduceLT, Nat.reduceLeDiff, Nat.reduceAdd, Nat.reduceSub, Nat.reduceMul, ↓reduceIte, eq_self, e16, show ¬ nf ≤ k by omega, rk]
    | true =>
      rw [hr, bI_t] at rk
      cases hc : (Gf f).any (fun z => decide (k = z.1)) with
      | false =>
        rw [hc] at mc
        obtain ⟨g', A', R⟩ := ih (k + 1) g (by omega) (by omega) (by
          have : orU (fun k => R0 k && (Gf f).any (fun z => decide (k = z.1))) (k + 1) = orU (fun k => R0 k && (Gf f).any (fun z => decide (k = z.1))) k := by
            show (orU _ k || (R0 k && (Gf f).any (fun z => decide (k = z.1)))) = _
            rw [hc, Bool.and_false, Bool.or_false]
          rw [this]; exact A)
        refine ⟨g', A', fun Q => ?_⟩
        rw [← R Q, g229_64]
        simp (disch := first | with_reducible assumption | omega | exact Or.inl rfl | exact Or.inr rfl | exact bI_01 | exact c_cat | exact vt_ref | exact vt_null | rfl | with_reducible repeat (first | assumption | omega | apply S_I | apply S_L | apply S_D | apply ob_I | apply ob_L | apply ob_D | apply ob_R | apply ax_I | apply ax_L | apply ax_D | apply ax_R | apply o303 | apply o307 | apply o302 | apply o301 | apply ax304 | apply ax305 | apply ax306 | apply ax308 | apply ax309 | apply ax310 | apply lt_S | apply ar305 | apply ar308 | apply ar309)) only [g229_65, g229_66, g229_69, g229_72, g229_73, g229_76, g229_77, g229_78, g229_81, g229_82, g229_84, g229_85, g229_86, g229_87, g229_90, g229_93, g229_94, g229_97, g229_98, g229_99, g229_100, g229_103, Option.toList, List.nil_append, List.cons_append, va_rf, nI_ltI, nI_leI, nI_eq, nI_add, nI_sub, nI_lt0, nI_e0, nI_m1, m1_nI, Nat.reduceEqDiff, Nat.reduceLT, Nat.reduceLeDiff, Nat.reduceAdd, Nat.reduceSub, Nat.reduceMul, ↓reduceIte, eq_self, e16, show ¬ nf ≤ k by omega, rk, mc _, bI_f]
      | true =>
        rw [hc] at mc
        have A2 : RA h (am_setI g 393 f (nI 1)) (stp R0 (orU (fun k => R0 k && (Gf f).any (fun z => decide (k = z.1))) (k + 1)) f) := RA_ext (RA_set (b := true) (j := f) A) (fun j hj => by
          show (if j = f then true else (R0 j || (orU _ k && decide (j = f)))) = (R0 j || ((orU _ k || (R0 k && (Gf f).any (fun z => decide (k = z.1)))) && decide (j = f)))
          by_cases e : j = f
          · rw [if_pos e, decide_eq_true e, Bool.and_true, hc, Bool.and_true]
            have h2 : (R0 k || (orU (fun k => R0 k && (Gf f).any (fun z => decide (k = z.1))) k && decide (k = f))) = true := hr
            cases h3 : R0 k
            · rw [h3, Bool.false_or, Bool.and_eq_true] at h2
              rw [h2.1]; simp
            · simp
          · rw [if_neg e, decide_eq_false e, Bool.and_false, Bool.and_false])
        obtain ⟨g', A', R⟩ := ih (k + 1) _ (by omega) (by omega) A2
        refine ⟨g', A', fun Q => ?_⟩
        rw [← R Q, g229_64]
        simp (disch := first | with_reducible assumption | omega | exact Or.inl rfl | exact Or.inr rfl | exact bI_01 | exact c_cat | exact vt_ref | exact vt_null | rfl | with_reducible repeat (first | assumption | omega | apply S_I | apply S_L | apply S_D | apply ob_I | apply ob_L | apply ob_D | apply ob_R | apply ax_I | apply ax_L | apply ax_D | apply ax_R | apply o303 | apply o307 | apply o302 | apply o301 | apply ax304 | apply ax305 | apply ax306 | apply ax308 | apply ax309 | apply ax310 | apply lt_S | apply ar305 | apply ar308 | apply ar309)) only [g229_65, g229_66, g229_69, g229_72, g229_73, g229_76, g229_77, g229_78, g229_81, g229_82, g229_84, g229_85, g229_86, g229_87, g229_90, g229_93, g229_94, g229_97, g229_98, g229_99, g229_100, g229_103, Option.toList, List.nil_append, List.cons_append, va_rf, nI_ltI, nI_leI, nI_eq, nI_add, nI_sub, nI_lt0, nI_e0, nI_m1, m1_nI, Nat.reduceEqDiff, Nat.reduceLT, Nat.reduceLeDiff, Nat.reduceAdd, Nat.reduceSub, Nat.reduceMul, ↓reduceIte, eq_self, e16, show ¬ nf ≤ k by omega, rk, mc _, bI_t]
theorem m_reach3 {Gf : Nat → List (Nat × Nat)} {ft R0 : Nat → Bool} {t : Nat} (S : am_S h) (F : FT h nf Gf ft) : ∀ q f g v, nf - f = q → f ≤ nf → RA h g (pas Gf R0 f) → ∃ g' v', RA h g' (pas Gf R0 nf) ∧ ∀ Q, am_J (d + 1) 229 54 [some (.ref 349), some (.int (nI t)), some (.int (nI f)), v] [] g Q ↔ am_J (d + 1) 229 112 [some (.ref 349), some (.int (nI t)), some (.int (nI nf)), v'] [] g' Q := by
  have n8 := F.1
  intro q
  induction q with
  | zero =>
    intro f g v hq hf A
    obtain rfl : f = nf := by omega
    have Sg := fr_S A.1 S
    have e16 : am_I g 349 16 = nI f := (fr_rdI A.1 (by decide)).trans F.2.1
    refine ⟨g, v, A, fun Q => ?_⟩
    rw [g229_54]
    simp (disch := first | with_reducible assumption | omega | exact Or.inl rfl | exact Or.inr rfl | exact bI_01 | exact c_cat | exact vt_ref | exact vt_null | rfl | with_reducible repeat (first | assumption | omega | apply S_I | apply S_L | apply S_D | apply ob_I | apply ob_L | apply ob_D | apply ob_R | apply ax_I | apply ax_L | apply ax_D | apply ax_R | apply o303 | apply o307 | apply o302 | apply o301 | apply ax304 | apply ax305 | apply ax306 | apply ax308 | apply ax309 | apply ax310 | apply lt_S | apply ar305 | apply ar308 | apply ar309)) only [g229_55, g229_56, g229_59, Option.toList, List.nil_append, List.cons_append, va_rf, nI_ltI, nI_leI, nI_eq, nI_add, nI_sub, nI_lt0, nI_e0, nI_m1, m1_nI, Nat.reduceEqDiff, Nat.reduceLT, Nat.reduceLeDiff, Nat.reduceAdd, Nat.reduceSub, Nat.reduceMul, ↓reduceIte, eq_self, e16, Nat.le_refl]
  | succ q ih =>
    intro f g v hq hf A
    have Sg := fr_S A.1 S
    have e16 : am_I g 349 16 = nI nf := (fr_rdI A.1 (by decide)).trans F.2.1
    obtain ⟨g1, A1, R1⟩ := m_reach2 (d := d) (t := t) (f := f) (R0 := pas Gf R0 f) S F (by omega) nf 0 g (Nat.sub_zero _) (Nat.zero_le _) (RA_ext A (fun j hj => by
      show _ = (_ || (false && _))
      rw [Bool.false_and, Bool.or_false]))
    obtain ⟨g', v', A', R⟩ := ih (f + 1) g1 (some (.int (nI nf))) (by omega) (by omega) A1
    refine ⟨g', v', A', fun Q => ?_⟩
    rw [← R Q, g229_54]
    simp (disch := first | with_reducible assumption | omega | exact Or.inl rfl | exact Or.inr rfl | exact bI_01 | exact c_cat | exact vt_ref | exact vt_null | rfl | with_reducible repeat (first | assumption | omega | apply S_I | apply S_L | apply S_D | apply ob_I | apply ob_L | apply ob_D | apply ob_R | apply ax_I | apply ax_L | apply ax_D | apply ax_R | apply o303 | apply o307 | apply o302 | apply o301 | apply ax304 | apply ax305 | apply ax306 | apply ax308 | apply ax309 | apply ax310 | apply lt_S | apply ar305 | apply ar308 | apply ar309)) only [g229_55, g229_56, g229_59, g229_62, g229_63, Option.toList, List.nil_append, List.cons_append, va_rf, nI_ltI, nI_leI, nI_eq, nI_add, nI_sub, nI_lt0, nI_e0, nI_m1, m1_nI, Nat.reduceEqDiff, Nat.reduceLT, Nat.reduceLeDiff, Nat.reduceAdd, Nat.reduceSub, Nat.reduceMul, ↓reduceIte, eq_self, e16, show ¬ nf ≤ f by omega, R1 _, g229_106, g229_109]
theorem m_reach4 {Gf : Nat → List (Nat × Nat)} {ft R0 : Nat → Bool} (S : am_S h) (F : FT h nf Gf ft) : ∀ q t g v w, nf - t = q → t ≤ nf → RA h g (rds Gf nf R0 t) → ∃ g', RA h g' (rds Gf nf R0 nf) ∧ ∀ Q, am_J (d + 1) 229 44 [some (.ref 349), some (.int (nI t)), v, w] [] g Q ↔ Q none g' := by
  have n8 := F.1
  intro q
  induction q with
  | zero =>
    intro t g v w hq hf A
    obtain rfl : t = nf := by omega
    have Sg := fr_S A.1 S
    have e16 : am_I g 349 16 = nI t := (fr_rdI A.1 (by decide)).trans F.2.1
    refine ⟨g, A, fun Q => ?_⟩
    rw [g229_44]
    simp (disch := first | with_reducible assumption | omega | exact Or.inl rfl | exact Or.inr rfl | exact bI_01 | exact c_cat | exact vt_ref | exact vt_null | rfl | with_reducible repeat (first | assumption | omega | apply S_I | apply S_L | apply S_D | apply ob_I | apply ob_L | apply ob_D | apply ob_R | apply ax_I | apply ax_L | apply ax_D | apply ax_R | apply o303 | apply o307 | apply o302 | apply o301 | apply ax304 | apply ax305 | apply ax306 | apply ax308 | apply ax309 | apply ax310 | apply lt_S | apply ar305 | apply ar308 | apply ar309)) only [g229_45, g229_46, g229_49, g229_118, Option.toList, List.nil_append, List.cons_append, va_rf, nI_ltI, nI_leI, nI_eq, nI_add, nI_sub, nI_lt0, nI_e0, nI_m1, m1_nI, Nat.reduceEqDiff, Nat.reduceLT, Nat.reduceLeDiff, Nat.reduceAdd, Nat.reduceSub, Nat.reduceMul, ↓reduceIte, eq_self, e16, Nat.le_refl]
  | succ q ih =>
    intro t g v w hq hf A
    have Sg := fr_S A.1 S
    have e16 : am_I g 349 16 = nI nf := (fr_rdI A.1 (by decide)).trans F.2.1
    obtain ⟨g1, v1, A1, R1⟩ := m_reach3 (d := d) (t := t) S F nf 0 g w (Nat.sub_zero _) (Nat.zero_le _) A
    obtain ⟨g', A', R⟩ := ih (t + 1) g1 (some (.int (nI nf))) v1 (by omega) (by omega) A1
    refine ⟨g', A', fun Q => ?_⟩
    rw [← R Q, g229_44]
    simp (disch := first | with_reducible assumption | omega | exact Or.inl rfl | exact Or.inr rfl | exact bI_01 | exact c_cat | exact vt_ref | exact vt_null | rfl | with_reducible repeat (first | assumption | omega | apply S_I | apply S_L | apply S_D | apply ob_I | apply ob_L | apply ob_D | apply ob_R | apply ax_I | apply ax_L | apply ax_D | apply ax_R | apply o303 | apply o307 | apply o302 | apply o301 | apply ax304 | apply ax305 | apply ax306 | apply ax308 | apply ax309 | apply ax310 | apply lt_S | apply ar305 | apply ar308 | apply ar309)) only [g229_45, g229_46, g229_49, g229_52, g229_53, Option.toList, List.nil_append, List.cons_append, va_rf, nI_ltI, nI_leI, nI_eq, nI_add, nI_sub, nI_lt0, nI_e0, nI_m1, m1_nI, Nat.reduceEqDiff, Nat.reduceLT, Nat.reduceLeDiff, Nat.reduceAdd, Nat.reduceSub, Nat.reduceMul, ↓reduceIte, eq_self, e16, show ¬ nf ≤ t by omega, R1 _, g229_112, g229_115]
/-- what the model reaches -/
theorem m_reach {Gf : Nat → List (Nat × Nat)} {ft : Nat → Bool} (S : am_S h) (F : FT h nf Gf ft) : ∃ g', am_run (d + 1) 229 [some (.ref 349), none, none, none] h none g' ∧ RA h g' (rds Gf nf (fun j => decide (j < nf) && ft j) nf) := by
  obtain ⟨g1, A1, R1⟩ := m_reach1 (d := d + 1) S F 8 0 h (Nat.sub_zero _) (Nat.zero_le _) fr_refl (fun j hj => absurd hj (Nat.not_lt_zero _))
  obtain ⟨g', A', R⟩ := m_reach4 (d := d) S F nf 0 g1 none none (Nat.sub_zero _) (Nat.zero_le _) A1
  refine ⟨g', fun Q => ?_, A'⟩
  rw [← R Q]
  simp (disch := first | with_reducible assumption | omega | exact Or.inl rfl | exact Or.inr rfl | exact bI_01 | exact c_cat | exact vt_ref | exact vt_null | rfl | with_reducible repeat (first | assumption | omega | apply S_I | apply S_L | apply S_D | apply ob_I | apply ob_L | apply ob_D | apply ob_R | apply ax_I | apply ax_L | apply ax_D | apply ax_R | apply o303 | apply o307 | apply o302 | apply o301 | apply ax304 | apply ax305 | apply ax306 | apply ax308 | apply ax309 | apply ax310 | apply lt_S | apply ar305 | apply ar308 | apply ar309)) only [g229_0, g229_1, R1 _, g229_42, g229_43, Option.toList, List.nil_append, List.cons_append, va_rf]
end MRC

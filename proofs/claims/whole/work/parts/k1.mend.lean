/-! RECALCULATE: the model's end -/
def shM (g : am_H) (c : Nat) : Int64 := if am_I g 365 c = nI 1 then am_L g 370 c else if am_I g 365 c = nI 2 then (am_D g 371 c).toInt64 else lN 0
section MEN
variable {d ed cnt : Nat} {h g : am_H} {v1 v2 : Option Value}
theorem m_shown {c st : Nat} (S : am_S g) (hc : c < 256) (e : am_I g 365 c = nI st) (hs : st < 100) (ok : st = 2 → okD (am_D g 371 c)) : am_run (d + 3) 268 [some (.ref 349), some (.int (nI c))] g (some (.long (shM g c))) g := fun Q => by
  unfold shM
  rw [e]
  by_cases c1 : st = 1
  · subst c1
    rw [if_pos rfl]
    simp (disch := first | with_reducible assumption | omega | exact Or.inl rfl | exact Or.inr rfl | exact bI_01 | exact c_cat | exact vt_ref | exact vt_null | rfl | with_reducible repeat (first | assumption | omega | apply S_I | apply S_L | apply S_D | apply ob_I | apply ob_L | apply ob_D | apply ob_R | apply ax_I | apply ax_L | apply ax_D | apply ax_R | apply o303 | apply o307 | apply o302 | apply o301 | apply ax304 | apply ax305 | apply ax306 | apply ax308 | apply ax309 | apply ax310 | apply lt_S | apply ar305 | apply ar308 | apply ar309)) only [g268_0, g268_1, g268_4, g268_7, g268_8, g268_9, g268_10, g268_13, g268_14, g268_15, g268_16, g268_19, g268_20, g268_23, g268_24, g268_25, g268_28, g268_29, g268_32, g268_33, g268_34, g268_35, g268_38, g268_39, g268_42, g268_43, g268_44, g268_47, g268_50, g268_51, Option.toList, List.nil_append, List.cons_append, va_rf, m_isCell1 hc, nI_ltI, nI_leI, nI_eq, nI_add, nI_sub, nI_lt0, nI_e0, nI_m1, m1_nI, Nat.reduceEqDiff, Nat.reduceLT, Nat.reduceLeDiff, Nat.reduceAdd, Nat.reduceSub, Nat.reduceMul, ↓reduceIte, eq_self, e]
  · rw [if_neg (fun z => c1 ((nI_eq (by omega) (by omega)).mp z))]
    by_cases c2 : st = 2
    · subst c2
      rw [if_pos rfl]
      have mb := m_bits (d := d) (h := g) (ok rfl)
      simp (disch := first | with_reducible assumption | omega | exact Or.inl rfl | exact Or.inr rfl | exact bI_01 | exact c_cat | exact vt_ref | exact vt_null | rfl | with_reducible repeat (first | assumption | omega | apply S_I | apply S_L | apply S_D | apply ob_I | apply ob_L | apply ob_D | apply ob_R | apply ax_I | apply ax_L | apply ax_D | apply ax_R | apply o303 | apply o307 | apply o302 | apply o301 | apply ax304 | apply ax305 | apply ax306 | apply ax308 | apply ax309 | apply ax310 | apply lt_S | apply ar305 | apply ar308 | apply ar309)) only [g268_0, g268_1, g268_4, g268_7, g268_8, g268_9, g268_10, g268_13, g268_14, g268_15, g268_16, g268_19, g268_20, g268_23, g268_24, g268_25, g268_28, g268_29, g268_32, g268_33, g268_34, g268_35, g268_38, g268_39, g268_42, g268_43, g268_44, g268_47, g268_50, g268_51, Option.toList, List.nil_append, List.cons_append, va_rf, m_isCell1 hc, nI_ltI, nI_leI, nI_eq, nI_add, nI_sub, nI_lt0, nI_e0, nI_m1, m1_nI, Nat.reduceEqDiff, Nat.reduceLT, Nat.reduceLeDiff, Nat.reduceAdd, Nat.reduceSub, Nat.reduceMul, ↓reduceIte, eq_self, e, mb _]
    · rw [if_neg (fun z => c2 ((nI_eq (by omega) (by omega)).mp z))]
      simp (disch := first | with_reducible assumption | omega | exact Or.inl rfl | exact Or.inr rfl | exact bI_01 | exact c_cat | exact vt_ref | exact vt_null | rfl | with_reducible repeat (first | assumption | omega | apply S_I | apply S_L | apply S_D | apply ob_I | apply ob_L | apply ob_D | apply ob_R | apply ax_I | apply ax_L | apply ax_D | apply ax_R | apply o303 | apply o307 | apply o302 | apply o301 | apply ax304 | apply ax305 | apply ax306 | apply ax308 | apply ax309 | apply ax310 | apply lt_S | apply ar305 | apply ar308 | apply ar309)) only [g268_0, g268_1, g268_4, g268_7, g268_8, g268_9, g268_10, g268_13, g268_14, g268_15, g268_16, g268_19, g268_20, g268_23, g268_24, g268_25, g268_28, g268_29, g268_32, g268_33, g268_34, g268_35, g268_38, g268_39, g268_42, g268_43, g268_44, g268_47, g268_50, g268_51, Option.toList, List.nil_append, List.cons_append, va_rf, m_isCell1 hc, nI_ltI, nI_leI, nI_eq, nI_add, nI_sub, nI_lt0, nI_e0, nI_m1, m1_nI, Nat.reduceEqDiff, Nat.reduceLT, Nat.reduceLeDiff, Nat.reduceAdd, Nat.reduceSub, Nat.reduceMul, ↓reduceIte, eq_self, e, c1, c2]
abbrev meP : Nat → Prop := fun a => (375 ≤ a ∧ a ≤ 378) ∨ a = 400 ∨ a = 401
theorem m_end1 (S : am_S h) (e86 : am_I h 349 86 = nI ed) (hed : ed < 100000) (ST : ∀ c, c < 256 → ∃ st, st ≤ 6 ∧ am_I h 365 c = nI st ∧ (st = 2 → okD (am_D h 371 c))) : ∀ q x g, 256 - x = q → x ≤ 256 → am_fr meP h g → (∀ j, j < x → am_I g 375 j = nI 0 ∧ am_I g 376 j = nI 0 ∧ am_I g 400 (256 * (ed % 10) + j) = am_I h 365 j ∧ am_L g 401 (256 * (ed % 10) + j) = shM h j) → (∀ j, ¬ (256 * (ed % 10) ≤ j ∧ j < 256 * (ed % 10) + 256) → am_I g 400 j = am_I h 400 j ∧ am_L g 401 j = am_L h 401 j) →
    ∃ g', am_fr meP h g' ∧ (∀ j, j < 256 → am_I g' 375 j = nI 0 ∧ am_I g' 376 j = nI 0 ∧ am_I g' 400 (256 * (ed % 10) + j) = am_I h 365 j ∧ am_L g' 401 (256 * (ed % 10) + j) = shM h j) ∧ (∀ j, ¬ (256 * (ed % 10) ≤ j ∧ j < 256 * (ed % 10) + 256) → am_I g' 400 j = am_I h 400 j ∧ am_L g' 401 j = am_L h 401 j) ∧ ∀ Q, am_J (d + 4) 227 118 [some (.ref 349), v1, some (.int (nI x))] [] g Q ↔ am_J (d + 4) 227 192 [some (.ref 349), v1, some (.int (nI 256))] [] g' Q := by
  have m10 : ed % 10 < 10 := Nat.mod_lt _ (by decide)
  have r1 : nI ed - nI ed / nI 10 * nI 10 = nI (ed % 10) := nI_rem (by omega) (by decide) (by decide)
  have n10 : ¬ nI 10 = 0 := by decide
  intro q
  induction q with
  | zero =>
    intro x g hq hx F H O
    obtain rfl : x = 256 := by omega
    refine ⟨g, F, H, O, fun Q => ?_⟩
    rw [g227_118]
    simp (disch := first | with_reducible assumption | omega | exact Or.inl rfl | exact Or.inr rfl | exact bI_01 | exact c_cat | exact vt_ref | exact vt_null | rfl | with_reducible repeat (first | assumption | omega | apply S_I | apply S_L | apply S_D | apply ob_I | apply ob_L | apply ob_D | apply ob_R | apply ax_I | apply ax_L | apply ax_D | apply ax_R | apply o303 | apply o307 | apply o302 | apply o301 | apply ax304 | apply ax305 | apply ax306 | apply ax308 | apply ax309 | apply ax310 | apply lt_S | apply ar305 | apply ar308 | apply ar309)) only [g227_119, g227_122, Option.toList, List.nil_append, List.cons_append, va_rf, nI_ltI, nI_leI, nI_eq, nI_add, nI_sub, nI_lt0, nI_e0, nI_m1, m1_nI, Nat.reduceEqDiff, Nat.reduceLT, Nat.reduceLeDiff, Nat.reduceAdd, Nat.reduceSub, Nat.reduceMul, ↓reduceIte, eq_self, Nat.le_refl]
  | succ q ih =>
    intro x g hq hx F H O
    have hx' : x < 256 := by omega
    have Sg := fr_S F S
    have e86' : am_I g 349 86 = nI ed := (fr_rdI F (by decide)).trans e86
    obtain ⟨st, s1, s2, s3⟩ := ST x hx'
    have s2' : am_I g 365 x = nI st := (fr_rdI F (by decide)).trans s2
    have i2 : 256 * (ed % 10) + x < 2560 := by omega
    have sm : shM (am_setI (am_setI (am_setI g 375 x (nI 0)) 376 x (nI 0)) 400 (256 * (ed % 10) + x) (nI st)) x = shM h x := by
      unfold shM
      rw [rI_a (by decide), rI_a (by decide), rI_a (by decide), fr_rdI F (by decide), hL_I, hL_I, hL_I, fr_rdL F (by decide), hD_I, hD_I, hD_I, fr_rdD F (by decide)]
    have Sg2 : am_S (am_setI (am_setI (am_setI g 375 x (nI 0)) 376 x (nI 0)) 400 (256 * (ed % 10) + x) (nI st)) := Sg
    have ms := m_shown (d := d) (g := am_setI (am_setI (am_setI g 375 x (nI 0)) 376 x (nI 0)) 400 (256 * (ed % 10) + x) (nI st)) Sg2 hx' (by rw [rI_a (by decide), rI_a (by decide), rI_a (by decide)]; exact s2') (by omega) (fun z => by rw [hD_I, hD_I, hD_I, fr_rdD F (by decide)]; exact s3 z)
    rw [sm] at ms
    obtain ⟨g', F', a1, a2, R'⟩ := ih (x + 1) (am_setL (am_setI (am_setI (am_setI g 375 x (nI 0)) 376 x (nI 0)) 400 (256 * (ed % 10) + x) (nI st)) 401 (256 * (ed % 10) + x) (shM h x)) (by omega) (by omega) (fr_L (fr_I (fr_I (fr_I F (by omega)) (by omega)) (by omega)) (by omega)) (fun j hj => by
      by_cases e : j = x
      · subst e
        refine ⟨?_, ?_, ?_, rL_eq⟩
        · rw [hI_L, rI_a (by decide), rI_a (by decide), rI_eq]
        · rw [hI_L, rI_a (by decide), rI_eq]
        · rw [hI_L, rI_eq]; exact s2.symm
      · obtain ⟨b1, b2, b3, b4⟩ := H j (by omega)
        refine ⟨?_, ?_, ?_, ?_⟩
        · rw [hI_L, rI_a (by decide), rI_a (by decide), rI_k e]; exact b1
        · rw [hI_L, rI_a (by decide), rI_k e, rI_a (by decide)]; exact b2
        · rw [hI_L, rI_k (by omega), rI_a (by decide), rI_a (by decide)]; exact b3
        · rw [rL_k (by omega), hL_I, hL_I, hL_I]; exact b4) (fun j hj => by
      rw [hI_L, rI_k (by omega), rI_a (by decide), rI_a (by decide), rL_k (by omega), hL_I, hL_I, hL_I]; exact O j hj)
    refine ⟨g', F', a1, a2, fun Q => ?_⟩
    rw [← R' Q, g227_118]
    simp (disch := first | with_reducible assumption | omega | exact Or.inl rfl | exact Or.inr rfl | exact bI_01 | exact c_cat | exact vt_ref | exact vt_null | rfl | with_reducible repeat (first | assumption | omega | apply S_I | apply S_L | apply S_D | apply ob_I | apply ob_L | apply ob_D | apply ob_R | apply ax_I | apply ax_L | apply ax_D | apply ax_R | apply o303 | apply o307 | apply o302 | apply o301 | apply ax304 | apply ax305 | apply ax306 | apply ax308 | apply ax309 | apply ax310 | apply lt_S | apply ar305 | apply ar308 | apply ar309)) only [g227_119, g227_122, g227_125, g227_126, g227_129, g227_130, g227_131, g227_132, g227_133, g227_136, g227_137, g227_138, g227_139, g227_140, g227_143, g227_146, g227_147, g227_150, g227_152, g227_153, g227_154, g227_155, g227_156, g227_157, g227_160, g227_161, g227_162, g227_163, g227_164, g227_167, g227_170, g227_171, g227_174, g227_176, g227_177, g227_178, g227_179, g227_180, g227_181, g227_182, g227_185, g227_186, g227_189, Option.toList, List.nil_append, List.cons_append, va_rf, nI_ltI, nI_leI, nI_eq, nI_add, nI_lt0, nI_e0, nI_m1, m1_nI, Nat.reduceEqDiff, Nat.reduceLT, Nat.reduceLeDiff, Nat.reduceAdd, Nat.reduceSub, Nat.reduceMul, ↓reduceIte, eq_self, hI_I, hI_L, hI_D, hI_R, hL_I, hL_L, hL_D, hL_R, hD_I, hD_L, hD_D, hD_R, hR_I, hR_L, hR_D, ↓reduceIte, Nat.reduceEqDiff, show ¬ 256 ≤ x by omega, e86', r1, nI_mul, s2', ms _]
theorem m_end2 (S : am_S h) : ∀ q f g, 8 - f = q → f ≤ 8 → am_fr (fun a => a = 377) h g → (∀ j, j < f → am_I g 377 j = nI 0) → ∃ g', am_fr (fun a => a = 377) h g' ∧ (∀ j, j < 8 → am_I g' 377 j = nI 0) ∧ ∀ Q, am_J d 227 194 [some (.ref 349), v1, some (.int (nI f))] [] g Q ↔ am_J d 227 213 [some (.ref 349), v1, some (.int (nI 8))] [] g' Q := by
  intro q
  induction q with
  | zero =>
    intro f g hq hf F H
    obtain rfl : f = 8 := by omega
    refine ⟨g, F, H, fun Q => ?_⟩
    rw [g227_194]
    simp (disch := first | with_reducible assumption | omega | exact Or.inl rfl | exact Or.inr rfl | exact bI_01 | exact c_cat | exact vt_ref | exact vt_null | rfl | with_reducible repeat (first | assumption | omega | apply S_I | apply S_L | apply S_D | apply ob_I | apply ob_L | apply ob_D | apply ob_R | apply ax_I | apply ax_L | apply ax_D | apply ax_R | apply o303 | apply o307 | apply o302 | apply o301 | apply ax304 | apply ax305 | apply ax306 | apply ax308 | apply ax309 | apply ax310 | apply lt_S | apply ar305 | apply ar308 | apply ar309)) only [g227_195, g227_197, Option.toList, List.nil_append, List.cons_append, va_rf, nI_ltI, nI_leI, nI_eq, nI_add, nI_sub, nI_lt0, nI_e0, nI_m1, m1_nI, Nat.reduceEqDiff, Nat.reduceLT, Nat.reduceLeDiff, Nat.reduceAdd, Nat.reduceSub, Nat.reduceMul, ↓reduceIte, eq_self, Nat.le_refl]
  | succ q ih =>
    intro f g hq hf F H
    have Sg := fr_S F S
    obtain ⟨g', F', a1, R'⟩ := ih (f + 1) (am_setI g 377 f (nI 0)) (by omega) (by omega) (fr_I F rfl) (fun j hj => by
      by_cases e : j = f
      · rw [e, rI_eq]
      · rw [rI_k e]; exact H j (by omega))
    refine ⟨g', F', a1, fun Q => ?_⟩
    rw [← R' Q, g227_194]
    simp (disch := first | with_reducible assumption | omega | exact Or.inl rfl | exact Or.inr rfl | exact bI_01 | exact c_cat | exact vt_ref | exact vt_null | rfl | with_reducible repeat (first | assumption | omega | apply S_I | apply S_L | apply S_D | apply ob_I | apply ob_L | apply ob_D | apply ob_R | apply ax_I | apply ax_L | apply ax_D | apply ax_R | apply o303 | apply o307 | apply o302 | apply o301 | apply ax304 | apply ax305 | apply ax306 | apply ax308 | apply ax309 | apply ax310 | apply lt_S | apply ar305 | apply ar308 | apply ar309)) only [g227_195, g227_197, g227_200, g227_201, g227_204, g227_205, g227_206, g227_207, g227_210, Option.toList, List.nil_append, List.cons_append, va_rf, nI_ltI, nI_leI, nI_eq, nI_add, nI_sub, nI_lt0, nI_e0, nI_m1, m1_nI, Nat.reduceEqDiff, Nat.reduceLT, Nat.reduceLeDiff, Nat.reduceAdd, Nat.reduceSub, Nat.reduceMul, ↓reduceIte, eq_self, show ¬ 8 ≤ f by omega]
theorem m_end3 (S : am_S h) : ∀ q f g, 4 - f = q → f ≤ 4 → am_fr (fun a => a = 378) h g → (∀ j, j < f → am_I g 378 j = nI 0) → ∃ g', am_fr (fun a => a = 378) h g' ∧ (∀ j, j < 4 → am_I g' 378 j = nI 0) ∧ ∀ Q, am_J d 227 215 [some (.ref 349), v1, some (.int (nI f))] [] g Q ↔ am_J d 227 233 [some (.ref 349), v1, some (.int (nI 4))] [] g' Q := by
  intro q
  induction q with
  | zero =>
    intro f g hq hf F H
    obtain rfl : f = 4 := by omega
    refine ⟨g, F, H, fun Q => ?_⟩
    rw [g227_215]
    simp (disch := first | with_reducible assumption | omega | exact Or.inl rfl | exact Or.inr rfl | exact bI_01 | exact c_cat | exact vt_ref | exact vt_null | rfl | with_reducible repeat (first | assumption | omega | apply S_I | apply S_L | apply S_D | apply ob_I | apply ob_L | apply ob_D | apply ob_R | apply ax_I | apply ax_L | apply ax_D | apply ax_R | apply o303 | apply o307 | apply o302 | apply o301 | apply ax304 | apply ax305 | apply ax306 | apply ax308 | apply ax309 | apply ax310 | apply lt_S | apply ar305 | apply ar308 | apply ar309)) only [g227_216, g227_217, Option.toList, List.nil_append, List.cons_append, va_rf, nI_ltI, nI_leI, nI_eq, nI_add, nI_sub, nI_lt0, nI_e0, nI_m1, m1_nI, Nat.reduceEqDiff, Nat.reduceLT, Nat.reduceLeDiff, Nat.reduceAdd, Nat.reduceSub, Nat.reduceMul, ↓reduceIte, eq_self, Nat.le_refl]
  | succ q ih =>
    intro f g hq hf F H
    have Sg := fr_S F S
    obtain ⟨g', F', a1, R'⟩ := ih (f + 1) (am_setI g 378 f (nI 0)) (by omega) (by omega) (fr_I F rfl) (fun j hj => by
      by_cases e : j = f
      · rw [e, rI_eq]
      · rw [rI_k e]; exact H j (by omega))
    refine ⟨g', F', a1, fun Q => ?_⟩
    rw [← R' Q, g227_215]
    simp (disch := first | with_reducible assumption | omega | exact Or.inl rfl | exact Or.inr rfl | exact bI_01 | exact c_cat | exact vt_ref | exact vt_null | rfl | with_reducible repeat (first | assumption | omega | apply S_I | apply S_L | apply S_D | apply ob_I | apply ob_L | apply ob_D | apply ob_R | apply ax_I | apply ax_L | apply ax_D | apply ax_R | apply o303 | apply o307 | apply o302 | apply o301 | apply ax304 | apply ax305 | apply ax306 | apply ax308 | apply ax309 | apply ax310 | apply lt_S | apply ar305 | apply ar308 | apply ar309)) only [g227_216, g227_217, g227_220, g227_221, g227_224, g227_225, g227_226, g227_227, g227_230, Option.toList, List.nil_append, List.cons_append, va_rf, nI_ltI, nI_leI, nI_eq, nI_add, nI_sub, nI_lt0, nI_e0, nI_m1, m1_nI, Nat.reduceEqDiff, Nat.reduceLT, Nat.reduceLeDiff, Nat.reduceAdd, Nat.reduceSub, Nat.reduceMul, ↓reduceIte, eq_self, show ¬ 4 ≤ f by omega]
/-- the end as a whole -/
theorem m_endR (S : am_S h) (e86 : am_I h 349 86 = nI ed) (hed : ed < 100000) (e81 : am_I h 349 81 = nI cnt) (ST : ∀ c, c < 256 → ∃ st, st ≤ 6 ∧ am_I h 365 c = nI st ∧ (st = 2 → okD (am_D h 371 c))) :
    ∃ g, am_fr (fun a => a = 349 ∨ meP a) h g ∧ (∀ k, k ≠ 86 → am_I g 349 k = am_I h 349 k) ∧ am_I g 349 86 = nI (ed + 1) ∧ (∀ j, j < 256 → am_I g 375 j = nI 0 ∧ am_I g 376 j = nI 0 ∧ am_I g 400 (256 * (ed % 10) + j) = am_I h 365 j ∧ am_L g 401 (256 * (ed % 10) + j) = shM h j) ∧ (∀ j, ¬ (256 * (ed % 10) ≤ j ∧ j < 256 * (ed % 10) + 256) → am_I g 400 j = am_I h 400 j ∧ am_L g 401 j = am_L h 401 j) ∧ (∀ j, j < 8 → am_I g 377 j = nI 0) ∧ (∀ j, j < 4 → am_I g 378 j = nI 0) ∧ ∀ Q, am_J (d + 4) 227 116 [some (.ref 349), v1, v2] [] h Q ↔ Q (some (.int (nI cnt))) g := by
  obtain ⟨g1, F1, a1, a2, R1⟩ := m_end1 (d := d) (v1 := v1) S e86 hed ST 256 0 h rfl (Nat.zero_le _) fr_refl (fun j hj => absurd hj (Nat.not_lt_zero _)) (fun _ _ => ⟨rfl, rfl⟩)
  have S1 := fr_S F1 S
  obtain ⟨g2, F2, b1, R2⟩ := m_end2 (d := d + 4) (v1 := v1) S1 8 0 g1 rfl (Nat.zero_le _) fr_refl (fun j hj => absurd hj (Nat.not_lt_zero _))
  have S2 := fr_S F2 S1
  obtain ⟨g3, F3, c1, R3⟩ := m_end3 (d := d + 4) (v1 := v1) S2 4 0 g2 rfl (Nat.zero_le _) fr_refl (fun j hj => absurd hj (Nat.not_lt_zero _))
  have S3 := fr_S F3 S2
  have F23 : am_fr (fun a => a = 377 ∨ a = 378) g1 g3 := fr_trans (fr_mono (fun a ha => Or.inl ha) F2) (fr_mono (fun a ha => Or.inr ha) F3)
  have i86 : am_I g3 349 86 = nI ed := (fr_rdI F23 (by decide)).trans ((fr_rdI F1 (by decide)).trans e86)
  have i81 : am_I g3 349 81 = nI cnt := (fr_rdI F23 (by decide)).trans ((fr_rdI F1 (by decide)).trans e81)
  have F13 : am_fr meP h g3 := fr_trans F1 (fr_mono (fun a ha => by omega) F23)
  refine ⟨am_setI g3 349 86 (nI (ed + 1)), fr_I (fr_mono (fun a ha => Or.inr ha) F13) (Or.inl rfl), fun k hk => by rw [rI_k hk]; exact fr_rdI F13 (by decide), rI_eq, fun j hj => ?_, fun j hj => ?_, fun j hj => ?_, fun j hj => by rw [rI_a (by decide)]; exact c1 j hj, fun Q => ?_⟩
  · obtain ⟨z1, z2, z3, z4⟩ := a1 j hj
    rw [rI_a (by decide), rI_a (by decide), rI_a (by decide), hL_I, fr_rdI F23 (by decide), fr_rdI F23 (by decide), fr_rdI F23 (by decide), fr_rdL F23 (by decide)]
    exact ⟨z1, z2, z3, z4⟩
  · rw [rI_a (by decide), hL_I, fr_rdI F23 (by decide), fr_rdL F23 (by decide)]; exact a2 j hj
  · rw [rI_a (by decide), fr_rdI F3 (by decide)]; exact b1 j hj
  · simp (disch := first | with_reducible assumption | omega | exact Or.inl rfl | exact Or.inr rfl | exact bI_01 | exact c_cat | exact vt_ref | exact vt_null | rfl | with_reducible repeat (first | assumption | omega | apply S_I | apply S_L | apply S_D | apply ob_I | apply ob_L | apply ob_D | apply ob_R | apply ax_I | apply ax_L | apply ax_D | apply ax_R | apply o303 | apply o307 | apply o302 | apply o301 | apply ax304 | apply ax305 | apply ax306 | apply ax308 | apply ax309 | apply ax310 | apply lt_S | apply ar305 | apply ar308 | apply ar309)) only [g227_116, g227_117, R1 _, g227_192, g227_193, R2 _, g227_213, g227_214, R3 _, g227_233, g227_234, g227_235, g227_238, g227_239, g227_240, g227_243, g227_244, g227_247, Option.toList, List.nil_append, List.cons_append, va_rf, nI_ltI, nI_leI, nI_eq, nI_add, nI_sub, nI_lt0, nI_e0, nI_m1, m1_nI, Nat.reduceEqDiff, Nat.reduceLT, Nat.reduceLeDiff, Nat.reduceAdd, Nat.reduceSub, Nat.reduceMul, ↓reduceIte, eq_self, hI_I, hI_L, hI_D, hI_R, hL_I, hL_L, hL_D, hL_R, hD_I, hD_L, hD_D, hD_R, hR_I, hR_L, hR_D, ↓reduceIte, Nat.reduceEqDiff, i86, i81]
end MEN

/-! THE MODEL: what has changed -/
/-- the cells' slots, needs and calls as the model has them -/
def CDm (h : am_H) (mb : Nat → Bool) (sl : Nat → Nat) (nl : Nat → List Nat) (Gc : Nat → List (Nat × Nat)) (nf : Nat) : Prop := ∀ c, c < 256 → MNd h c (nl c) ∧ (mb c = false → am_I h 369 c = -1) ∧ (mb c = true → am_I h 369 c = nI (sl c) ∧ sl c < 48 ∧ (∃ m, SLc h (sl c) m (Gc c)) ∧ ∀ z, z ∈ Gc c → z.1 < nf)
section MCG
variable {d nf : Nat} {g h : am_H} {mb r td ft b ch tl : Nat → Bool} {sl nc : Nat → Nat} {nl : Nat → List Nat} {Gc : Nat → List (Nat × Nat)} {Gk : Nat → Nat → List (Nat × Nat)}
theorem CDm_fr {P : Nat → Prop} (F : am_fr P h g) (hP : ∀ a, (352 ≤ a ∧ a ≤ 364) ∨ a = 369 → ¬ P a) (C : CDm h mb sl nl Gc nf) : CDm g mb sl nl Gc nf := fun c hc => by
  obtain ⟨c1, c2, c3⟩ := C c hc
  refine ⟨MNd_fr F (hP _ (by omega)) (hP _ (by omega)) (hP _ (by omega)) (hP _ (by omega)) (hP _ (by omega)) (hP _ (by omega)) (hP _ (by omega)) c1, fun q => (fr_rdI F (hP _ (by omega))).trans (c2 q), fun q => ?_⟩
  obtain ⟨a1, a2, ⟨m, a3⟩, a4⟩ := c3 q
  exact ⟨(fr_rdI F (hP _ (by omega))).trans a1, a2, ⟨m, SLc_fr F (hP _ (by omega)) (hP _ (by omega)) (hP _ (by omega)) (hP _ (by omega)) (hP _ (by omega)) (hP _ (by omega)) a3⟩, a4⟩
/-- the sheets' flags -/
theorem m_chgA1 (n8 : nf ≤ 8) {s : Nat} (s4 : s < 4) (n5 : nc s ≤ 5) (hG : ∀ k, k < nc s → ∀ z, z ∈ Gk s k → z.1 < nf) : ∀ q k g, nc s - k = q → k ≤ nc s → am_S g → am_I g 349 16 = nI nf → (∀ j, j < 8 → am_I g 393 j = bI (r j)) → am_I g 362 s = nI (nc s) → (∀ k, k < nc s → ∃ m, SLc g (56 + 5 * s + k) m (Gk s k)) → am_I g 378 s = bI (tl s || orU (fun k => hit r (Gk s k)) k) →
    ∃ g', am_fr (fun a => a = 378) g g' ∧ (∀ j, j ≠ s → am_I g' 378 j = am_I g 378 j) ∧ am_I g' 378 s = bI (tl s || orU (fun k => hit r (Gk s k)) (nc s)) ∧ ∀ v3 Q, am_J (d + 2) 228 13 [some (.ref 349), some (.int (nI s)), some (.int (nI k)), v3] [] g Q ↔ am_J (d + 2) 228 64 [some (.ref 349), some (.int (nI s)), some (.int (nI (nc s))), v3] [] g' Q := by
  intro q
  induction q with
  | zero =>
    intro k g hq hk S e16 R en H e
    obtain rfl : k = nc s := by omega
    refine ⟨g, fr_refl, fun _ _ => rfl, e, fun v3 Q => ?_⟩
    rw [g228_13]
    simp (disch := first | with_reducible assumption | omega | exact Or.inl rfl | exact Or.inr rfl | exact bI_01 | exact c_cat | exact vt_ref | exact vt_null | rfl | with_reducible repeat (first | assumption | omega | apply S_I | apply S_L | apply S_D | apply ob_I | apply ob_L | apply ob_D | apply ob_R | apply ax_I | apply ax_L | apply ax_D | apply ax_R | apply o303 | apply o307 | apply o302 | apply o301 | apply ax304 | apply ax305 | apply ax306 | apply ax308 | apply ax309 | apply ax310 | apply lt_S | apply ar305 | apply ar308 | apply ar309)) only [g228_14, g228_15, g228_18, g228_19, g228_20, Option.toList, List.nil_append, List.cons_append, va_rf, nI_ltI, nI_leI, nI_eq, nI_add, nI_sub, nI_lt0, nI_e0, nI_m1, m1_nI, Nat.reduceEqDiff, Nat.reduceLT, Nat.reduceLeDiff, Nat.reduceAdd, Nat.reduceSub, Nat.reduceMul, ↓reduceIte, eq_self, en, Nat.le_refl]
  | succ q ih =>
    intro k g hq hk S e16 R en H e
    have hk' : k < nc s := by omega
    obtain ⟨m, A⟩ := H k hk'
    have ir := m_isReached (d := d) S n8 e16 R A (hG k hk')
    rw [show 56 + 5 * s + k = 56 + (5 * s + k) by omega] at ir
    have F1 : am_fr (fun a => a = 378) g (am_setI g 378 s (bI (tl s || orU (fun k => hit r (Gk s k)) (k + 1)))) := fr_I fr_refl rfl
    obtain ⟨g', F', n', e', R'⟩ := ih (k + 1) _ (by omega) (by omega) (fr_S F1 S) (by rw [rI_a (by decide)]; exact e16) (fun j hj => by rw [rI_a (by decide)]; exact R j hj) (by rw [rI_a (by decide)]; exact en) (fun k hk => by
      obtain ⟨m, A⟩ := H k hk
      exact ⟨m, SLc_fr F1 (by decide) (by decide) (by decide) (by decide) (by decide) (by decide) A⟩) rI_eq
    refine ⟨g', fr_trans F1 F', fun j hj => (n' j hj).trans (rI_k hj), e', fun v3 Q => ?_⟩
    have eo : orU (fun k => hit r (Gk s k)) (k + 1) = (orU (fun k => hit r (Gk s k)) k || hit r (Gk s k)) := rfl
    rw [← R' v3 Q, g228_13, eo]
    cases ho : (tl s || orU (fun k => hit r (Gk s k)) k) with
    | true =>
      rw [ho] at e
      rw [← Bool.or_assoc, ho, Bool.true_or]
      simp (disch := first | with_reducible assumption | omega | exact Or.inl rfl | exact Or.inr rfl | exact bI_01 | exact c_cat | exact vt_ref | exact vt_null | rfl | with_reducible repeat (first | assumption | omega | apply S_I | apply S_L | apply S_D | apply ob_I | apply ob_L | apply ob_D | apply ob_R | apply ax_I | apply ax_L | apply ax_D | apply ax_R | apply o303 | apply o307 | apply o302 | apply o301 | apply ax304 | apply ax305 | apply ax306 | apply ax308 | apply ax309 | apply ax310 | apply lt_S | apply ar305 | apply ar308 | apply ar309)) only [g228_14, g228_15, g228_18, g228_19, g228_20, g228_23, g228_24, g228_27, g228_28, g228_29, g228_32, g228_33, g228_34, g228_37, g228_38, g228_40, g228_41, g228_42, g228_43, g228_44, g228_45, g228_46, g228_49, g228_52, g228_53, g228_56, g228_57, g228_58, g228_61, Option.toList, List.nil_append, List.cons_append, va_rf, nI_ltI, nI_leI, nI_eq, nI_add, nI_sub, nI_lt0, nI_e0, nI_m1, m1_nI, Nat.reduceEqDiff, Nat.reduceLT, Nat.reduceLeDiff, Nat.reduceAdd, Nat.reduceSub, Nat.reduceMul, ↓reduceIte, eq_self, en, show ¬ nc s ≤ k by omega, e, bI_t]
    | false =>
      rw [ho] at e
      rw [← Bool.or_assoc, ho, Bool.false_or]
      cases hh : hit r (Gk s k) with
      | true =>
        rw [hh] at ir
        simp (disch := first | with_reducible assumption | omega | exact Or.inl rfl | exact Or.inr rfl | exact bI_01 | exact c_cat | exact vt_ref | exact vt_null | rfl | with_reducible repeat (first | assumption | omega | apply S_I | apply S_L | apply S_D | apply ob_I | apply ob_L | apply ob_D | apply ob_R | apply ax_I | apply ax_L | apply ax_D | apply ax_R | apply o303 | apply o307 | apply o302 | apply o301 | apply ax304 | apply ax305 | apply ax306 | apply ax308 | apply ax309 | apply ax310 | apply lt_S | apply ar305 | apply ar308 | apply ar309)) only [g228_14, g228_15, g228_18, g228_19, g228_20, g228_23, g228_24, g228_27, g228_28, g228_29, g228_32, g228_33, g228_34, g228_37, g228_38, g228_40, g228_41, g228_42, g228_43, g228_44, g228_45, g228_46, g228_49, g228_52, g228_53, g228_56, g228_57, g228_58, g228_61, Option.toList, List.nil_append, List.cons_append, va_rf, nI_ltI, nI_leI, nI_eq, nI_add, nI_sub, nI_lt0, nI_e0, nI_m1, m1_nI, Nat.reduceEqDiff, Nat.reduceLT, Nat.reduceLeDiff, Nat.reduceAdd, Nat.reduceSub, Nat.reduceMul, ↓reduceIte, eq_self, en, show ¬ nc s ≤ k by omega, e, bI_t, bI_f, nI_mul, Nat.add_assoc, ir _]
      | false =>
        rw [hh] at ir
        simp (disch := first | with_reducible assumption | omega | exact Or.inl rfl | exact Or.inr rfl | exact bI_01 | exact c_cat | exact vt_ref | exact vt_null | rfl | with_reducible repeat (first | assumption | omega | apply S_I | apply S_L | apply S_D | apply ob_I | apply ob_L | apply ob_D | apply ob_R | apply ax_I | apply ax_L | apply ax_D | apply ax_R | apply o303 | apply o307 | apply o302 | apply o301 | apply ax304 | apply ax305 | apply ax306 | apply ax308 | apply ax309 | apply ax310 | apply lt_S | apply ar305 | apply ar308 | apply ar309)) only [g228_14, g228_15, g228_18, g228_19, g228_20, g228_23, g228_24, g228_27, g228_28, g228_29, g228_32, g228_33, g228_34, g228_37, g228_38, g228_40, g228_41, g228_42, g228_43, g228_44, g228_45, g228_46, g228_49, g228_52, g228_53, g228_56, g228_57, g228_58, g228_61, Option.toList, List.nil_append, List.cons_append, va_rf, nI_ltI, nI_leI, nI_eq, nI_add, nI_sub, nI_lt0, nI_e0, nI_m1, m1_nI, Nat.reduceEqDiff, Nat.reduceLT, Nat.reduceLeDiff, Nat.reduceAdd, Nat.reduceSub, Nat.reduceMul, ↓reduceIte, eq_self, en, show ¬ nc s ≤ k by omega, e, bI_f, nI_mul, Nat.add_assoc, ir _]
theorem m_chgA (n8 : nf ≤ 8) (n5 : ∀ s, s < 4 → nc s ≤ 5) (hG : ∀ s, s < 4 → ∀ k, k < nc s → ∀ z, z ∈ Gk s k → z.1 < nf) (hb : ∀ s, s < 4 → b s = (tl s || orU (fun k => hit r (Gk s k)) (nc s))) : ∀ q s g v2, 4 - s = q → s ≤ 4 → am_S g → am_I g 349 16 = nI nf → (∀ j, j < 8 → am_I g 393 j = bI (r j)) → (∀ s, s < 4 → am_I g 362 s = nI (nc s)) → (∀ s, s < 4 → ∀ k, k < nc s → ∃ m, SLc g (56 + 5 * s + k) m (Gk s k)) → (∀ j, j < s → am_I g 378 j = bI (b j)) → (∀ j, s ≤ j → j < 4 → am_I g 378 j = bI (tl j)) →
    ∃ g' v2', am_fr (fun a => a = 378) g g' ∧ (∀ j, j < 4 → am_I g' 378 j = bI (b j)) ∧ ∀ v3 Q, am_J (d + 2) 228 6 [some (.ref 349), some (.int (nI s)), v2, v3] [] g Q ↔ am_J (d + 2) 228 70 [some (.ref 349), some (.int (nI 4)), v2', v3] [] g' Q := by
  intro q
  induction q with
  | zero =>
    intro s g v2 hq hs S e16 R en H e1 e2
    obtain rfl : s = 4 := by omega
    refine ⟨g, v2, fr_refl, e1, fun v3 Q => ?_⟩
    rw [g228_6]
    simp (disch := first | with_reducible assumption | omega | exact Or.inl rfl | exact Or.inr rfl | exact bI_01 | exact c_cat | exact vt_ref | exact vt_null | rfl | with_reducible repeat (first | assumption | omega | apply S_I | apply S_L | apply S_D | apply ob_I | apply ob_L | apply ob_D | apply ob_R | apply ax_I | apply ax_L | apply ax_D | apply ax_R | apply o303 | apply o307 | apply o302 | apply o301 | apply ax304 | apply ax305 | apply ax306 | apply ax308 | apply ax309 | apply ax310 | apply lt_S | apply ar305 | apply ar308 | apply ar309)) only [g228_7, g228_8, Option.toList, List.nil_append, List.cons_append, va_rf, nI_ltI, nI_leI, nI_eq, nI_add, nI_sub, nI_lt0, nI_e0, nI_m1, m1_nI, Nat.reduceEqDiff, Nat.reduceLT, Nat.reduceLeDiff, Nat.reduceAdd, Nat.reduceSub, Nat.reduceMul, ↓reduceIte, eq_self, Nat.le_refl]
  | succ q ih =>
    intro s g v2 hq hs S e16 R en H e1 e2
    have s4 : s < 4 := by omega
    obtain ⟨g1, F1, n1, a1, R1⟩ := m_chgA1 (d := d) (tl := tl) (r := r) (Gk := Gk) n8 s4 (n5 s s4) (hG s s4) (nc s) 0 g (Nat.sub_zero _) (Nat.zero_le _) S e16 R (en s s4) (H s s4) (by rw [e2 s (Nat.le_refl _) s4, show orU (fun k => hit r (Gk s k)) 0 = false from rfl, Bool.or_false])
    obtain ⟨g', v2', F', a', R'⟩ := ih (s + 1) g1 (some (.int (nI (nc s)))) (by omega) (by omega) (fr_S F1 S) ((fr_rdI F1 (by decide)).trans e16) (fun j hj => (fr_rdI F1 (by decide)).trans (R j hj)) (fun j hj => (fr_rdI F1 (by decide)).trans (en j hj)) (fun j hj k hk => by
      obtain ⟨m, A⟩ := H j hj k hk
      exact ⟨m, SLc_fr F1 (by decide) (by decide) (by decide) (by decide) (by decide) (by decide) A⟩) (fun j hj => by
      by_cases e : j = s
      · subst e; rw [a1, hb j s4]
      · exact (n1 j e).trans (e1 j (by omega))) (fun j h1 h2 => (n1 j (by omega)).trans (e2 j (by omega) h2))
    refine ⟨g', v2', fr_trans F1 F', a', fun v3 Q => ?_⟩
    rw [← R' v3 Q, g228_6]
    simp (disch := first | with_reducible assumption | omega | exact Or.inl rfl | exact Or.inr rfl | exact bI_01 | exact c_cat | exact vt_ref | exact vt_null | rfl | with_reducible repeat (first | assumption | omega | apply S_I | apply S_L | apply S_D | apply ob_I | apply ob_L | apply ob_D | apply ob_R | apply ax_I | apply ax_L | apply ax_D | apply ax_R | apply o303 | apply o307 | apply o302 | apply o301 | apply ax304 | apply ax305 | apply ax306 | apply ax308 | apply ax309 | apply ax310 | apply lt_S | apply ar305 | apply ar308 | apply ar309)) only [g228_7, g228_8, g228_11, g228_12, Option.toList, List.nil_append, List.cons_append, va_rf, nI_ltI, nI_leI, nI_eq, nI_add, nI_sub, nI_lt0, nI_e0, nI_m1, m1_nI, Nat.reduceEqDiff, Nat.reduceLT, Nat.reduceLeDiff, Nat.reduceAdd, Nat.reduceSub, Nat.reduceMul, ↓reduceIte, eq_self, show ¬ 4 ≤ s by omega, R1 v3 _, g228_64, g228_67]
/-- the roots -/
def roM (ft b r : Nat → Bool) (Gc : Nat → List (Nat × Nat)) (x : Nat) : Bool := (ft x || b (x / 64)) || hit r (Gc x)
theorem m_chgB (n8 : nf ≤ 8) : ∀ q x g, 256 - x = q → x ≤ 256 → am_S g → am_I g 349 16 = nI nf → (∀ j, j < 8 → am_I g 393 j = bI (r j)) → CDm g mb sl nl Gc nf → (∀ s, s < 4 → am_I g 378 s = bI (b s)) → (∀ c, c < 256 → am_I g 376 c = bI (ft c)) → (∀ j, j < x → am_I g 392 j = bI (mb j && roM ft b r Gc j)) →
    ∃ g', am_fr (fun a => a = 392) g g' ∧ (∀ j, j < 256 → am_I g' 392 j = bI (mb j && roM ft b r Gc j)) ∧ ∀ v2 v3 Q, am_J (d + 2) 228 72 [some (.ref 349), some (.int (nI x)), v2, v3] [] g Q ↔ am_J (d + 2) 228 140 [some (.ref 349), some (.int (nI 256)), v2, v3] [] g' Q := by
  intro q
  induction q with
  | zero =>
    intro x g hq hx S e16 R C B T H
    obtain rfl : x = 256 := by omega
    refine ⟨g, fr_refl, H, fun v2 v3 Q => ?_⟩
    rw [g228_72]
    simp (disch := first | with_reducible assumption | omega | exact Or.inl rfl | exact Or.inr rfl | exact bI_01 | exact c_cat | exact vt_ref | exact vt_null | rfl | with_reducible repeat (first | assumption | omega | apply S_I | apply S_L | apply S_D | apply ob_I | apply ob_L | apply ob_D | apply ob_R | apply ax_I | apply ax_L | apply ax_D | apply ax_R | apply o303 | apply o307 | apply o302 | apply o301 | apply ax304 | apply ax305 | apply ax306 | apply ax308 | apply ax309 | apply ax310 | apply lt_S | apply ar305 | apply ar308 | apply ar309)) only [g228_73, g228_76, Option.toList, List.nil_append, List.cons_append, va_rf, nI_ltI, nI_leI, nI_eq, nI_add, nI_sub, nI_lt0, nI_e0, nI_m1, m1_nI, Nat.reduceEqDiff, Nat.reduceLT, Nat.reduceLeDiff, Nat.reduceAdd, Nat.reduceSub, Nat.reduceMul, ↓reduceIte, eq_self, Nat.le_refl]
  | succ q ih =>
    intro x g hq hx S e16 R C B T H
    have hx' : x < 256 := by omega
    have F1 : am_fr (fun a => a = 392) g (am_setI g 392 x (bI (mb x && roM ft b r Gc x))) := fr_I fr_refl rfl
    obtain ⟨g', F', a', R'⟩ := ih (x + 1) _ (by omega) (by omega) (fr_S F1 S) (by rw [rI_a (by decide)]; exact e16) (fun j hj => by rw [rI_a (by decide)]; exact R j hj) (CDm_fr F1 (fun a ha => by omega) C) (fun s hs => by rw [rI_a (by decide)]; exact B s hs) (fun c hc => by rw [rI_a (by decide)]; exact T c hc) (fun j hj => by
      by_cases e : j = x
      · rw [e, rI_eq]
      · rw [rI_k e]; exact H j (by omega))
    obtain ⟨-, c2, c3⟩ := C x hx'
    have tx := T x hx'
    have bx := B (x / 64) (by omega)
    have n64 : ¬ nI 64 = 0 := by decide
    refine ⟨g', fr_trans F1 F', a', fun v2 v3 Q => ?_⟩
    rw [← R' v2 v3 Q, g228_72]
    cases hm : mb x with
    | false =>
      have sx := c2 hm
      rw [Bool.false_and]
      simp (disch := first | with_reducible assumption | omega | exact Or.inl rfl | exact Or.inr rfl | exact bI_01 | exact c_cat | exact vt_ref | exact vt_null | rfl | with_reducible repeat (first | assumption | omega | apply S_I | apply S_L | apply S_D | apply ob_I | apply ob_L | apply ob_D | apply ob_R | apply ax_I | apply ax_L | apply ax_D | apply ax_R | apply o303 | apply o307 | apply o302 | apply o301 | apply ax304 | apply ax305 | apply ax306 | apply ax308 | apply ax309 | apply ax310 | apply lt_S | apply ar305 | apply ar308 | apply ar309)) only [g228_73, g228_76, g228_79, g228_80, g228_83, g228_84, g228_85, g228_88, g228_89, g228_90, g228_91, g228_94, g228_95, g228_98, g228_99, g228_100, g228_103, g228_104, g228_107, g228_108, g228_110, g228_111, g228_112, g228_115, g228_116, g228_117, g228_120, g228_121, g228_122, g228_125, g228_128, g228_129, g228_132, g228_133, g228_134, g228_137, Option.toList, List.nil_append, List.cons_append, va_rf, nI_ltI, nI_leI, nI_eq, nI_add, nI_sub, nI_lt0, nI_e0, nI_m1, m1_nI, Nat.reduceEqDiff, Nat.reduceLT, Nat.reduceLeDiff, Nat.reduceAdd, Nat.reduceSub, Nat.reduceMul, ↓reduceIte, eq_self, show ¬ 256 ≤ x by omega, sx, bI_f]
    | true =>
      obtain ⟨sx, s48, ⟨m, A⟩, hG⟩ := c3 hm
      have sm : ¬ nI (sl x) = -1 := nI_nem1 (by omega)
      have ir := m_isReached (d := d) S n8 e16 R A hG
      rw [Bool.true_and]
      unfold roM
      cases h1 : ft x with
      | true =>
        rw [h1] at tx
        rw [Bool.true_or, Bool.true_or]
        simp (disch := first | with_reducible assumption | omega | exact Or.inl rfl | exact Or.inr rfl | exact bI_01 | exact c_cat | exact vt_ref | exact vt_null | rfl | with_reducible repeat (first | assumption | omega | apply S_I | apply S_L | apply S_D | apply ob_I | apply ob_L | apply ob_D | apply ob_R | apply ax_I | apply ax_L | apply ax_D | apply ax_R | apply o303 | apply o307 | apply o302 | apply o301 | apply ax304 | apply ax305 | apply ax306 | apply ax308 | apply ax309 | apply ax310 | apply lt_S | apply ar305 | apply ar308 | apply ar309)) only [g228_73, g228_76, g228_79, g228_80, g228_83, g228_84, g228_85, g228_88, g228_89, g228_90, g228_91, g228_94, g228_95, g228_98, g228_99, g228_100, g228_103, g228_104, g228_107, g228_108, g228_110, g228_111, g228_112, g228_115, g228_116, g228_117, g228_120, g228_121, g228_122, g228_125, g228_128, g228_129, g228_132, g228_133, g228_134, g228_137, Option.toList, List.nil_append, List.cons_append, va_rf, nI_ltI, nI_leI, nI_eq, nI_add, nI_sub, nI_lt0, nI_e0, nI_m1, m1_nI, Nat.reduceEqDiff, Nat.reduceLT, Nat.reduceLeDiff, Nat.reduceAdd, Nat.reduceSub, Nat.reduceMul, ↓reduceIte, eq_self, show ¬ 256 ≤ x by omega, sx, sm, tx, bI_t]
      | false =>
        rw [h1] at tx
        rw [Bool.false_or]
        cases h2 : b (x / 64) with
        | true =>
          rw [h2] at bx
          rw [Bool.true_or]
          simp (disch := first | with_reducible assumption | omega | exact Or.inl rfl | exact Or.inr rfl | exact bI_01 | exact c_cat | exact vt_ref | exact vt_null | rfl | with_reducible repeat (first | assumption | omega | apply S_I | apply S_L | apply S_D | apply ob_I | apply ob_L | apply ob_D | apply ob_R | apply ax_I | apply ax_L | apply ax_D | apply ax_R | apply o303 | apply o307 | apply o302 | apply o301 | apply ax304 | apply ax305 | apply ax306 | apply ax308 | apply ax309 | apply ax310 | apply lt_S | apply ar305 | apply ar308 | apply ar309)) only [g228_73, g228_76, g228_79, g228_80, g228_83, g228_84, g228_85, g228_88, g228_89, g228_90, g228_91, g228_94, g228_95, g228_98, g228_99, g228_100, g228_103, g228_104, g228_107, g228_108, g228_110, g228_111, g228_112, g228_115, g228_116, g228_117, g228_120, g228_121, g228_122, g228_125, g228_128, g228_129, g228_132, g228_133, g228_134, g228_137, Option.toList, List.nil_append, List.cons_append, va_rf, nI_ltI, nI_leI, nI_eq, nI_add, nI_sub, nI_lt0, nI_e0, nI_m1, m1_nI, Nat.reduceEqDiff, Nat.reduceLT, Nat.reduceLeDiff, Nat.reduceAdd, Nat.reduceSub, Nat.reduceMul, ↓reduceIte, eq_self, nI_div, show ¬ 256 ≤ x by omega, sx, sm, tx, bx, bI_t, bI_f]
        | false =>
          rw [h2] at bx
          rw [Bool.false_or]
          cases h3 : hit r (Gc x) with
          | true =>
            rw [h3] at ir
            simp (disch := first | with_reducible assumption | omega | exact Or.inl rfl | exact Or.inr rfl | exact bI_01 | exact c_cat | exact vt_ref | exact vt_null | rfl | with_reducible repeat (first | assumption | omega | apply S_I | apply S_L | apply S_D | apply ob_I | apply ob_L | apply ob_D | apply ob_R | apply ax_I | apply ax_L | apply ax_D | apply ax_R | apply o303 | apply o307 | apply o302 | apply o301 | apply ax304 | apply ax305 | apply ax306 | apply ax308 | apply ax309 | apply ax310 | apply lt_S | apply ar305 | apply ar308 | apply ar309)) only [g228_73, g228_76, g228_79, g228_80, g228_83, g228_84, g228_85, g228_88, g228_89, g228_90, g228_91, g228_94, g228_95, g228_98, g228_99, g228_100, g228_103, g228_104, g228_107, g228_108, g228_110, g228_111, g228_112, g228_115, g228_116, g228_117, g228_120, g228_121, g228_122, g228_125, g228_128, g228_129, g228_132, g228_133, g228_134, g228_137, Option.toList, List.nil_append, List.cons_append, va_rf, nI_ltI, nI_leI, nI_eq, nI_add, nI_sub, nI_lt0, nI_e0, nI_m1, m1_nI, Nat.reduceEqDiff, Nat.reduceLT, Nat.reduceLeDiff, Nat.reduceAdd, Nat.reduceSub, Nat.reduceMul, ↓reduceIte, eq_self, nI_div, show ¬ 256 ≤ x by omega, sx, sm, tx, bx, bI_t, bI_f, ir _]
          | false =>
            rw [h3] at ir
            simp (disch := first | with_reducible assumption | omega | exact Or.inl rfl | exact Or.inr rfl | exact bI_01 | exact c_cat | exact vt_ref | exact vt_null | rfl | with_reducible repeat (first | assumption | omega | apply S_I | apply S_L | apply S_D | apply ob_I | apply ob_L | apply ob_D | apply ob_R | apply ax_I | apply ax_L | apply ax_D | apply ax_R | apply o303 | apply o307 | apply o302 | apply o301 | apply ax304 | apply ax305 | apply ax306 | apply ax308 | apply ax309 | apply ax310 | apply lt_S | apply ar305 | apply ar308 | apply ar309)) only [g228_73, g228_76, g228_79, g228_80, g228_83, g228_84, g228_85, g228_88, g228_89, g228_90, g228_91, g228_94, g228_95, g228_98, g228_99, g228_100, g228_103, g228_104, g228_107, g228_108, g228_110, g228_111, g228_112, g228_115, g228_116, g228_117, g228_120, g228_121, g228_122, g228_125, g228_128, g228_129, g228_132, g228_133, g228_134, g228_137, Option.toList, List.nil_append, List.cons_append, va_rf, nI_ltI, nI_leI, nI_eq, nI_add, nI_sub, nI_lt0, nI_e0, nI_m1, m1_nI, Nat.reduceEqDiff, Nat.reduceLT, Nat.reduceLeDiff, Nat.reduceAdd, Nat.reduceSub, Nat.reduceMul, ↓reduceIte, eq_self, nI_div, show ¬ 256 ≤ x by omega, sx, sm, tx, bx, bI_f, ir _]
/-- one needs one that was told or has changed -/
def fouB (nl : Nat → List Nat) (td ch : Nat → Bool) (x : Nat) : Bool := (nl x).any fun y => td y || ch y
abbrev chP : Nat → Prop := fun a => a = 349 ∨ a = 390 ∨ a = 392 ∨ a = 398
/-- changed, as far as it is found -/
def CGm (h g : am_H) (ch : Nat → Bool) : Prop := am_fr chP h g ∧ (∀ k, k ≠ 83 → am_I g 349 k = am_I h 349 k) ∧ ∀ j, j < 256 → am_I g 392 j = bI (ch j)
theorem CGm_set {x : Nat} {v : Bool} (C : CGm h g ch) : CGm h (am_setI g 392 x (bI v)) (fun c => if c = x then v else ch c) := ⟨fr_I C.1 (Or.inr (Or.inr (Or.inl rfl))), fun k hk => by rw [rI_a (by decide)]; exact C.2.1 k hk, fun j hj => by
  show am_I (am_setI g 392 x (bI v)) 392 j = bI (if j = x then v else ch j)
  by_cases e : j = x
  · rw [e, rI_eq, if_pos rfl]
  · rw [rI_k e, if_neg e]; exact C.2.2 j hj⟩
theorem CGm_ext {t : Nat → Bool} (C : CGm h g ch) (e : ∀ j, j < 256 → ch j = t j) : CGm h g t := ⟨C.1, C.2.1, fun j hj => (C.2.2 j hj).trans (by rw [e j hj])⟩
theorem m_chgC1 (S : am_S h) (T : ∀ c, c < 256 → am_I h 375 c = bI (td c)) {x : Nat} {N : List Nat} {v1 : Int32} (hx : x < 256) : ∀ q k g, N.length - k = q → k ≤ N.length → N.length ≤ 256 → CGm h g ch → ch x = false → am_I g 349 83 = nI N.length → (∀ i c, N[i]? = some c → c < 256 ∧ am_I g 398 i = nI c) → (∀ i, i < k → (td (N.getD i 0) || ch (N.getD i 0)) = false) →
    ∃ g' k', CGm h g' (fun c => ch c || (decide (c = x) && N.any fun y => td y || ch y)) ∧ ∀ Q, am_J d 228 186 [some (.ref 349), some (.int v1), some (.int (nI x)), some (.int (nI k))] [] g Q ↔ am_J d 228 248 [some (.ref 349), some (.int v1), some (.int (nI x)), some (.int (nI k'))] [] g' Q := by
  intro q
  induction q with
  | zero =>
    intro k g hq hk hN C cx e83 H no
    obtain rfl : k = N.length := by omega
    have Sg := fr_S C.1 S
    have an : (N.any fun y => td y || ch y) = false := by
      rw [Bool.eq_false_iff]
      intro z
      obtain ⟨y, y1, y2⟩ := List.any_eq_true.mp z
      obtain ⟨i, i1, i2⟩ := List.mem_iff_getElem.mp y1
      have := no i i1
      rw [List.getD_eq_getElem?_getD, List.getElem?_eq_getElem i1] at this
      have this : (td N[i] || ch N[i]) = false := this
      rw [i2, y2] at this; cases this
    refine ⟨g, N.length, CGm_ext C (fun j _ => by rw [an, Bool.and_false, Bool.or_false]), fun Q => ?_⟩
    rw [g228_186]
    simp (disch := first | with_reducible assumption | omega | exact Or.inl rfl | exact Or.inr rfl | exact bI_01 | exact c_cat | exact vt_ref | exact vt_null | rfl | with_reducible repeat (first | assumption | omega | apply S_I | apply S_L | apply S_D | apply ob_I | apply ob_L | apply ob_D | apply ob_R | apply ax_I | apply ax_L | apply ax_D | apply ax_R | apply o303 | apply o307 | apply o302 | apply o301 | apply ax304 | apply ax305 | apply ax306 | apply ax308 | apply ax309 | apply ax310 | apply lt_S | apply ar305 | apply ar308 | apply ar309)) only [g228_187, g228_188, g228_191, Option.toList, List.nil_append, List.cons_append, va_rf, nI_ltI, nI_leI, nI_eq, nI_add, nI_sub, nI_lt0, nI_e0, nI_m1, m1_nI, Nat.reduceEqDiff, Nat.reduceLT, Nat.reduceLeDiff, Nat.reduceAdd, Nat.reduceSub, Nat.reduceMul, ↓reduceIte, eq_self, e83, Nat.le_refl]
  | succ q ih =>
    intro k g hq hk hN C cx e83 H no
    have hk' : k < N.length := by omega
    have Sg := fr_S C.1 S
    have gk : N[k]? = some (N.getD k 0) := by
      rw [List.getD_eq_getElem?_getD, List.getElem?_eq_getElem hk']; rfl
    obtain ⟨y256, e398⟩ := H k _ gk
    have hyN := List.mem_of_getElem? gk
    have e392x := C.2.2 x hx
    rw [cx, bI_f] at e392x
    have ty : am_I g 375 (N.getD k 0) = bI (td (N.getD k 0)) := (fr_rdI C.1 (by omega)).trans (T _ y256)
    have cy := C.2.2 _ y256
    have F83 : ∀ v, am_I (am_setI g 392 x (bI v)) 349 83 = nI N.length := fun v => by rw [rI_a (by decide)]; exact e83
    have go : ∀ Q, am_J d 228 186 [some (.ref 349), some (.int v1), some (.int (nI x)), some (.int (nI k))] [] g Q ↔ am_J d 228 186 [some (.ref 349), some (.int v1), some (.int (nI x)), some (.int (nI (k + 1)))] [] (am_setI g 392 x (bI (td (N.getD k 0) || ch (N.getD k 0)))) Q := fun Q => by
      generalize N.getD k 0 = y at y256 e398 ty cy
      rw [g228_186]
      cases h1 : td y with
      | true =>
        rw [h1] at ty
        rw [Bool.true_or]
        simp (disch := first | with_reducible assumption | omega | exact Or.inl rfl | exact Or.inr rfl | exact bI_01 | exact c_cat | exact vt_ref | exact vt_null | rfl | with_reducible repeat (first | assumption | omega | apply S_I | apply S_L | apply S_D | apply ob_I | apply ob_L | apply ob_D | apply ob_R | apply ax_I | apply ax_L | apply ax_D | apply ax_R | apply o303 | apply o307 | apply o302 | apply o301 | apply ax304 | apply ax305 | apply ax306 | apply ax308 | apply ax309 | apply ax310 | apply lt_S | apply ar305 | apply ar308 | apply ar309)) only [g228_187, g228_188, g228_191, g228_194, g228_195, g228_198, g228_199, g228_200, g228_203, g228_204, g228_207, g228_208, g228_209, g228_212, g228_213, g228_216, g228_217, g228_218, g228_219, g228_222, g228_223, g228_226, g228_227, g228_230, g228_231, g228_232, g228_233, g228_236, g228_237, g228_240, g228_241, g228_242, g228_245, Option.toList, List.nil_append, List.cons_append, va_rf, nI_ltI, nI_leI, nI_eq, nI_add, nI_sub, nI_lt0, nI_e0, nI_m1, m1_nI, Nat.reduceEqDiff, Nat.reduceLT, Nat.reduceLeDiff, Nat.reduceAdd, Nat.reduceSub, Nat.reduceMul, ↓reduceIte, eq_self, e83, show ¬ N.length ≤ k by omega, e392x, e398, ty, bI_t]
      | false =>
        rw [h1] at ty
        rw [Bool.false_or]
        cases h2 : ch y with
        | true =>
          rw [h2] at cy
          simp (disch := first | with_reducible assumption | omega | exact Or.inl rfl | exact Or.inr rfl | exact bI_01 | exact c_cat | exact vt_ref | exact vt_null | rfl | with_reducible repeat (first | assumption | omega | apply S_I | apply S_L | apply S_D | apply ob_I | apply ob_L | apply ob_D | apply ob_R | apply ax_I | apply ax_L | apply ax_D | apply ax_R | apply o303 | apply o307 | apply o302 | apply o301 | apply ax304 | apply ax305 | apply ax306 | apply ax308 | apply ax309 | apply ax310 | apply lt_S | apply ar305 | apply ar308 | apply ar309)) only [g228_187, g228_188, g228_191, g228_194, g228_195, g228_198, g228_199, g228_200, g228_203, g228_204, g228_207, g228_208, g228_209, g228_212, g228_213, g228_216, g228_217, g228_218, g228_219, g228_222, g228_223, g228_226, g228_227, g228_230, g228_231, g228_232, g228_233, g228_236, g228_237, g228_240, g228_241, g228_242, g228_245, Option.toList, List.nil_append, List.cons_append, va_rf, nI_ltI, nI_leI, nI_eq, nI_add, nI_sub, nI_lt0, nI_e0, nI_m1, m1_nI, Nat.reduceEqDiff, Nat.reduceLT, Nat.reduceLeDiff, Nat.reduceAdd, Nat.reduceSub, Nat.reduceMul, ↓reduceIte, eq_self, e83, show ¬ N.length ≤ k by omega, e392x, e398, ty, cy, bI_t, bI_f]
        | false =>
          rw [h2] at cy
          simp (disch := first | with_reducible assumption | omega | exact Or.inl rfl | exact Or.inr rfl | exact bI_01 | exact c_cat | exact vt_ref | exact vt_null | rfl | with_reducible repeat (first | assumption | omega | apply S_I | apply S_L | apply S_D | apply ob_I | apply ob_L | apply ob_D | apply ob_R | apply ax_I | apply ax_L | apply ax_D | apply ax_R | apply o303 | apply o307 | apply o302 | apply o301 | apply ax304 | apply ax305 | apply ax306 | apply ax308 | apply ax309 | apply ax310 | apply lt_S | apply ar305 | apply ar308 | apply ar309)) only [g228_187, g228_188, g228_191, g228_194, g228_195, g228_198, g228_199, g228_200, g228_203, g228_204, g228_207, g228_208, g228_209, g228_212, g228_213, g228_216, g228_217, g228_218, g228_219, g228_222, g228_223, g228_226, g228_227, g228_230, g228_231, g228_232, g228_233, g228_236, g228_237, g228_240, g228_241, g228_242, g228_245, Option.toList, List.nil_append, List.cons_append, va_rf, nI_ltI, nI_leI, nI_eq, nI_add, nI_sub, nI_lt0, nI_e0, nI_m1, m1_nI, Nat.reduceEqDiff, Nat.reduceLT, Nat.reduceLeDiff, Nat.reduceAdd, Nat.reduceSub, Nat.reduceMul, ↓reduceIte, eq_self, e83, show ¬ N.length ≤ k by omega, e392x, e398, ty, cy, bI_f]
    cases hv : (td (N.getD k 0) || ch (N.getD k 0)) with
    | true =>
      rw [hv] at go
      have an : (N.any fun y => td y || ch y) = true := List.any_eq_true.mpr ⟨_, hyN, hv⟩
      have C2 := CGm_set (x := x) (v := true) C
      have S2 := fr_S C2.1 S
      have e2 : am_I (am_setI g 392 x (bI true)) 392 x = nI 1 := rI_eq
      refine ⟨am_setI g 392 x (bI true), k + 1, CGm_ext C2 (fun j _ => ?_), fun Q => ?_⟩
      · rw [an, Bool.and_true]
        by_cases e : j = x
        · rw [if_pos e, decide_eq_true e, Bool.or_true]
        · rw [if_neg e, decide_eq_false e, Bool.or_false]
      · rw [go Q, g228_186]
        have e83' := F83 true
        by_cases z : N.length ≤ k + 1
        · simp (disch := first | with_reducible assumption | omega | exact Or.inl rfl | exact Or.inr rfl | exact bI_01 | exact c_cat | exact vt_ref | exact vt_null | rfl | with_reducible repeat (first | assumption | omega | apply S_I | apply S_L | apply S_D | apply ob_I | apply ob_L | apply ob_D | apply ob_R | apply ax_I | apply ax_L | apply ax_D | apply ax_R | apply o303 | apply o307 | apply o302 | apply o301 | apply ax304 | apply ax305 | apply ax306 | apply ax308 | apply ax309 | apply ax310 | apply lt_S | apply ar305 | apply ar308 | apply ar309)) only [g228_187, g228_188, g228_191, Option.toList, List.nil_append, List.cons_append, va_rf, nI_ltI, nI_leI, nI_eq, nI_add, nI_sub, nI_lt0, nI_e0, nI_m1, m1_nI, Nat.reduceEqDiff, Nat.reduceLT, Nat.reduceLeDiff, Nat.reduceAdd, Nat.reduceSub, Nat.reduceMul, ↓reduceIte, eq_self, e83', z]
        · simp (disch := first | with_reducible assumption | omega | exact Or.inl rfl | exact Or.inr rfl | exact bI_01 | exact c_cat | exact vt_ref | exact vt_null | rfl | with_reducible repeat (first | assumption | omega | apply S_I | apply S_L | apply S_D | apply ob_I | apply ob_L | apply ob_D | apply ob_R | apply ax_I | apply ax_L | apply ax_D | apply ax_R | apply o303 | apply o307 | apply o302 | apply o301 | apply ax304 | apply ax305 | apply ax306 | apply ax308 | apply ax309 | apply ax310 | apply lt_S | apply ar305 | apply ar308 | apply ar309)) only [g228_187, g228_188, g228_191, g228_194, g228_195, g228_198, g228_199, g228_200, Option.toList, List.nil_append, List.cons_append, va_rf, nI_ltI, nI_leI, nI_eq, nI_add, nI_sub, nI_lt0, nI_e0, nI_m1, m1_nI, Nat.reduceEqDiff, Nat.reduceLT, Nat.reduceLeDiff, Nat.reduceAdd, Nat.reduceSub, Nat.reduceMul, ↓reduceIte, eq_self, e83', z, e2]
    | false =>
      rw [hv] at go
      have C2 : CGm h (am_setI g 392 x (bI false)) ch := CGm_ext (CGm_set (x := x) (v := false) C) (fun j _ => by
        by_cases e : j = x
        · rw [if_pos e, e, cx]
        · rw [if_neg e])
      obtain ⟨g', k', C', R'⟩ := ih (k + 1) _ (by omega) (by omega) hN C2 cx (F83 false) (fun i c hi => ⟨(H i c hi).1, by rw [rI_a (by decide)]; exact (H i c hi).2⟩) (fun i hi => by
        by_cases e : i = k
        · rw [e]; exact hv
        · exact no i (by omega))
      exact ⟨g', k', C', fun Q => (go Q).trans (R' Q)⟩
theorem m_chgC2 {ro : Nat → Bool} (S : am_S h) (T : ∀ c, c < 256 → am_I h 375 c = bI (td c)) (D : CDm h mb sl nl Gc nf) : ∀ q x g mo ch v3, 256 - x = q → x ≤ 256 → CGm h g ch → (∀ j, 256 ≤ j → ch j = false) →
    ∃ g' ch' mo' v3', CGm h g' ch' ∧ (∀ j, 256 ≤ j → ch' j = false) ∧ (∀ j, ch j = true → ch' j = true) ∧ ((∀ j, ch j = true → CHG nl mb ro td j) → ∀ j, ch' j = true → CHG nl mb ro td j) ∧ ((mo' = mo ∧ ch' = ch ∧ ∀ y, x ≤ y → y < 256 → mb y = true → ch y = false → fouB nl td ch y = false) ∨ (mo' = true ∧ ∃ z, z < 256 ∧ ch z = false ∧ ch' z = true)) ∧
      ∀ Q, am_J (d + 461) 228 150 [some (.ref 349), some (.int (bI mo)), some (.int (nI x)), v3] [] g Q ↔ am_J (d + 461) 228 273 [some (.ref 349), some (.int (bI mo')), some (.int (nI 256)), v3'] [] g' Q := by
  intro q
  induction q with
  | zero =>
    intro x g mo ch v3 hq hx C hi
    obtain rfl : x = 256 := by omega
    refine ⟨g, ch, mo, v3, C, hi, fun _ z => z, fun z => z, Or.inl ⟨rfl, rfl, fun y h1 h2 => by omega⟩, fun Q => ?_⟩
    rw [g228_150]
    simp (disch := first | with_reducible assumption | omega | exact Or.inl rfl | exact Or.inr rfl | exact bI_01 | exact c_cat | exact vt_ref | exact vt_null | rfl | with_reducible repeat (first | assumption | omega | apply S_I | apply S_L | apply S_D | apply ob_I | apply ob_L | apply ob_D | apply ob_R | apply ax_I | apply ax_L | apply ax_D | apply ax_R | apply o303 | apply o307 | apply o302 | apply o301 | apply ax304 | apply ax305 | apply ax306 | apply ax308 | apply ax309 | apply ax310 | apply lt_S | apply ar305 | apply ar308 | apply ar309)) only [g228_151, g228_154, Option.toList, List.nil_append, List.cons_append, va_rf, nI_ltI, nI_leI, nI_eq, nI_add, nI_sub, nI_lt0, nI_e0, nI_m1, m1_nI, Nat.reduceEqDiff, Nat.reduceLT, Nat.reduceLeDiff, Nat.reduceAdd, Nat.reduceSub, Nat.reduceMul, ↓reduceIte, eq_self, Nat.le_refl]
  | succ q ih =>
    intro x g mo ch v3 hq hx C hi
    have hx' : x < 256 := by omega
    have Sg := fr_S C.1 S
    have D1 := CDm_fr C.1 (fun a ha => by omega) D
    obtain ⟨c1, c2, c3⟩ := D1 x hx'
    have cx := C.2.2 x hx'
    have skip : (mb x = true → ch x = true) → (∀ Q, am_J (d + 461) 228 150 [some (.ref 349), some (.int (bI mo)), some (.int (nI x)), v3] [] g Q ↔ am_J (d + 461) 228 150 [some (.ref 349), some (.int (bI mo)), some (.int (nI (x + 1))), v3] [] g Q) → ∃ g' ch' mo' v3', CGm h g' ch' ∧ (∀ j, 256 ≤ j → ch' j = false) ∧ (∀ j, ch j = true → ch' j = true) ∧ ((∀ j, ch j = true → CHG nl mb ro td j) → ∀ j, ch' j = true → CHG nl mb ro td j) ∧ ((mo' = mo ∧ ch' = ch ∧ ∀ y, x ≤ y → y < 256 → mb y = true → ch y = false → fouB nl td ch y = false) ∨ (mo' = true ∧ ∃ z, z < 256 ∧ ch z = false ∧ ch' z = true)) ∧
      ∀ Q, am_J (d + 461) 228 150 [some (.ref 349), some (.int (bI mo)), some (.int (nI x)), v3] [] g Q ↔ am_J (d + 461) 228 273 [some (.ref 349), some (.int (bI mo')), some (.int (nI 256)), v3'] [] g' Q := fun hsk go => by
      obtain ⟨g', ch', mo', v3', C', i', u', s', a', R'⟩ := ih (x + 1) g mo ch v3 (by omega) (by omega) C hi
      refine ⟨g', ch', mo', v3', C', i', u', s', a'.imp (fun z => ⟨z.1, z.2.1, fun y h1 h2 h3 h4 => ?_⟩) id, fun Q => (go Q).trans (R' Q)⟩
      by_cases e : y = x
      · subst e; rw [hsk h3] at h4; cases h4
      · exact z.2.2 y (by omega) h2 h3 h4
    cases hm : mb x with
    | false =>
      have sx := c2 hm
      exact skip (fun z => by rw [hm] at z; cases z) (fun Q => by
        rw [g228_150]
        simp (disch := first | with_reducible assumption | omega | exact Or.inl rfl | exact Or.inr rfl | exact bI_01 | exact c_cat | exact vt_ref | exact vt_null | rfl | with_reducible repeat (first | assumption | omega | apply S_I | apply S_L | apply S_D | apply ob_I | apply ob_L | apply ob_D | apply ob_R | apply ax_I | apply ax_L | apply ax_D | apply ax_R | apply o303 | apply o307 | apply o302 | apply o301 | apply ax304 | apply ax305 | apply ax306 | apply ax308 | apply ax309 | apply ax310 | apply lt_S | apply ar305 | apply ar308 | apply ar309)) only [g228_151, g228_154, g228_157, g228_158, g228_161, g228_162, g228_163, g228_164, g228_267, g228_270, Option.toList, List.nil_append, List.cons_append, va_rf, nI_ltI, nI_leI, nI_eq, nI_add, nI_sub, nI_lt0, nI_e0, nI_m1, m1_nI, Nat.reduceEqDiff, Nat.reduceLT, Nat.reduceLeDiff, Nat.reduceAdd, Nat.reduceSub, Nat.reduceMul, ↓reduceIte, eq_self, show ¬ 256 ≤ x by omega, sx])
    | true =>
      obtain ⟨sx, s48, -, -⟩ := c3 hm
      have sm : ¬ nI (sl x) = -1 := nI_nem1 (by omega)
      cases hc : ch x with
      | true =>
        rw [hc] at cx
        exact skip (fun _ => hc) (fun Q => by
          rw [g228_150]
          simp (disch := first | with_reducible assumption | omega | exact Or.inl rfl | exact Or.inr rfl | exact bI_01 | exact c_cat | exact vt_ref | exact vt_null | rfl | with_reducible repeat (first | assumption | omega | apply S_I | apply S_L | apply S_D | apply ob_I | apply ob_L | apply ob_D | apply ob_R | apply ax_I | apply ax_L | apply ax_D | apply ax_R | apply o303 | apply o307 | apply o302 | apply o301 | apply ax304 | apply ax305 | apply ax306 | apply ax308 | apply ax309 | apply ax310 | apply lt_S | apply ar305 | apply ar308 | apply ar309)) only [g228_151, g228_154, g228_157, g228_158, g228_161, g228_162, g228_163, g228_164, g228_167, g228_168, g228_171, g228_172, g228_173, g228_176, g228_267, g228_270, Option.toList, List.nil_append, List.cons_append, va_rf, nI_ltI, nI_leI, nI_eq, nI_add, nI_sub, nI_lt0, nI_e0, nI_m1, m1_nI, Nat.reduceEqDiff, Nat.reduceLT, Nat.reduceLeDiff, Nat.reduceAdd, Nat.reduceSub, Nat.reduceMul, ↓reduceIte, eq_self, show ¬ 256 ≤ x by omega, sx, sm, cx, bI_t])
      | false =>
        rw [hc] at cx
        obtain ⟨g1, R1, N1⟩ := m_listNeeds (d := d) Sg hx' c1
        obtain ⟨n1, n2, n3, n4, n5, n6, n7⟩ := N1
        have C1 : CGm h g1 ch := ⟨fr_trans C.1 (fr_mono (fun a ha => by omega) n1), fun k hk => (n2 k hk).trans (C.2.1 k hk), fun j hj => (fr_rdI n1 (by decide)).trans (C.2.2 j hj)⟩
        have lN := nodup_le 256 _ n6 n7
        obtain ⟨g2, k', C2, R2⟩ := m_chgC1 (d := d + 461) (v1 := bI mo) S T hx' (nl x).length 0 g1 (Nat.sub_zero _) (Nat.zero_le _) lN C1 hc n3 (fun i c hi => ⟨n7 c (List.mem_of_getElem? hi), n4 i c hi⟩) (fun i hi => absurd hi (Nat.not_lt_zero _))
        have Sg2 := fr_S C2.1 S
        have c2x := C2.2.2 x hx'
        have c2x : am_I g2 392 x = bI (fouB nl td ch x) := by
          rw [c2x]
          show bI (ch x || (decide (x = x) && _)) = _
          rw [hc, decide_eq_true rfl, Bool.false_or, Bool.true_and]; rfl
        have C2 : CGm h g2 (fun c => ch c || (decide (c = x) && fouB nl td ch x)) := C2
        have go : ∀ Q, am_J (d + 461) 228 150 [some (.ref 349), some (.int (bI mo)), some (.int (nI x)), v3] [] g Q ↔ am_J (d + 461) 228 150 [some (.ref 349), some (.int (bI (mo || fouB nl td ch x))), some (.int (nI (x + 1))), some (.int (nI k'))] [] g2 Q := fun Q => by
          have a1 : am_J (d + 461) 228 150 [some (.ref 349), some (.int (bI mo)), some (.int (nI x)), v3] [] g Q ↔ am_J (d + 461) 228 186 [some (.ref 349), some (.int (bI mo)), some (.int (nI x)), some (.int (nI 0))] [] g1 Q := by
            rw [g228_150]
            simp (disch := first | with_reducible assumption | omega | exact Or.inl rfl | exact Or.inr rfl | exact bI_01 | exact c_cat | exact vt_ref | exact vt_null | rfl | with_reducible repeat (first | assumption | omega | apply S_I | apply S_L | apply S_D | apply ob_I | apply ob_L | apply ob_D | apply ob_R | apply ax_I | apply ax_L | apply ax_D | apply ax_R | apply o303 | apply o307 | apply o302 | apply o301 | apply ax304 | apply ax305 | apply ax306 | apply ax308 | apply ax309 | apply ax310 | apply lt_S | apply ar305 | apply ar308 | apply ar309)) only [g228_151, g228_154, g228_157, g228_158, g228_161, g228_162, g228_163, g228_164, g228_167, g228_168, g228_171, g228_172, g228_173, g228_176, g228_179, g228_180, g228_181, g228_184, g228_185, Option.toList, List.nil_append, List.cons_append, va_rf, nI_ltI, nI_leI, nI_eq, nI_add, nI_sub, nI_lt0, nI_e0, nI_m1, m1_nI, Nat.reduceEqDiff, Nat.reduceLT, Nat.reduceLeDiff, Nat.reduceAdd, Nat.reduceSub, Nat.reduceMul, ↓reduceIte, eq_self, show ¬ 256 ≤ x by omega, sx, sm, cx, bI_f, R1 _]
          rw [a1, R2 Q]
          cases mo with
          | true => simp (disch := first | with_reducible assumption | omega | exact Or.inl rfl | exact Or.inr rfl | exact bI_01 | exact c_cat | exact vt_ref | exact vt_null | rfl | with_reducible repeat (first | assumption | omega | apply S_I | apply S_L | apply S_D | apply ob_I | apply ob_L | apply ob_D | apply ob_R | apply ax_I | apply ax_L | apply ax_D | apply ax_R | apply o303 | apply o307 | apply o302 | apply o301 | apply ax304 | apply ax305 | apply ax306 | apply ax308 | apply ax309 | apply ax310 | apply lt_S | apply ar305 | apply ar308 | apply ar309)) only [g228_248, g228_249, g228_252, g228_253, g228_256, g228_257, g228_258, g228_261, g228_262, g228_265, g228_266, g228_267, g228_270, Option.toList, List.nil_append, List.cons_append, va_rf, nI_ltI, nI_leI, nI_eq, nI_add, nI_sub, nI_lt0, nI_e0, nI_m1, m1_nI, Nat.reduceEqDiff, Nat.reduceLT, Nat.reduceLeDiff, Nat.reduceAdd, Nat.reduceSub, Nat.reduceMul, ↓reduceIte, eq_self, bI_t, Bool.true_or]
          | false =>
            rw [Bool.false_or]
            cases hf : fouB nl td ch x with
            | true =>
              rw [hf] at c2x
              simp (disch := first | with_reducible assumption | omega | exact Or.inl rfl | exact Or.inr rfl | exact bI_01 | exact c_cat | exact vt_ref | exact vt_null | rfl | with_reducible repeat (first | assumption | omega | apply S_I | apply S_L | apply S_D | apply ob_I | apply ob_L | apply ob_D | apply ob_R | apply ax_I | apply ax_L | apply ax_D | apply ax_R | apply o303 | apply o307 | apply o302 | apply o301 | apply ax304 | apply ax305 | apply ax306 | apply ax308 | apply ax309 | apply ax310 | apply lt_S | apply ar305 | apply ar308 | apply ar309)) only [g228_248, g228_249, g228_252, g228_253, g228_256, g228_257, g228_258, g228_261, g228_262, g228_265, g228_266, g228_267, g228_270, Option.toList, List.nil_append, List.cons_append, va_rf, nI_ltI, nI_leI, nI_eq, nI_add, nI_sub, nI_lt0, nI_e0, nI_m1, m1_nI, Nat.reduceEqDiff, Nat.reduceLT, Nat.reduceLeDiff, Nat.reduceAdd, Nat.reduceSub, Nat.reduceMul, ↓reduceIte, eq_self, bI_t, bI_f, c2x]
            | false =>
              rw [hf] at c2x
              simp (disch := first | with_reducible assumption | omega | exact Or.inl rfl | exact Or.inr rfl | exact bI_01 | exact c_cat | exact vt_ref | exact vt_null | rfl | with_reducible repeat (first | assumption | omega | apply S_I | apply S_L | apply S_D | apply ob_I | apply ob_L | apply ob_D | apply ob_R | apply ax_I | apply ax_L | apply ax_D | apply ax_R | apply o303 | apply o307 | apply o302 | apply o301 | apply ax304 | apply ax305 | apply ax306 | apply ax308 | apply ax309 | apply ax310 | apply lt_S | apply ar305 | apply ar308 | apply ar309)) only [g228_248, g228_249, g228_252, g228_253, g228_256, g228_257, g228_258, g228_261, g228_262, g228_265, g228_266, g228_267, g228_270, Option.toList, List.nil_append, List.cons_append, va_rf, nI_ltI, nI_leI, nI_eq, nI_add, nI_sub, nI_lt0, nI_e0, nI_m1, m1_nI, Nat.reduceEqDiff, Nat.reduceLT, Nat.reduceLeDiff, Nat.reduceAdd, Nat.reduceSub, Nat.reduceMul, ↓reduceIte, eq_self, bI_f, c2x]
        cases hf : fouB nl td ch x with
        | false =>
          rw [hf, Bool.or_false] at go
          have C2' : CGm h g2 ch := CGm_ext C2 (fun j _ => by rw [hf, Bool.and_false, Bool.or_false])
          obtain ⟨g', ch', mo', v3', C', i', u', s', a', R'⟩ := ih (x + 1) g2 mo ch (some (.int (nI k'))) (by omega) (by omega) C2' hi
          refine ⟨g', ch', mo', v3', C', i', u', s', a'.imp (fun z => ⟨z.1, z.2.1, fun y h1 h2 h3 h4 => ?_⟩) id, fun Q => (go Q).trans (R' Q)⟩
          by_cases e : y = x
          · subst e; exact hf
          · exact z.2.2 y (by omega) h2 h3 h4
        | true =>
          rw [hf, Bool.or_true] at go
          have C2' : CGm h g2 (fun c => ch c || decide (c = x)) := CGm_ext C2 (fun j _ => by rw [hf, Bool.and_true])
          obtain ⟨g', ch', mo', v3', C', i', u', s', a', R'⟩ := ih (x + 1) g2 true (fun c => ch c || decide (c = x)) (some (.int (nI k'))) (by omega) (by omega) C2' (fun j hj => by
            show (ch j || decide (j = x)) = false
            rw [hi j hj, decide_eq_false (by omega)]; rfl)
          refine ⟨g', ch', mo', v3', C', i', fun j hj => u' j (by show (ch j || _) = true; rw [hj]; rfl), fun hs => s' (fun j hj => ?_), Or.inr ?_, fun Q => (go Q).trans (R' Q)⟩
          · have hj : (ch j || decide (j = x)) = true := hj
            rw [Bool.or_eq_true] at hj
            rcases hj with hj | hj
            · exact hs j hj
            · have := of_decide_eq_true hj
              subst this
              obtain ⟨y, y1, y2⟩ := List.any_eq_true.mp hf
              rw [Bool.or_eq_true] at y2
              exact CHG_need hm y1 (y2.imp id (hs y))
          · have nx : ch' x = true := u' x (by show (ch x || decide (x = x)) = true; rw [decide_eq_true rfl, Bool.or_true])
            rcases a' with a' | a'
            · exact ⟨a'.1, x, hx', hc, nx⟩
            · exact ⟨a'.1, x, hx', hc, nx⟩
theorem m_chgC {ro : Nat → Bool} (S : am_S h) (T : ∀ c, c < 256 → am_I h 375 c = bI (td c)) (D : CDm h mb sl nl Gc nf) : ∀ t ch g v2 v3, 256 - cnB ch 256 ≤ t → CGm h g ch → (∀ j, 256 ≤ j → ch j = false) → (∀ j, ch j = true → CHG nl mb ro td j) →
    ∃ g' ch', CGm h g' ch' ∧ (∀ j, 256 ≤ j → ch' j = false) ∧ (∀ j, ch j = true → ch' j = true) ∧ (∀ j, ch' j = true → CHG nl mb ro td j) ∧ (∀ y, y < 256 → mb y = true → ch' y = false → fouB nl td ch' y = false) ∧ ∀ Q, am_J (d + 461) 228 142 [some (.ref 349), some (.int (nI 1)), v2, v3] [] g Q ↔ Q none g' := by
  intro t
  induction t with
  | zero =>
    intro ch g v2 v3 ht C hi hs
    obtain ⟨g', ch', mo', v3', C', i', u', s', a', R'⟩ := m_chgC2 (d := d) (ro := ro) S T D 256 0 g false ch v3 rfl (Nat.zero_le _) C hi
    have nB := cnB_n (r := ch) 256
    rcases a' with ⟨a1, a2, a3⟩ | ⟨a1, z, z1, z2, z3⟩
    · subst a1 a2
      have Sg' := fr_S C'.1 S
      refine ⟨g', ch', C', hi, fun _ z => z, hs, fun y h1 h2 h3 => a3 y (Nat.zero_le _) h1 h2 h3, fun Q => ?_⟩
      have a0 : am_J (d + 461) 228 142 [some (.ref 349), some (.int (nI 1)), v2, v3] [] g Q ↔ am_J (d + 461) 228 150 [some (.ref 349), some (.int (bI false)), some (.int (nI 0)), v3] [] g Q := by
        rw [g228_142]
        simp (disch := first | with_reducible assumption | omega | exact Or.inl rfl | exact Or.inr rfl | exact bI_01 | exact c_cat | exact vt_ref | exact vt_null | rfl | with_reducible repeat (first | assumption | omega | apply S_I | apply S_L | apply S_D | apply ob_I | apply ob_L | apply ob_D | apply ob_R | apply ax_I | apply ax_L | apply ax_D | apply ax_R | apply o303 | apply o307 | apply o302 | apply o301 | apply ax304 | apply ax305 | apply ax306 | apply ax308 | apply ax309 | apply ax310 | apply lt_S | apply ar305 | apply ar308 | apply ar309)) only [g228_143, g228_146, g228_147, g228_148, g228_149, Option.toList, List.nil_append, List.cons_append, va_rf, nI_ltI, nI_leI, nI_eq, nI_add, nI_sub, nI_lt0, nI_e0, nI_m1, m1_nI, Nat.reduceEqDiff, Nat.reduceLT, Nat.reduceLeDiff, Nat.reduceAdd, Nat.reduceSub, Nat.reduceMul, ↓reduceIte, eq_self, bI_f]
      rw [a0, R' Q]
      simp (disch := first | with_reducible assumption | omega | exact Or.inl rfl | exact Or.inr rfl | exact bI_01 | exact c_cat | exact vt_ref | exact vt_null | rfl | with_reducible repeat (first | assumption | omega | apply S_I | apply S_L | apply S_D | apply ob_I | apply ob_L | apply ob_D | apply ob_R | apply ax_I | apply ax_L | apply ax_D | apply ax_R | apply o303 | apply o307 | apply o302 | apply o301 | apply ax304 | apply ax305 | apply ax306 | apply ax308 | apply ax309 | apply ax310 | apply lt_S | apply ar305 | apply ar308 | apply ar309)) only [g228_273, g228_276, g228_142, g228_143, Option.toList, List.nil_append, List.cons_append, va_rf, nI_ltI, nI_leI, nI_eq, nI_add, nI_sub, nI_lt0, nI_e0, nI_m1, m1_nI, Nat.reduceEqDiff, Nat.reduceLT, Nat.reduceLeDiff, Nat.reduceAdd, Nat.reduceSub, Nat.reduceMul, ↓reduceIte, eq_self, bI_f]
    · have := cnB_lt (r := ch) (r' := ch') u' z2 z3 256 z1
      have := cnB_n (r := ch') 256
      omega
  | succ t ih =>
    intro ch g v2 v3 ht C hi hs
    obtain ⟨g1, ch1, mo1, v31, C1, i1, u1, s1, a1, R1⟩ := m_chgC2 (d := d) (ro := ro) S T D 256 0 g false ch v3 rfl (Nat.zero_le _) C hi
    have a0 : ∀ Q, am_J (d + 461) 228 142 [some (.ref 349), some (.int (nI 1)), v2, v3] [] g Q ↔ am_J (d + 461) 228 150 [some (.ref 349), some (.int (bI false)), some (.int (nI 0)), v3] [] g Q := fun Q => by
      rw [g228_142]
      simp (disch := first | with_reducible assumption | omega | exact Or.inl rfl | exact Or.inr rfl | exact bI_01 | exact c_cat | exact vt_ref | exact vt_null | rfl | with_reducible repeat (first | assumption | omega | apply S_I | apply S_L | apply S_D | apply ob_I | apply ob_L | apply ob_D | apply ob_R | apply ax_I | apply ax_L | apply ax_D | apply ax_R | apply o303 | apply o307 | apply o302 | apply o301 | apply ax304 | apply ax305 | apply ax306 | apply ax308 | apply ax309 | apply ax310 | apply lt_S | apply ar305 | apply ar308 | apply ar309)) only [g228_143, g228_146, g228_147, g228_148, g228_149, Option.toList, List.nil_append, List.cons_append, va_rf, nI_ltI, nI_leI, nI_eq, nI_add, nI_sub, nI_lt0, nI_e0, nI_m1, m1_nI, Nat.reduceEqDiff, Nat.reduceLT, Nat.reduceLeDiff, Nat.reduceAdd, Nat.reduceSub, Nat.reduceMul, ↓reduceIte, eq_self, bI_f]
    rcases a1 with ⟨b1, b2, b3⟩ | ⟨b1, z, z1, z2, z3⟩
    · subst b1 b2
      refine ⟨g1, ch1, C1, hi, fun _ z => z, hs, fun y h1 h2 h3 => b3 y (Nat.zero_le _) h1 h2 h3, fun Q => ?_⟩
      rw [a0, R1 Q]
      simp (disch := first | with_reducible assumption | omega | exact Or.inl rfl | exact Or.inr rfl | exact bI_01 | exact c_cat | exact vt_ref | exact vt_null | rfl | with_reducible repeat (first | assumption | omega | apply S_I | apply S_L | apply S_D | apply ob_I | apply ob_L | apply ob_D | apply ob_R | apply ax_I | apply ax_L | apply ax_D | apply ax_R | apply o303 | apply o307 | apply o302 | apply o301 | apply ax304 | apply ax305 | apply ax306 | apply ax308 | apply ax309 | apply ax310 | apply lt_S | apply ar305 | apply ar308 | apply ar309)) only [g228_273, g228_276, g228_142, g228_143, Option.toList, List.nil_append, List.cons_append, va_rf, nI_ltI, nI_leI, nI_eq, nI_add, nI_sub, nI_lt0, nI_e0, nI_m1, m1_nI, Nat.reduceEqDiff, Nat.reduceLT, Nat.reduceLeDiff, Nat.reduceAdd, Nat.reduceSub, Nat.reduceMul, ↓reduceIte, eq_self, bI_f]
    · subst b1
      have lt := cnB_lt (r := ch) (r' := ch1) u1 z2 z3 256 z1
      obtain ⟨g', ch', C', i', u', s', c', R'⟩ := ih ch1 g1 (some (.int (nI 256))) v31 (by omega) C1 i1 (s1 hs)
      refine ⟨g', ch', C', i', fun j hj => u' j (u1 j hj), s', c', fun Q => ?_⟩
      rw [a0, R1 Q, ← R' Q]
      simp (disch := first | with_reducible assumption | omega | exact Or.inl rfl | exact Or.inr rfl | exact bI_01 | exact c_cat | exact vt_ref | exact vt_null | rfl | with_reducible repeat (first | assumption | omega | apply S_I | apply S_L | apply S_D | apply ob_I | apply ob_L | apply ob_D | apply ob_R | apply ax_I | apply ax_L | apply ax_D | apply ax_R | apply o303 | apply o307 | apply o302 | apply o301 | apply ax304 | apply ax305 | apply ax306 | apply ax308 | apply ax309 | apply ax310 | apply lt_S | apply ar305 | apply ar308 | apply ar309)) only [g228_273, Option.toList, List.nil_append, List.cons_append, va_rf, bI_t]
/-- findChanged as a whole -/
theorem m_findChanged {Gf : Nat → List (Nat × Nat)} (S : am_S h) (F : FT h nf Gf ft) {tc : Nat → Bool} (n5 : ∀ s, s < 4 → nc s ≤ 5) (hG : ∀ s, s < 4 → ∀ k, k < nc s → ∀ z, z ∈ Gk s k → z.1 < nf) (hr : r = rds Gf nf (fun j => decide (j < nf) && ft j) nf) (hb : ∀ s, s < 4 → b s = (tl s || orU (fun k => hit r (Gk s k)) (nc s))) (en : ∀ s, s < 4 → am_I h 362 s = nI (nc s)) (H : ∀ s, s < 4 → ∀ k, k < nc s → ∃ m, SLc h (56 + 5 * s + k) m (Gk s k)) (e378 : ∀ s, s < 4 → am_I h 378 s = bI (tl s)) (D : CDm h mb sl nl Gc nf) (e376 : ∀ c, c < 256 → am_I h 376 c = bI (tc c)) (T : ∀ c, c < 256 → am_I h 375 c = bI (td c)) (hm : ∀ x y, y ∈ nl x → x < 256 ∧ mb x = true) (hl : ∀ x y, y ∈ nl x → y < 256) :
    ∃ (g : am_H) (ch : Nat → Bool), am_run (d + 461) 228 [some (.ref 349), none, none, none] h none g ∧ am_fr (fun a => a = 349 ∨ a = 378 ∨ a = 390 ∨ a = 392 ∨ a = 393 ∨ a = 398) h g ∧ (∀ k, k ≠ 83 → am_I g 349 k = am_I h 349 k) ∧ (∀ s, s < 4 → am_I g 378 s = bI (b s)) ∧ (∀ j, j < 256 → am_I g 392 j = bI (ch j)) ∧ ∀ j, ch j = true ↔ j < 256 ∧ CHG nl mb (roM tc b r Gc) td j := by
  obtain ⟨g1, R1, A1⟩ := m_reach (d := d + 459) S F
  rw [← hr] at A1
  have S1 := fr_S A1.1 S
  have n8 := F.1
  obtain ⟨g2, v2, F2, B2, R2⟩ := m_chgA (d := d + 459) (Gk := Gk) (r := r) (tl := tl) n8 n5 hG hb 4 0 g1 none rfl (Nat.zero_le _) S1 ((fr_rdI A1.1 (by decide)).trans F.2.1) A1.2 (fun s hs => (fr_rdI A1.1 (by decide)).trans (en s hs)) (fun s hs k hk => by
    obtain ⟨m, Z⟩ := H s hs k hk
    exact ⟨m, SLc_fr A1.1 (by decide) (by decide) (by decide) (by decide) (by decide) (by decide) Z⟩) (fun j hj => absurd hj (Nat.not_lt_zero _)) (fun j _ hj => (fr_rdI A1.1 (by decide)).trans (e378 j hj))
  have F12 : am_fr (fun a => a = 378 ∨ a = 393) h g2 := fr_trans (fr_mono (fun a ha => Or.inr ha) A1.1) (fr_mono (fun a ha => Or.inl ha) F2)
  have S2 := fr_S F12 S
  obtain ⟨g3, F3, B3, R3⟩ := m_chgB (d := d + 459) (b := b) (r := r) (ft := tc) n8 256 0 g2 rfl (Nat.zero_le _) S2 ((fr_rdI F12 (by decide)).trans F.2.1) (fun j hj => (fr_rdI F2 (by decide)).trans (A1.2 j hj)) (CDm_fr F12 (fun a ha => by omega) D) B2 (fun c hc => (fr_rdI F12 (by decide)).trans (e376 c hc)) (fun j hj => absurd hj (Nat.not_lt_zero _))
  have F13 : am_fr (fun a => a = 378 ∨ a = 392 ∨ a = 393) h g3 := fr_trans (fr_mono (fun a ha => by omega) F12) (fr_mono (fun a ha => by omega) F3)
  have S3 := fr_S F13 S
  obtain ⟨g4, ch, C4, i4, u4, s4, c4, R4⟩ := m_chgC (d := d) (h := g3) (nl := nl) (mb := mb) (ro := roM tc b r Gc) (td := td) S3 (fun c hc => (fr_rdI F13 (by decide)).trans (T c hc)) (CDm_fr F13 (fun a ha => by omega) D) 256 (fun j => decide (j < 256) && (mb j && roM tc b r Gc j)) g3 v2 none (by omega) ⟨fr_refl, fun _ _ => rfl, fun j hj => by
    show _ = bI (decide (j < 256) && _)
    rw [B3 j hj, decide_eq_true hj, Bool.true_and]⟩ (fun j hj => by
    show (decide (j < 256) && _) = false
    rw [decide_eq_false (by omega)]; rfl) (fun j hj => by
    have hj : (decide (j < 256) && (mb j && roM tc b r Gc j)) = true := hj
    rw [Bool.and_eq_true, Bool.and_eq_true] at hj
    exact CHG_ro hj.2.1 hj.2.2)
  refine ⟨g4, ch, fun Q => ?_, fr_trans (fr_mono (fun a ha => by omega) F13) (fr_mono (fun a ha => by omega) C4.1), fun k hk => (C4.2.1 k hk).trans (fr_rdI F13 (by decide)), fun s hs => ?_, C4.2.2, fun j => ⟨fun hj => ⟨?_, s4 j hj⟩, fun hj => ?_⟩⟩
  · rw [← R4 Q]
    simp (disch := first | with_reducible assumption | omega | exact Or.inl rfl | exact Or.inr rfl | exact bI_01 | exact c_cat | exact vt_ref | exact vt_null | rfl | with_reducible repeat (first | assumption | omega | apply S_I | apply S_L | apply S_D | apply ob_I | apply ob_L | apply ob_D | apply ob_R | apply ax_I | apply ax_L | apply ax_D | apply ax_R | apply o303 | apply o307 | apply o302 | apply o301 | apply ax304 | apply ax305 | apply ax306 | apply ax308 | apply ax309 | apply ax310 | apply lt_S | apply ar305 | apply ar308 | apply ar309)) only [g228_0, g228_1, g228_4, g228_5, R1 _, R2 none _, g228_70, g228_71, R3 v2 none _, g228_140, g228_141, Option.toList, List.nil_append, List.cons_append, va_rf]
  · exact (fr_rdI C4.1 (by decide)).trans ((fr_rdI F3 (by decide)).trans (B2 s hs))
  · apply Classical.byContradiction
    intro z
    rw [i4 j (by omega)] at hj; cases hj
  · have key := CHG_min (x := j) (nl := nl) (mb := fun x => decide (x < 256) && mb x) (ro := roM tc b r Gc) (td := td) (ch := ch) (fun x y hy => by
      have := hm x y hy
      show (decide (x < 256) && mb x) = true
      rw [decide_eq_true this.1, this.2]; rfl) (fun x hx hro => by
      have hx : (decide (x < 256) && mb x) = true := hx
      rw [Bool.and_eq_true] at hx
      exact u4 x (by show (decide (x < 256) && (mb x && roM tc b r Gc x)) = true; rw [hx.1, hx.2, hro]; rfl)) (fun x y hx hy hc => by
      have hx : (decide (x < 256) && mb x) = true := hx
      rw [Bool.and_eq_true] at hx
      cases hcx : ch x
      · have := c4 x (of_decide_eq_true hx.1) hx.2 hcx
        have h2 : fouB nl td ch x = true := List.any_eq_true.mpr ⟨y, hy, by rw [Bool.or_eq_true]; exact hc⟩
        rw [this] at h2; cases h2
      · rfl)
    refine key ?_
    obtain ⟨j1, j2, j3⟩ := hj
    refine ⟨by show (decide (j < 256) && mb j) = true; rw [decide_eq_true j1, j2]; rfl, j3.imp id (fun z => ?_)⟩
    obtain ⟨y, y1, y2, y3⟩ := z
    exact ⟨y, y1, by show (decide (y < 256) && mb y) = true; rw [decide_eq_true (RT_lt hl y1), y2]; rfl, y3⟩
end MCG

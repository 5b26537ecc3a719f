/-! RECALCULATE: the cells, one by one, on both sides -/
theorem E2_fr {Pa : Nat → Prop} {gx gm gm' : am_H} {mb ch dn : Nat → Bool} {c : Nat} (F : am_fr Pa gm gm') (np : ∀ a, 365 ≤ a ∧ a ≤ 373 → ¬ Pa a) (E : E2 gx gm mb ch dn c) : E2 gx gm' mb ch dn c := by
  obtain ⟨st, e1, e2, e3, ⟨k, k1, k2, k3, k4⟩, en, e5, e6⟩ := E
  refine ⟨st, e1, ?_, ?_, ⟨k, k1, k2, (fr_rdI F (np 373 (by decide))).trans k3, fun rr hr i hi => by rw [fr_rdI F (np 372 (by decide))]; exact k4 rr hr i hi⟩, fun z => (by rw [fr_rdI F (np 373 (by decide))]; exact en z), e5, e6⟩
  · rw [fr_rdI F (np 365 (by decide)), fr_rdI F (np 366 (by decide)), fr_rdL F (np 370 (by decide)), fr_rdD F (np 371 (by decide))]; exact e2
  · rw [fr_rdI F (np 367 (by decide)), fr_rdI F (np 368 (by decide))]; exact e3
theorem NX_eq {g g' : am_H} {n R F cnt : Nat} {m q st rc dl : Nat → Nat} {nl : Nat → List Nat} {ch dn : Nat → Bool} (H : ∀ a k, 311 ≤ a → a ≤ 318 → am_I g' a k = am_I g a k ∧ am_L g' a k = am_L g a k) (X : NX g n m nl ch dn R F q st rc cnt dl) : NX g' n m nl ch dn R F q st rc cnt dl := by
  obtain ⟨X1, X2, X3, X4, ⟨h1, h2, h3, h4⟩, X6, X7⟩ := X
  have I := fun a k h1 h2 => (H a k h1 h2).1
  refine ⟨⟨(I 311 7 (by decide) (by decide)).trans X1.1, fun i hi => (I 312 i (by decide) (by decide)).trans (X1.2 i hi)⟩, fun a ha => ?_, ?_, ?_, ⟨(I 311 10 (by decide) (by decide)).trans h1, fun k hk => (I 315 k (by decide) (by decide)).trans (h2 k hk), fun r hr => (I 317 r (by decide) (by decide)).trans (h3 r hr), fun j hj => (I 316 j (by decide) (by decide)).trans (h4 j hj)⟩, (I 311 11 (by decide) (by decide)).trans X6, fun i hi => (I 318 i (by decide) (by decide)).trans (X7 i hi)⟩
  · rw [(H 313 a (by decide) (by decide)).2]; exact X2 a ha
  · rw [(H 311 8 (by decide) (by decide)).2]; exact X3
  · rw [(H 311 9 (by decide) (by decide)).2]; exact X4
/-- the loop's relation between the class's heap and the model's -/
def JL (gx gm : am_H) (tt : Nat → ntT) (rt : Nat → Nat) (pF : Nat → List Nat) (fe : Nat → Nat) (mb : Nat → Bool) (ea ra sl : Nat → Nat) (nl : Nat → List Nat) (nc : Nat → Nat) (Gc : Nat → List (Nat × Nat)) (nf n : Nat) (m : Nat → Nat) (ch oc : Nat → Bool) (cy sp : Nat → Nat) (cs : Nat → Nat → VL) (R F : Nat) (q st rc : Nat → Nat) (dn : Nat → Bool) (cnt : Nat) (dl : Nat → Nat) : Prop :=
  XL gx tt rt pF fe mb ea ra sl nl nc ∧ ML gm tt rt pF mb sl nl nc Gc nf ∧ NX gx n m nl ch dn R F q st rc cnt dl ∧
  (∀ j, j < 256 → am_I gm 392 j = bI (ch j) ∧ am_I gm 391 j = bI (dn j) ∧ am_I gm 395 j = if oc j = true then nI (cy j) else -1) ∧
  am_I gm 349 81 = nI cnt ∧ (∀ i, i < cnt → am_I gm 394 i = nI (dl i)) ∧ (∀ c, c < 256 → E2 gx gm mb ch dn c) ∧
  (∀ s, s < 4 → am_I gx (321 + 7 * s) 3 = nI (sp s) ∧ am_I gm 381 s = nI (sp s) ∧ sp s ≤ 11 ∧ (sp s = 0 → ∀ k, k < nc s → csX gx s k (cs s k) ∧ csv gm (5 * s + k) (cs s k))) ∧
  cnB dn 256 = cnt ∧ ∀ c, dn c = true → ch c = true
/-- what the class's loop changes -/
def pXl (mb : Nat → Bool) (ra : Nat → Nat) (a k : Nat) : Prop := (a = 9 ∧ 9 ≤ k) ∨ (12 ≤ a ∧ a ≤ 15) ∨ (17 ≤ a ∧ a ≤ 21) ∨ (278 ≤ a ∧ a ≤ 299) ∨ (22 ≤ a ∧ a < 278 ∧ k ≠ 3 ∧ k ≠ 8 ∧ k ≠ 7) ∨ (a = 311 ∧ (k = 9 ∨ k = 11 ∨ k = 12)) ∨ a = 318 ∨ ∃ c, c < 256 ∧ mb c = true ∧ a = ra c
abbrev mdL : Nat → Prop := fun a => a = 349 ∨ (365 ≤ a ∧ a ≤ 368) ∨ (370 ≤ a ∧ a ≤ 373) ∨ (385 ≤ a ∧ a ≤ 391) ∨ a = 394 ∨ a = 398
section JLP
variable {d e : Nat} {gx gm : am_H} {tt : Nat → ntT} {rt : Nat → Nat} {pF : Nat → List Nat} {fe : Nat → Nat} {mb : Nat → Bool} {ea ra sl : Nat → Nat} {nl : Nat → List Nat} {nc : Nat → Nat} {Gc : Nat → List (Nat × Nat)} {nf n : Nat} {m : Nat → Nat} {ch oc : Nat → Bool} {cy sp : Nat → Nat} {cs : Nat → Nat → VL} {R F : Nat} {q st rc : Nat → Nat} {mu : Nat → Nat → Bool} {v1 v2 : Option Value}
theorem m_search {dn : Nat → Bool} {v1 : Option Value} (hl : ∀ x y, y ∈ nl x → y < 256) (hcy : ∀ x, x < 256 → oc x = true → cy x < 256) : ∀ t x g, 256 - x = t → x ≤ 256 → am_S g → CDm g mb sl nl Gc nf → (∀ j, j < 256 → am_I g 392 j = bI (ch j) ∧ am_I g 391 j = bI (dn j) ∧ am_I g 395 j = if oc j = true then nI (cy j) else -1) → ∃ g', am_fr (fun a => a = 349 ∨ a = 390 ∨ a = 398) g g' ∧ (∀ k, k ≠ 83 → am_I g' 349 k = am_I g 349 k) ∧ ∀ Q, am_J (d + 462) 227 70 [some (.ref 349), v1, some (.int (nI x))] [] g Q ↔ am_J (d + 462) 227 91 [some (.ref 349), v1, some (.int (nI (fnd (rdy nl ch dn oc) t x)))] [] g' Q := by
  intro t
  induction t with
  | zero =>
    intro x g ht hx S D H
    obtain rfl : x = 256 := by omega
    refine ⟨g, fr_refl, fun _ _ => rfl, fun Q => ?_⟩
    rw [show fnd (rdy nl ch dn oc) 0 256 = 256 from rfl, g227_70]
    simp (disch := first | with_reducible assumption | omega | exact Or.inl rfl | exact Or.inr rfl | exact bI_01 | exact c_cat | exact vt_ref | exact vt_null | rfl | with_reducible repeat (first | assumption | omega | apply S_I | apply S_L | apply S_D | apply ob_I | apply ob_L | apply ob_D | apply ob_R | apply ax_I | apply ax_L | apply ax_D | apply ax_R | apply o303 | apply o307 | apply o302 | apply o301 | apply ax304 | apply ax305 | apply ax306 | apply ax308 | apply ax309 | apply ax310 | apply lt_S | apply ar305 | apply ar308 | apply ar309)) only [g227_71, g227_74, Option.toList, List.nil_append, List.cons_append, va_rf, nI_ltI, nI_leI, nI_eq, nI_add, nI_sub, nI_lt0, nI_e0, nI_m1, m1_nI, Nat.reduceEqDiff, Nat.reduceLT, Nat.reduceLeDiff, Nat.reduceAdd, Nat.reduceSub, Nat.reduceMul, ↓reduceIte, eq_self, Nat.le_refl]
  | succ t ih =>
    intro x g ht hx S D H
    have hx' : x < 256 := by omega
    obtain ⟨g1, R1, F1, n1⟩ := m_isReady (d := d) (dn := dn) (cy := cy) S D hl (fun j hj => (H j hj).1) (fun j hj => (H j hj).2.1) hx' (H x hx').2.2 (hcy x hx')
    have S1 := fr_S F1 S
    cases hr : rdy nl ch dn oc x with
    | true =>
      rw [hr] at R1
      refine ⟨g1, F1, n1, fun Q => ?_⟩
      rw [fnd_here hr, g227_70]
      simp (disch := first | with_reducible assumption | omega | exact Or.inl rfl | exact Or.inr rfl | exact bI_01 | exact c_cat | exact vt_ref | exact vt_null | rfl | with_reducible repeat (first | assumption | omega | apply S_I | apply S_L | apply S_D | apply ob_I | apply ob_L | apply ob_D | apply ob_R | apply ax_I | apply ax_L | apply ax_D | apply ax_R | apply o303 | apply o307 | apply o302 | apply o301 | apply ax304 | apply ax305 | apply ax306 | apply ax308 | apply ax309 | apply ax310 | apply lt_S | apply ar305 | apply ar308 | apply ar309)) only [g227_71, g227_74, g227_77, g227_78, g227_79, g227_82, Option.toList, List.nil_append, List.cons_append, va_rf, nI_ltI, nI_leI, nI_eq, nI_add, nI_sub, nI_lt0, nI_e0, nI_m1, m1_nI, Nat.reduceEqDiff, Nat.reduceLT, Nat.reduceLeDiff, Nat.reduceAdd, Nat.reduceSub, Nat.reduceMul, ↓reduceIte, eq_self, show ¬ 256 ≤ x by omega, R1 _, bI_t]
    | false =>
      rw [hr] at R1
      obtain ⟨g', F', n', R'⟩ := ih (x + 1) g1 (by omega) (by omega) S1 (CDm_fr F1 (fun a ha => by omega) D) (fun j hj => by
        rw [fr_rdI F1 (by decide), fr_rdI F1 (by decide), fr_rdI F1 (by decide)]; exact H j hj)
      refine ⟨g', fr_trans F1 F', fun k hk => (n' k hk).trans (n1 k hk), fun Q => ?_⟩
      rw [fnd_step hr, ← R' Q, g227_70]
      simp (disch := first | with_reducible assumption | omega | exact Or.inl rfl | exact Or.inr rfl | exact bI_01 | exact c_cat | exact vt_ref | exact vt_null | rfl | with_reducible repeat (first | assumption | omega | apply S_I | apply S_L | apply S_D | apply ob_I | apply ob_L | apply ob_D | apply ob_R | apply ax_I | apply ax_L | apply ax_D | apply ax_R | apply o303 | apply o307 | apply o302 | apply o301 | apply ax304 | apply ax305 | apply ax306 | apply ax308 | apply ax309 | apply ax310 | apply lt_S | apply ar305 | apply ar308 | apply ar309)) only [g227_71, g227_74, g227_77, g227_78, g227_79, g227_82, g227_85, g227_88, Option.toList, List.nil_append, List.cons_append, va_rf, nI_ltI, nI_leI, nI_eq, nI_add, nI_sub, nI_lt0, nI_e0, nI_m1, m1_nI, Nat.reduceEqDiff, Nat.reduceLT, Nat.reduceLeDiff, Nat.reduceAdd, Nat.reduceSub, Nat.reduceMul, ↓reduceIte, eq_self, show ¬ 256 ≤ x by omega, R1 _, bI_f]
theorem cnB_mL {mb : Nat → Bool} : ∀ n, (mL mb n).length = cnB mb n := by
  intro n
  induction n with
  | zero => rfl
  | succ n ih =>
    unfold mL cnB
    by_cases c : mb n = true
    · rw [if_pos c, if_pos c, List.length_append, ih]; rfl
    · rw [if_neg c, if_neg c, ih]; rfl
/-- the model's loop, where none is ready -/
theorem m_none {dn : Nat → Bool} {cnt : Nat} {dl : Nat → Nat} {w2 : Option Value} (J : JL gx gm tt rt pF fe mb ea ra sl nl nc Gc nf n m ch oc cy sp cs R F q st rc dn cnt dl) (hl : ∀ x y, y ∈ nl x → y < 256) (hcy : ∀ x, x < 256 → oc x = true → cy x < 256) (no : ∀ x, x < 256 → rdy nl ch dn oc x = false) : ∃ gm' w2', JL gx gm' tt rt pF fe mb ea ra sl nl nc Gc nf n m ch oc cy sp cs R F q st rc dn cnt dl ∧ am_fr mdL gm gm' ∧ (∀ k, k < 56 ∨ (70 < k ∧ k ≠ 81 ∧ k ≠ 83) → am_I gm' 349 k = am_I gm 349 k) ∧ ∀ Q, am_J (d + 462) 227 64 [some (.ref 349), some (.int (nI 1)), w2] [] gm Q ↔ am_J (d + 462) 227 116 [some (.ref 349), some (.int (nI 0)), w2'] [] gm' Q := by
  obtain ⟨J1, J2, J3, J4, J5, J6, J7, J8, J9, J10⟩ := J
  obtain ⟨g1, F1, n1, R1⟩ := m_search (d := d) (v1 := some (.int (nI 1))) (dn := dn) (ch := ch) (oc := oc) (cy := cy) hl hcy 256 0 gm rfl (Nat.zero_le _) J2.1 J2.2.2.2.1 J4
  have e : fnd (rdy nl ch dn oc) 256 0 = 256 := fnd_eq (Nat.zero_le _) (Nat.le_refl _) (fun j _ hj => no j hj) (fun h => absurd h (Nat.lt_irrefl _))
  rw [e] at R1
  have S1 := fr_S F1 J2.1
  refine ⟨g1, some (.int (nI 256)), ⟨J1, ML_fr F1 (fun a ha => by omega) J2, J3, fun j hj => ?_, (n1 81 (by decide)).trans J5, fun i hi => (fr_rdI F1 (by decide)).trans (J6 i hi), fun c hc => E2_fr F1 (fun a ha => by omega) (J7 c hc), fun s hs => ?_, J9, J10⟩, fr_mono (fun a ha => by omega) F1, fun k hk => n1 k (by omega), fun Q => ?_⟩
  · rw [fr_rdI F1 (by decide), fr_rdI F1 (by decide), fr_rdI F1 (by decide)]; exact J4 j hj
  · obtain ⟨a1, a2, a3, a4⟩ := J8 s hs
    refine ⟨a1, (fr_rdI F1 (by decide)).trans a2, a3, fun z k hk => ⟨(a4 z k hk).1, ?_⟩⟩
    match cs s k, (a4 z k hk).2 with
    | .inl _, ⟨b1, b2⟩ => exact ⟨(fr_rdI F1 (by decide)).trans b1, (fr_rdL F1 (by decide)).trans b2⟩
    | .inr _, ⟨b1, b2, b3⟩ => exact ⟨(fr_rdI F1 (by decide)).trans b1, (fr_rdD F1 (by decide)).trans b2, b3⟩
  · have S := J2.1
    rw [g227_64]
    simp (disch := first | with_reducible assumption | omega | exact Or.inl rfl | exact Or.inr rfl | exact bI_01 | exact c_cat | exact vt_ref | exact vt_null | rfl | with_reducible repeat (first | assumption | omega | apply S_I | apply S_L | apply S_D | apply ob_I | apply ob_L | apply ob_D | apply ob_R | apply ax_I | apply ax_L | apply ax_D | apply ax_R | apply o303 | apply o307 | apply o302 | apply o301 | apply ax304 | apply ax305 | apply ax306 | apply ax308 | apply ax309 | apply ax310 | apply lt_S | apply ar305 | apply ar308 | apply ar309)) only [g227_65, g227_68, g227_69, R1 _, g227_91, g227_92, g227_95, g227_98, g227_99, g227_102, g227_103, g227_104, g227_105, g227_108, g227_109, g227_110, g227_113, Option.toList, List.nil_append, List.cons_append, va_rf, nI_ltI, nI_leI, nI_eq, nI_add, nI_sub, nI_lt0, nI_e0, nI_m1, m1_nI, Nat.reduceEqDiff, Nat.reduceLT, Nat.reduceLeDiff, Nat.reduceAdd, Nat.reduceSub, Nat.reduceMul, ↓reduceIte, eq_self, Nat.le_refl]
    rw [g227_64]
    simp (disch := first | with_reducible assumption | omega | exact Or.inl rfl | exact Or.inr rfl | exact bI_01 | exact c_cat | exact vt_ref | exact vt_null | rfl | with_reducible repeat (first | assumption | omega | apply S_I | apply S_L | apply S_D | apply ob_I | apply ob_L | apply ob_D | apply ob_R | apply ax_I | apply ax_L | apply ax_D | apply ax_R | apply o303 | apply o307 | apply o302 | apply o301 | apply ax304 | apply ax305 | apply ax306 | apply ax308 | apply ax309 | apply ax310 | apply lt_S | apply ar305 | apply ar308 | apply ar309)) only [g227_65, Option.toList, List.nil_append, List.cons_append, va_rf, nI_ltI, nI_leI, nI_eq, nI_add, nI_sub, nI_lt0, nI_e0, nI_m1, m1_nI, Nat.reduceEqDiff, Nat.reduceLT, Nat.reduceLeDiff, Nat.reduceAdd, Nat.reduceSub, Nat.reduceMul, ↓reduceIte, eq_self]
end JLP

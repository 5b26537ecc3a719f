/-! THE MODEL: the cycles; which cell is ready -/
abbrev cyP : Nat → Prop := fun a => a = 349 ∨ a = 390 ∨ (395 ≤ a ∧ a ≤ 399)
section MCY
variable {d nf : Nat} {g h : am_H} {mb : Nat → Bool} {sl : Nat → Nat} {nl : Nat → List Nat} {Gc : Nat → List (Nat × Nat)} {x : Nat} {rt : Nat → Nat → Bool}
/-- the ways of the cells below i -/
def WT (h g : am_H) (mb : Nat → Bool) (sl : Nat → Nat) (rt : Nat → Nat → Bool) (i : Nat) : Prop := am_fr cyP h g ∧ (∀ k, k ≠ 83 → k ≠ 82 → am_I g 349 k = am_I h 349 k) ∧ (∀ x, x < i → am_I g 395 x = -1) ∧ ∀ x, x < i → mb x = true → ∀ y, y < 256 → am_I g 399 (256 * sl x + y) = bI (rt x y)
theorem m_way (S : am_S h) {s : Nat} (hs : s < 48) (hx : x < 256) {p : Nat → Bool} : ∀ q y g, 256 - y = q → y ≤ 256 → am_S g → am_I g 369 x = nI s → (∀ y, y < 256 → am_I g 396 y = nI (if p y = true then 1 else 0)) → (∀ z, z < y → am_I g 399 (256 * s + z) = bI (p z)) → ∃ g', am_fr (fun a => a = 399) g g' ∧ (∀ k, (k < 256 * s ∨ 256 * s + 256 ≤ k) → am_I g' 399 k = am_I g 399 k) ∧ (∀ z, z < 256 → am_I g' 399 (256 * s + z) = bI (p z)) ∧ ∀ Q, am_J d 237 36 [some (.ref 349), some (.int (nI x)), some (.int (nI y))] [] g Q ↔ am_J d 237 80 [some (.ref 349), some (.int (nI x)), some (.int (nI 256))] [] g' Q := by
  intro q
  induction q with
  | zero =>
    intro y g hq hy S e M H
    obtain rfl : y = 256 := by omega
    refine ⟨g, fr_refl, fun _ _ => rfl, H, fun Q => ?_⟩
    rw [g237_36]
    simp (disch := first | with_reducible assumption | omega | exact Or.inl rfl | exact Or.inr rfl | exact bI_01 | exact c_cat | exact vt_ref | exact vt_null | rfl | with_reducible repeat (first | assumption | omega | apply S_I | apply S_L | apply S_D | apply ob_I | apply ob_L | apply ob_D | apply ob_R | apply ax_I | apply ax_L | apply ax_D | apply ax_R | apply o303 | apply o307 | apply o302 | apply o301 | apply ax304 | apply ax305 | apply ax306 | apply ax308 | apply ax309 | apply ax310 | apply lt_S | apply ar305 | apply ar308 | apply ar309)) only [g237_37, g237_40, Option.toList, List.nil_append, List.cons_append, va_rf, nI_ltI, nI_leI, nI_eq, nI_add, nI_sub, nI_lt0, nI_e0, nI_m1, m1_nI, Nat.reduceEqDiff, Nat.reduceLT, Nat.reduceLeDiff, Nat.reduceAdd, Nat.reduceSub, Nat.reduceMul, ↓reduceIte, eq_self, Nat.le_refl]
  | succ q ih =>
    intro y g hq hy S e M H
    have hy' : y < 256 := by omega
    have F1 : am_fr (fun a => a = 399) g (am_setI g 399 (256 * s + y) (bI (p y))) := fr_I fr_refl rfl
    obtain ⟨g', F', n', a', R'⟩ := ih (y + 1) _ (by omega) (by omega) (fr_S F1 S) (by rw [rI_a (by decide)]; exact e) (fun z hz => by rw [rI_a (by decide)]; exact M z hz) (fun z hz => by
      by_cases ez : z = y
      · rw [ez, rI_eq]
      · rw [rI_k (by omega)]; exact H z (by omega))
    refine ⟨g', fr_trans F1 F', fun k hk => (n' k hk).trans (rI_k (by omega)), a', fun Q => ?_⟩
    have my := M y hy'
    have q12 : 256 * s + y < 12288 := by omega
    rw [← R' Q, g237_36]
    cases hp : p y with
    | true =>
      rw [hp, if_pos rfl] at my
      simp (disch := first | with_reducible assumption | omega | exact Or.inl rfl | exact Or.inr rfl | exact bI_01 | exact c_cat | exact vt_ref | exact vt_null | rfl | with_reducible repeat (first | assumption | omega | apply S_I | apply S_L | apply S_D | apply ob_I | apply ob_L | apply ob_D | apply ob_R | apply ax_I | apply ax_L | apply ax_D | apply ax_R | apply o303 | apply o307 | apply o302 | apply o301 | apply ax304 | apply ax305 | apply ax306 | apply ax308 | apply ax309 | apply ax310 | apply lt_S | apply ar305 | apply ar308 | apply ar309)) only [g237_37, g237_40, g237_43, g237_44, g237_47, g237_50, g237_51, g237_54, g237_55, g237_56, g237_57, g237_58, g237_59, g237_60, g237_63, g237_64, g237_65, g237_68, g237_69, g237_72, g237_73, g237_74, g237_77, Option.toList, List.nil_append, List.cons_append, va_rf, nI_ltI, nI_leI, nI_eq, nI_add, nI_sub, nI_lt0, nI_e0, nI_m1, m1_nI, Nat.reduceEqDiff, Nat.reduceLT, Nat.reduceLeDiff, Nat.reduceAdd, Nat.reduceSub, Nat.reduceMul, ↓reduceIte, eq_self, nI_mul, show ¬ 256 ≤ y by omega, e, my, bI_t]
    | false =>
      rw [hp, if_neg (by decide)] at my
      simp (disch := first | with_reducible assumption | omega | exact Or.inl rfl | exact Or.inr rfl | exact bI_01 | exact c_cat | exact vt_ref | exact vt_null | rfl | with_reducible repeat (first | assumption | omega | apply S_I | apply S_L | apply S_D | apply ob_I | apply ob_L | apply ob_D | apply ob_R | apply ax_I | apply ax_L | apply ax_D | apply ax_R | apply o303 | apply o307 | apply o302 | apply o301 | apply ax304 | apply ax305 | apply ax306 | apply ax308 | apply ax309 | apply ax310 | apply lt_S | apply ar305 | apply ar308 | apply ar309)) only [g237_37, g237_40, g237_43, g237_44, g237_47, g237_50, g237_51, g237_54, g237_55, g237_56, g237_57, g237_58, g237_59, g237_60, g237_63, g237_64, g237_65, g237_68, g237_69, g237_72, g237_73, g237_74, g237_77, Option.toList, List.nil_append, List.cons_append, va_rf, nI_ltI, nI_leI, nI_eq, nI_add, nI_sub, nI_lt0, nI_e0, nI_m1, m1_nI, Nat.reduceEqDiff, Nat.reduceLT, Nat.reduceLeDiff, Nat.reduceAdd, Nat.reduceSub, Nat.reduceMul, ↓reduceIte, eq_self, nI_mul, show ¬ 256 ≤ y by omega, e, my, bI_f]
theorem m_cyc1 (S : am_S h) (D : CDm h mb sl nl Gc nf) (hl : ∀ x y, y ∈ nl x → y < 256) (hrt : ∀ x y, rt x y = true ↔ RT nl x y) (inj : ∀ x y, x < 256 → y < 256 → mb x = true → mb y = true → sl x = sl y → x = y) : ∀ q x g v2, 256 - x = q → x ≤ 256 → WT h g mb sl rt x → ∃ g' v2', WT h g' mb sl rt 256 ∧ ∀ Q, am_J (d + 462) 237 2 [some (.ref 349), some (.int (nI x)), v2] [] g Q ↔ am_J (d + 462) 237 86 [some (.ref 349), some (.int (nI 256)), v2'] [] g' Q := by
  intro q
  induction q with
  | zero =>
    intro x g v2 hq hx W
    obtain rfl : x = 256 := by omega
    have Sg := fr_S W.1 S
    refine ⟨g, v2, W, fun Q => ?_⟩
    rw [g237_2]
    simp (disch := first | with_reducible assumption | omega | exact Or.inl rfl | exact Or.inr rfl | exact bI_01 | exact c_cat | exact vt_ref | exact vt_null | rfl | with_reducible repeat (first | assumption | omega | apply S_I | apply S_L | apply S_D | apply ob_I | apply ob_L | apply ob_D | apply ob_R | apply ax_I | apply ax_L | apply ax_D | apply ax_R | apply o303 | apply o307 | apply o302 | apply o301 | apply ax304 | apply ax305 | apply ax306 | apply ax308 | apply ax309 | apply ax310 | apply lt_S | apply ar305 | apply ar308 | apply ar309)) only [g237_3, g237_6, Option.toList, List.nil_append, List.cons_append, va_rf, nI_ltI, nI_leI, nI_eq, nI_add, nI_sub, nI_lt0, nI_e0, nI_m1, m1_nI, Nat.reduceEqDiff, Nat.reduceLT, Nat.reduceLeDiff, Nat.reduceAdd, Nat.reduceSub, Nat.reduceMul, ↓reduceIte, eq_self, Nat.le_refl]
  | succ q ih =>
    intro x g v2 hq hx W
    have hx' : x < 256 := by omega
    obtain ⟨w1, w2, w3, w4⟩ := W
    have Sg := fr_S w1 S
    have F1 : am_fr cyP h (am_setI g 395 x (-1)) := fr_I w1 (by omega)
    have S1 : am_S (am_setI g 395 x (-1)) := Sg
    have D1 := CDm_fr F1 (fun a ha => by omega) D
    obtain ⟨-, c2, c3⟩ := D1 x hx'
    have e395 : ∀ z, z < x + 1 → am_I (am_setI g 395 x (-1)) 395 z = -1 := fun z hz => by
      by_cases e : z = x
      · rw [e, rI_eq]
      · rw [rI_k e]; exact w3 z (by omega)
    cases hm : mb x with
    | false =>
      have sx := c2 hm
      obtain ⟨g', v2', W', R'⟩ := ih (x + 1) (am_setI g 395 x (-1)) v2 (by omega) (by omega) ⟨F1, fun k h1 h2 => by rw [rI_a (by decide)]; exact w2 k h1 h2, e395, fun z hz hmz y hy => by
        rw [rI_a (by decide)]
        by_cases e : z = x
        · subst e; rw [hm] at hmz; cases hmz
        · exact w4 z (by omega) hmz y hy⟩
      refine ⟨g', v2', W', fun Q => ?_⟩
      rw [← R' Q, g237_2]
      simp (disch := first | with_reducible assumption | omega | exact Or.inl rfl | exact Or.inr rfl | exact bI_01 | exact c_cat | exact vt_ref | exact vt_null | rfl | with_reducible repeat (first | assumption | omega | apply S_I | apply S_L | apply S_D | apply ob_I | apply ob_L | apply ob_D | apply ob_R | apply ax_I | apply ax_L | apply ax_D | apply ax_R | apply o303 | apply o307 | apply o302 | apply o301 | apply ax304 | apply ax305 | apply ax306 | apply ax308 | apply ax309 | apply ax310 | apply lt_S | apply ar305 | apply ar308 | apply ar309)) only [g237_3, g237_6, g237_9, g237_10, g237_13, g237_14, g237_15, g237_16, g237_17, g237_20, g237_21, g237_22, g237_23, g237_26, g237_80, g237_83, Option.toList, List.nil_append, List.cons_append, va_rf, nI_ltI, nI_leI, nI_eq, nI_add, nI_sub, nI_lt0, nI_e0, nI_m1, m1_nI, Nat.reduceEqDiff, Nat.reduceLT, Nat.reduceLeDiff, Nat.reduceAdd, Nat.reduceSub, Nat.reduceMul, ↓reduceIte, eq_self, show ¬ 256 ≤ x by omega, sx]
    | true =>
      obtain ⟨sx, s48, -, -⟩ := c3 hm
      have sm : ¬ nI (sl x) = -1 := nI_nem1 (by omega)
      obtain ⟨g1, ml, R1, M1, hml⟩ := m_markC (d := d) S1 D1 hl hx'
      have S2 := fr_S M1.1 S1
      have ep : ∀ y, y < 256 → am_I g1 396 y = nI (if rt x y = true then 1 else 0) := fun y hy => by
        rw [M1.2.2.1 y hy]
        by_cases z : y ∈ ml
        · rw [if_pos z, if_pos ((hrt x y).mpr ((hml y).mp z))]
        · rw [if_neg z, if_neg (fun w => z ((hml y).mpr ((hrt x y).mp w)))]
      have sx1 : am_I g1 369 x = nI (sl x) := (fr_rdI M1.1 (by decide)).trans sx
      obtain ⟨g2, F2, n2, a2, R2⟩ := m_way (d := d + 462) (p := rt x) S s48 hx' 256 0 g1 rfl (Nat.zero_le _) S2 sx1 ep (fun z hz => absurd hz (Nat.not_lt_zero _))
      have F12 : am_fr cyP h g2 := fr_trans F1 (fr_trans (fr_mono (fun a ha => by omega) M1.1) (fr_mono (fun a ha => by omega) F2))
      obtain ⟨g', v2', W', R'⟩ := ih (x + 1) g2 (some (.int (nI 256))) (by omega) (by omega) ⟨F12, fun k h1 h2 => ((fr_rdI F2 (by decide)).trans (M1.2.1 k h1)).trans ((rI_a (by decide)).trans (w2 k h1 h2)), fun z hz => ((fr_rdI F2 (by decide)).trans (fr_rdI M1.1 (by decide))).trans (e395 z hz), fun z hz hmz y hy => by
        by_cases e : z = x
        · subst e; exact a2 y hy
        · have ne : sl z ≠ sl x := fun q => e (inj z x (by omega) hx' hmz hm q)
          rw [n2 (256 * sl z + y) (by omega), fr_rdI M1.1 (by decide), rI_a (by decide)]
          exact w4 z (by omega) hmz y hy⟩
      refine ⟨g', v2', W', fun Q => ?_⟩
      rw [← R' Q, g237_2]
      simp (disch := first | with_reducible assumption | omega | exact Or.inl rfl | exact Or.inr rfl | exact bI_01 | exact c_cat | exact vt_ref | exact vt_null | rfl | with_reducible repeat (first | assumption | omega | apply S_I | apply S_L | apply S_D | apply ob_I | apply ob_L | apply ob_D | apply ob_R | apply ax_I | apply ax_L | apply ax_D | apply ax_R | apply o303 | apply o307 | apply o302 | apply o301 | apply ax304 | apply ax305 | apply ax306 | apply ax308 | apply ax309 | apply ax310 | apply lt_S | apply ar305 | apply ar308 | apply ar309)) only [g237_3, g237_6, g237_9, g237_10, g237_13, g237_14, g237_15, g237_16, g237_17, g237_20, g237_21, g237_22, g237_23, g237_26, g237_29, g237_30, g237_31, g237_34, g237_35, Option.toList, List.nil_append, List.cons_append, va_rf, nI_ltI, nI_leI, nI_eq, nI_add, nI_sub, nI_lt0, nI_e0, nI_m1, m1_nI, Nat.reduceEqDiff, Nat.reduceLT, Nat.reduceLeDiff, Nat.reduceAdd, Nat.reduceSub, Nat.reduceMul, ↓reduceIte, eq_self, show ¬ 256 ≤ x by omega, sx, sm, R1 _, R2 _, g237_80, g237_83]
/-- the first cell of a cycle, 999 for none -/
def cycF (rt : Nat → Nat → Bool) (x : Nat) : Nat := if rt x x = true then fnd (fun y => rt x y && rt y x) 256 0 else 999
theorem cycF_lt (hx : x < 256) (h : rt x x = true) : cycF rt x ≤ x ∧ rt x (cycF rt x) = true ∧ rt (cycF rt x) x = true ∧ ∀ y, y < cycF rt x → (rt x y && rt y x) = false := by
  unfold cycF
  rw [if_pos h]
  obtain ⟨a1, a2, a3, a4⟩ := fnd_spec (p := fun y => rt x y && rt y x) 256 0
  have le : fnd (fun y => rt x y && rt y x) 256 0 ≤ x := by
    apply Classical.byContradiction
    intro c
    have := a3 x (Nat.zero_le _) (by omega)
    rw [h] at this; cases this
  have := a4 (by omega)
  rw [Bool.and_eq_true] at this
  exact ⟨le, this.1, this.2, fun y hy => a3 y (Nat.zero_le _) hy⟩
/-- the first member's place is searched -/
theorem m_cycY (S : am_S g) (D : CDm g mb sl nl Gc nf) (hmb : ∀ x y, rt x y = true → x < 256 ∧ mb x = true) (W : ∀ x, x < 256 → mb x = true → ∀ y, y < 256 → am_I g 399 (256 * sl x + y) = bI (rt x y)) (hx : x < 256) (h : rt x x = true) : ∀ q y, cycF rt x - y = q → y ≤ cycF rt x → ∀ Q, am_J d 237 135 [some (.ref 349), some (.int (nI x)), some (.int (nI y))] [] g Q ↔ am_J d 237 191 [some (.ref 349), some (.int (nI x)), some (.int (nI (cycF rt x)))] [] g Q := by
  obtain ⟨l1, l2, l3, l4⟩ := cycF_lt hx h
  have hmx := (hmb x x h).2
  obtain ⟨sx, s48, -, -⟩ := (D x hx).2.2 hmx
  have n256 : ∀ y, y < 256 → am_I g 399 (256 * sl x + y) = bI (rt x y) := W x hx hmx
  intro q
  induction q with
  | zero =>
    intro y hq hy Q
    obtain rfl : y = cycF rt x := by omega
    have y256 : cycF rt x < 256 := by omega
    have hmy := (hmb _ x l3).2
    obtain ⟨sy, s48y, -, -⟩ := (D _ y256).2.2 hmy
    have sm : ¬ nI (sl (cycF rt x)) = -1 := nI_nem1 (by omega)
    have w1 := n256 _ y256
    have w2 := W _ y256 hmy x hx
    rw [l2, bI_t] at w1
    rw [l3, bI_t] at w2
    generalize cycF rt x = y at y256 sy sm w1 w2 s48y
    have q1 : 256 * sl x + y < 12288 := by omega
    have q2 : 256 * sl y + x < 12288 := by omega
    rw [g237_135]
    simp (disch := first | with_reducible assumption | omega | exact Or.inl rfl | exact Or.inr rfl | exact bI_01 | exact c_cat | exact vt_ref | exact vt_null | rfl | with_reducible repeat (first | assumption | omega | apply S_I | apply S_L | apply S_D | apply ob_I | apply ob_L | apply ob_D | apply ob_R | apply ax_I | apply ax_L | apply ax_D | apply ax_R | apply o303 | apply o307 | apply o302 | apply o301 | apply ax304 | apply ax305 | apply ax306 | apply ax308 | apply ax309 | apply ax310 | apply lt_S | apply ar305 | apply ar308 | apply ar309)) only [g237_136, g237_139, g237_140, g237_141, g237_142, g237_145, g237_146, g237_149, g237_152, g237_153, g237_156, g237_157, g237_158, g237_159, g237_160, g237_161, g237_162, g237_165, g237_166, g237_169, g237_172, g237_173, g237_176, g237_177, g237_178, g237_179, g237_180, g237_181, g237_182, Option.toList, List.nil_append, List.cons_append, va_rf, nI_ltI, nI_leI, nI_eq, nI_add, nI_sub, nI_lt0, nI_e0, nI_m1, m1_nI, Nat.reduceEqDiff, Nat.reduceLT, Nat.reduceLeDiff, Nat.reduceAdd, Nat.reduceSub, Nat.reduceMul, ↓reduceIte, eq_self, nI_mul, sx, sy, sm, w1, w2]
  | succ q ih =>
    intro y hq hy Q
    have y256 : y < 256 := by omega
    have no := l4 y (by omega)
    rw [← ih (y + 1) (by omega) (by omega) Q, g237_135]
    have w1 := n256 y y256
    have q1 : 256 * sl x + y < 12288 := by omega
    cases hm : mb y with
    | false =>
      have sy := (D y y256).2.1 hm
      simp (disch := first | with_reducible assumption | omega | exact Or.inl rfl | exact Or.inr rfl | exact bI_01 | exact c_cat | exact vt_ref | exact vt_null | rfl | with_reducible repeat (first | assumption | omega | apply S_I | apply S_L | apply S_D | apply ob_I | apply ob_L | apply ob_D | apply ob_R | apply ax_I | apply ax_L | apply ax_D | apply ax_R | apply o303 | apply o307 | apply o302 | apply o301 | apply ax304 | apply ax305 | apply ax306 | apply ax308 | apply ax309 | apply ax310 | apply lt_S | apply ar305 | apply ar308 | apply ar309)) only [g237_136, g237_139, g237_140, g237_141, g237_142, g237_185, g237_188, Option.toList, List.nil_append, List.cons_append, va_rf, nI_ltI, nI_leI, nI_eq, nI_add, nI_sub, nI_lt0, nI_e0, nI_m1, m1_nI, Nat.reduceEqDiff, Nat.reduceLT, Nat.reduceLeDiff, Nat.reduceAdd, Nat.reduceSub, Nat.reduceMul, ↓reduceIte, eq_self, sy]
    | true =>
      obtain ⟨sy, s48y, -, -⟩ := (D y y256).2.2 hm
      have sm : ¬ nI (sl y) = -1 := nI_nem1 (by omega)
      have w2 := W y y256 hm x hx
      have q2 : 256 * sl y + x < 12288 := by omega
      cases h1 : rt x y with
      | false =>
        rw [h1, bI_f] at w1
        simp (disch := first | with_reducible assumption | omega | exact Or.inl rfl | exact Or.inr rfl | exact bI_01 | exact c_cat | exact vt_ref | exact vt_null | rfl | with_reducible repeat (first | assumption | omega | apply S_I | apply S_L | apply S_D | apply ob_I | apply ob_L | apply ob_D | apply ob_R | apply ax_I | apply ax_L | apply ax_D | apply ax_R | apply o303 | apply o307 | apply o302 | apply o301 | apply ax304 | apply ax305 | apply ax306 | apply ax308 | apply ax309 | apply ax310 | apply lt_S | apply ar305 | apply ar308 | apply ar309)) only [g237_136, g237_139, g237_140, g237_141, g237_142, g237_145, g237_146, g237_149, g237_152, g237_153, g237_156, g237_157, g237_158, g237_159, g237_160, g237_161, g237_162, g237_165, g237_166, g237_169, g237_172, g237_173, g237_176, g237_177, g237_178, g237_179, g237_180, g237_181, g237_182, g237_185, g237_188, Option.toList, List.nil_append, List.cons_append, va_rf, nI_ltI, nI_leI, nI_eq, nI_add, nI_sub, nI_lt0, nI_e0, nI_m1, m1_nI, Nat.reduceEqDiff, Nat.reduceLT, Nat.reduceLeDiff, Nat.reduceAdd, Nat.reduceSub, Nat.reduceMul, ↓reduceIte, eq_self, nI_mul, sx, sy, sm, w1]
      | true =>
        rw [h1, Bool.true_and] at no
        rw [h1, bI_t] at w1
        rw [no, bI_f] at w2
        simp (disch := first | with_reducible assumption | omega | exact Or.inl rfl | exact Or.inr rfl | exact bI_01 | exact c_cat | exact vt_ref | exact vt_null | rfl | with_reducible repeat (first | assumption | omega | apply S_I | apply S_L | apply S_D | apply ob_I | apply ob_L | apply ob_D | apply ob_R | apply ax_I | apply ax_L | apply ax_D | apply ax_R | apply o303 | apply o307 | apply o302 | apply o301 | apply ax304 | apply ax305 | apply ax306 | apply ax308 | apply ax309 | apply ax310 | apply lt_S | apply ar305 | apply ar308 | apply ar309)) only [g237_136, g237_139, g237_140, g237_141, g237_142, g237_145, g237_146, g237_149, g237_152, g237_153, g237_156, g237_157, g237_158, g237_159, g237_160, g237_161, g237_162, g237_165, g237_166, g237_169, g237_172, g237_173, g237_176, g237_177, g237_178, g237_179, g237_180, g237_181, g237_182, g237_185, g237_188, Option.toList, List.nil_append, List.cons_append, va_rf, nI_ltI, nI_leI, nI_eq, nI_add, nI_sub, nI_lt0, nI_e0, nI_m1, m1_nI, Nat.reduceEqDiff, Nat.reduceLT, Nat.reduceLeDiff, Nat.reduceAdd, Nat.reduceSub, Nat.reduceMul, ↓reduceIte, eq_self, nI_mul, sx, sy, sm, w1, w2]
/-- is it the first of its cycle? -/
def leadB (rt : Nat → Nat → Bool) (x : Nat) : Bool := rt x x && decide (cycF rt x = x)
theorem m_cyc2 (S : am_S h) (D : CDm h mb sl nl Gc nf) (hmb : ∀ x y, rt x y = true → x < 256 ∧ mb x = true) (W : ∀ x, x < 256 → mb x = true → ∀ y, y < 256 → am_I h 399 (256 * sl x + y) = bI (rt x y)) : ∀ q x g v2, 256 - x = q → x ≤ 256 → am_fr (fun a => a = 349 ∨ a = 395) h g → (∀ k, k ≠ 82 → am_I g 349 k = am_I h 349 k) → am_I g 349 82 = nI (cnB (leadB rt) x) → (∀ j, j < 256 → am_I g 395 j = if j < x ∧ rt j j = true then nI (cycF rt j) else -1) →
    ∃ g', am_fr (fun a => a = 349 ∨ a = 395) h g' ∧ (∀ k, k ≠ 82 → am_I g' 349 k = am_I h 349 k) ∧ am_I g' 349 82 = nI (cnB (leadB rt) 256) ∧ (∀ j, j < 256 → am_I g' 395 j = if rt j j = true then nI (cycF rt j) else -1) ∧ ∀ Q, am_J d 237 93 [some (.ref 349), some (.int (nI x)), v2] [] g Q ↔ Q none g' := by
  intro q
  induction q with
  | zero =>
    intro x g v2 hq hx F e1 e2 H
    obtain rfl : x = 256 := by omega
    have Sg := fr_S F S
    refine ⟨g, F, e1, e2, fun j hj => ?_, fun Q => ?_⟩
    · rw [H j hj]
      by_cases c : rt j j = true
      · rw [if_pos ⟨hj, c⟩, if_pos c]
      · rw [if_neg (fun z => c z.2), if_neg c]
    · rw [g237_93]
      simp (disch := first | with_reducible assumption | omega | exact Or.inl rfl | exact Or.inr rfl | exact bI_01 | exact c_cat | exact vt_ref | exact vt_null | rfl | with_reducible repeat (first | assumption | omega | apply S_I | apply S_L | apply S_D | apply ob_I | apply ob_L | apply ob_D | apply ob_R | apply ax_I | apply ax_L | apply ax_D | apply ax_R | apply o303 | apply o307 | apply o302 | apply o301 | apply ax304 | apply ax305 | apply ax306 | apply ax308 | apply ax309 | apply ax310 | apply lt_S | apply ar305 | apply ar308 | apply ar309)) only [g237_94, g237_97, g237_223, Option.toList, List.nil_append, List.cons_append, va_rf, nI_ltI, nI_leI, nI_eq, nI_add, nI_sub, nI_lt0, nI_e0, nI_m1, m1_nI, Nat.reduceEqDiff, Nat.reduceLT, Nat.reduceLeDiff, Nat.reduceAdd, Nat.reduceSub, Nat.reduceMul, ↓reduceIte, eq_self, Nat.le_refl]
  | succ q ih =>
    intro x g v2 hq hx F e1 e2 H
    have hx' : x < 256 := by omega
    have Sg := fr_S F S
    have D1 := CDm_fr F (fun a ha => by omega) D
    obtain ⟨-, c2, c3⟩ := D1 x hx'
    have W1 : ∀ x, x < 256 → mb x = true → ∀ y, y < 256 → am_I g 399 (256 * sl x + y) = bI (rt x y) := fun x hx hm y hy => (fr_rdI F (by decide)).trans (W x hx hm y hy)
    have cs : cnB (leadB rt) (x + 1) = cnB (leadB rt) x + if leadB rt x = true then 1 else 0 := rfl
    have cb := cnB_n (r := leadB rt) x
    cases hr : rt x x with
    | false =>
      have lf : leadB rt x = false := by unfold leadB; rw [hr]; rfl
      obtain ⟨g', F', a1, a2, a3, R'⟩ := ih (x + 1) g v2 (by omega) (by omega) F e1 (by rw [cs, lf, if_neg (by decide)]; exact e2) (fun j hj => by
        rw [H j hj]
        by_cases c : j < x ∧ rt j j = true
        · rw [if_pos c, if_pos ⟨by omega, c.2⟩]
        · rw [if_neg c, if_neg (fun z => c ⟨by
            have : j ≠ x := fun e => by rw [e, hr] at z; cases z.2
            omega, z.2⟩)])
      refine ⟨g', F', a1, a2, a3, fun Q => ?_⟩
      rw [← R' Q, g237_93]
      cases hm : mb x with
      | false =>
        have sx := c2 hm
        simp (disch := first | with_reducible assumption | omega | exact Or.inl rfl | exact Or.inr rfl | exact bI_01 | exact c_cat | exact vt_ref | exact vt_null | rfl | with_reducible repeat (first | assumption | omega | apply S_I | apply S_L | apply S_D | apply ob_I | apply ob_L | apply ob_D | apply ob_R | apply ax_I | apply ax_L | apply ax_D | apply ax_R | apply o303 | apply o307 | apply o302 | apply o301 | apply ax304 | apply ax305 | apply ax306 | apply ax308 | apply ax309 | apply ax310 | apply lt_S | apply ar305 | apply ar308 | apply ar309)) only [g237_94, g237_97, g237_100, g237_101, g237_104, g237_105, g237_106, g237_107, g237_217, g237_220, Option.toList, List.nil_append, List.cons_append, va_rf, nI_ltI, nI_leI, nI_eq, nI_add, nI_sub, nI_lt0, nI_e0, nI_m1, m1_nI, Nat.reduceEqDiff, Nat.reduceLT, Nat.reduceLeDiff, Nat.reduceAdd, Nat.reduceSub, Nat.reduceMul, ↓reduceIte, eq_self, show ¬ 256 ≤ x by omega, sx]
      | true =>
        obtain ⟨sx, s48, -, -⟩ := c3 hm
        have sm : ¬ nI (sl x) = -1 := nI_nem1 (by omega)
        have w := W1 x hx' hm x hx'
        rw [hr, bI_f] at w
        have q1 : 256 * sl x + x < 12288 := by omega
        simp (disch := first | with_reducible assumption | omega | exact Or.inl rfl | exact Or.inr rfl | exact bI_01 | exact c_cat | exact vt_ref | exact vt_null | rfl | with_reducible repeat (first | assumption | omega | apply S_I | apply S_L | apply S_D | apply ob_I | apply ob_L | apply ob_D | apply ob_R | apply ax_I | apply ax_L | apply ax_D | apply ax_R | apply o303 | apply o307 | apply o302 | apply o301 | apply ax304 | apply ax305 | apply ax306 | apply ax308 | apply ax309 | apply ax310 | apply lt_S | apply ar305 | apply ar308 | apply ar309)) only [g237_94, g237_97, g237_100, g237_101, g237_104, g237_105, g237_106, g237_107, g237_110, g237_111, g237_114, g237_117, g237_118, g237_121, g237_122, g237_123, g237_124, g237_125, g237_126, g237_127, g237_130, g237_217, g237_220, Option.toList, List.nil_append, List.cons_append, va_rf, nI_ltI, nI_leI, nI_eq, nI_add, nI_sub, nI_lt0, nI_e0, nI_m1, m1_nI, Nat.reduceEqDiff, Nat.reduceLT, Nat.reduceLeDiff, Nat.reduceAdd, Nat.reduceSub, Nat.reduceMul, ↓reduceIte, eq_self, nI_mul, show ¬ 256 ≤ x by omega, sx, sm, w]
    | true =>
      have hm := (hmb x x hr).2
      obtain ⟨l1, l2, l3, l4⟩ := cycF_lt hx' hr
      obtain ⟨sx, s48, -, -⟩ := c3 hm
      have sm : ¬ nI (sl x) = -1 := nI_nem1 (by omega)
      have w := W1 x hx' hm x hx'
      rw [hr, bI_t] at w
      have q1 : 256 * sl x + x < 12288 := by omega
      have my := m_cycY (d := d) Sg D1 hmb W1 hx' hr (cycF rt x) 0 (Nat.sub_zero _) (Nat.zero_le _)
      have F2 : am_fr (fun a => a = 349 ∨ a = 395) h (am_setI (am_setI g 395 x (nI (cycF rt x))) 349 82 (nI (cnB (leadB rt) (x + 1)))) := fr_I (fr_I F (Or.inr rfl)) (Or.inl rfl)
      obtain ⟨g', F', a1, a2, a3, R'⟩ := ih (x + 1) _ (some (.int (nI (cycF rt x)))) (by omega) (by omega) F2 (fun k hk => by rw [rI_k hk, rI_a (by decide)]; exact e1 k hk) rI_eq (fun j hj => by
        rw [rI_a (by decide)]
        by_cases ej : j = x
        · subst ej
          rw [rI_eq, if_pos ⟨by omega, hr⟩]
        · rw [rI_k ej, H j hj]
          by_cases c : j < x ∧ rt j j = true
          · rw [if_pos c, if_pos ⟨by omega, c.2⟩]
          · rw [if_neg c, if_neg (fun z => c ⟨by omega, z.2⟩)])
      refine ⟨g', F', a1, a2, a3, fun Q => ?_⟩
      have go : am_J d 237 93 [some (.ref 349), some (.int (nI x)), v2] [] g Q ↔ am_J d 237 135 [some (.ref 349), some (.int (nI x)), some (.int (nI 0))] [] g Q := by
        rw [g237_93]
        simp (disch := first | with_reducible assumption | omega | exact Or.inl rfl | exact Or.inr rfl | exact bI_01 | exact c_cat | exact vt_ref | exact vt_null | rfl | with_reducible repeat (first | assumption | omega | apply S_I | apply S_L | apply S_D | apply ob_I | apply ob_L | apply ob_D | apply ob_R | apply ax_I | apply ax_L | apply ax_D | apply ax_R | apply o303 | apply o307 | apply o302 | apply o301 | apply ax304 | apply ax305 | apply ax306 | apply ax308 | apply ax309 | apply ax310 | apply lt_S | apply ar305 | apply ar308 | apply ar309)) only [g237_94, g237_97, g237_100, g237_101, g237_104, g237_105, g237_106, g237_107, g237_110, g237_111, g237_114, g237_117, g237_118, g237_121, g237_122, g237_123, g237_124, g237_125, g237_126, g237_127, g237_130, g237_133, g237_134, Option.toList, List.nil_append, List.cons_append, va_rf, nI_ltI, nI_leI, nI_eq, nI_add, nI_sub, nI_lt0, nI_e0, nI_m1, m1_nI, Nat.reduceEqDiff, Nat.reduceLT, Nat.reduceLeDiff, Nat.reduceAdd, Nat.reduceSub, Nat.reduceMul, ↓reduceIte, eq_self, nI_mul, show ¬ 256 ≤ x by omega, sx, sm, w]
      rw [← R' Q, go, my Q, cs]
      by_cases e : x = cycF rt x
      · have lf : leadB rt x = true := by unfold leadB; rw [hr, decide_eq_true e.symm]; rfl
        rw [lf, if_pos rfl]
        have e' : cycF rt x = x := e.symm
        rw [e']
        simp (disch := first | with_reducible assumption | omega | exact Or.inl rfl | exact Or.inr rfl | exact bI_01 | exact c_cat | exact vt_ref | exact vt_null | rfl | with_reducible repeat (first | assumption | omega | apply S_I | apply S_L | apply S_D | apply ob_I | apply ob_L | apply ob_D | apply ob_R | apply ax_I | apply ax_L | apply ax_D | apply ax_R | apply o303 | apply o307 | apply o302 | apply o301 | apply ax304 | apply ax305 | apply ax306 | apply ax308 | apply ax309 | apply ax310 | apply lt_S | apply ar305 | apply ar308 | apply ar309)) only [g237_191, g237_192, g237_195, g237_196, g237_197, g237_198, g237_199, g237_200, g237_203, g237_204, g237_205, g237_208, g237_209, g237_212, g237_213, g237_214, g237_217, g237_220, Option.toList, List.nil_append, List.cons_append, va_rf, nI_ltI, nI_leI, nI_eq, nI_add, nI_sub, nI_lt0, nI_e0, nI_m1, m1_nI, Nat.reduceEqDiff, Nat.reduceLT, Nat.reduceLeDiff, Nat.reduceAdd, Nat.reduceSub, Nat.reduceMul, ↓reduceIte, eq_self, hI_I, hI_L, hI_D, hI_R, hL_I, hL_L, hL_D, hL_R, hD_I, hD_L, hD_D, hD_R, hR_I, hR_L, hR_D, ↓reduceIte, Nat.reduceEqDiff, e2]
      · have lf : leadB rt x = false := by unfold leadB; rw [hr, decide_eq_false (fun z => e z.symm)]; rfl
        rw [lf, if_neg (by decide)]
        have l256 : cycF rt x < 256 := by omega
        generalize cycF rt x = y at e l256
        simp (disch := first | with_reducible assumption | omega | exact Or.inl rfl | exact Or.inr rfl | exact bI_01 | exact c_cat | exact vt_ref | exact vt_null | rfl | with_reducible repeat (first | assumption | omega | apply S_I | apply S_L | apply S_D | apply ob_I | apply ob_L | apply ob_D | apply ob_R | apply ax_I | apply ax_L | apply ax_D | apply ax_R | apply o303 | apply o307 | apply o302 | apply o301 | apply ax304 | apply ax305 | apply ax306 | apply ax308 | apply ax309 | apply ax310 | apply lt_S | apply ar305 | apply ar308 | apply ar309)) only [g237_191, g237_192, g237_195, g237_196, g237_197, g237_198, g237_199, g237_200, g237_203, g237_204, g237_205, g237_208, g237_209, g237_212, g237_213, g237_214, g237_217, g237_220, Option.toList, List.nil_append, List.cons_append, va_rf, nI_ltI, nI_leI, nI_eq, nI_add, nI_sub, nI_lt0, nI_e0, nI_m1, m1_nI, Nat.reduceEqDiff, Nat.reduceLT, Nat.reduceLeDiff, Nat.reduceAdd, Nat.reduceSub, Nat.reduceMul, ↓reduceIte, eq_self, hI_I, hI_L, hI_D, hI_R, hL_I, hL_L, hL_D, hL_R, hD_I, hD_L, hD_D, hD_R, hR_I, hR_L, hR_D, ↓reduceIte, Nat.reduceEqDiff, e2, e]
/-- findCycles as a whole -/
theorem m_findCycles (S : am_S h) (D : CDm h mb sl nl Gc nf) (hl : ∀ x y, y ∈ nl x → y < 256) (hrt : ∀ x y, rt x y = true ↔ RT nl x y) (hm : ∀ x y, y ∈ nl x → x < 256 ∧ mb x = true) (inj : ∀ x y, x < 256 → y < 256 → mb x = true → mb y = true → sl x = sl y → x = y) :
    ∃ g, am_run (d + 462) 237 [some (.ref 349), none, none] h none g ∧ am_fr cyP h g ∧ (∀ k, k ≠ 83 → k ≠ 82 → am_I g 349 k = am_I h 349 k) ∧ am_I g 349 82 = nI (cnB (leadB rt) 256) ∧ ∀ j, j < 256 → am_I g 395 j = if rt j j = true then nI (cycF rt j) else -1 := by
  obtain ⟨g1, v2, W1, R1⟩ := m_cyc1 (d := d) S D hl hrt inj 256 0 h none rfl (Nat.zero_le _) ⟨fr_refl, fun _ _ _ => rfl, fun x hx => absurd hx (Nat.not_lt_zero _), fun x hx => absurd hx (Nat.not_lt_zero _)⟩
  have S1 := fr_S W1.1 S
  have D1 := CDm_fr W1.1 (fun a ha => by omega) D
  obtain ⟨g2, F2, a1, a2, a3, R2⟩ := m_cyc2 (d := d + 462) (h := g1) S1 D1 (fun x y z => by
    obtain ⟨w, hw⟩ := RT_head ((hrt x y).mp z)
    exact hm x w hw) W1.2.2.2 256 0 (am_setI g1 349 82 (nI 0)) v2 rfl (Nat.zero_le _) (fr_I fr_refl (Or.inl rfl)) (fun k hk => rI_k hk) rI_eq (fun j hj => by
    rw [rI_a (by decide), if_neg (fun z => absurd z.1 (Nat.not_lt_zero _))]; exact W1.2.2.1 j hj)
  refine ⟨g2, fun Q => ?_, fr_trans W1.1 (fr_mono (fun a ha => by omega) F2), fun k h1 h2 => (a1 k h2).trans (W1.2.1 k h1 h2), a2, a3⟩
  rw [← R2 Q]
  simp (disch := first | with_reducible assumption | omega | exact Or.inl rfl | exact Or.inr rfl | exact bI_01 | exact c_cat | exact vt_ref | exact vt_null | rfl | with_reducible repeat (first | assumption | omega | apply S_I | apply S_L | apply S_D | apply ob_I | apply ob_L | apply ob_D | apply ob_R | apply ax_I | apply ax_L | apply ax_D | apply ax_R | apply o303 | apply o307 | apply o302 | apply o301 | apply ax304 | apply ax305 | apply ax306 | apply ax308 | apply ax309 | apply ax310 | apply lt_S | apply ar305 | apply ar308 | apply ar309)) only [g237_0, g237_1, R1 _, g237_86, g237_87, g237_88, g237_91, g237_92, Option.toList, List.nil_append, List.cons_append, va_rf]
/-- is a cell ready? -/
theorem m_isReady {ch dn oc : Nat → Bool} {cy : Nat → Nat} (S : am_S g) (D : CDm g mb sl nl Gc nf) (hl : ∀ x y, y ∈ nl x → y < 256) (C : ∀ j, j < 256 → am_I g 392 j = bI (ch j)) (N : ∀ j, j < 256 → am_I g 391 j = bI (dn j)) (hx : x < 256) (Y : am_I g 395 x = if oc x = true then nI (cy x) else -1) (hcy : oc x = true → cy x < 256) :
    ∃ g', am_run (d + 461) 265 [some (.ref 349), some (.int (nI x)), none, none] g (some (.int (bI (rdy nl ch dn oc x)))) g' ∧ am_fr (fun a => a = 349 ∨ a = 390 ∨ a = 398) g g' ∧ ∀ k, k ≠ 83 → am_I g' 349 k = am_I g 349 k := by
  have cx := C x hx
  have nx := N x hx
  have e0 : rdy nl ch dn oc x = (ch x && !dn x && (oc x || (nl x).all fun y => !ch y || dn y)) := rfl
  cases h1 : ch x with
  | false =>
    rw [h1] at cx
    refine ⟨g, fun Q => ?_, fr_refl, fun _ _ => rfl⟩
    rw [e0, h1]
    simp (disch := first | with_reducible assumption | omega | exact Or.inl rfl | exact Or.inr rfl | exact bI_01 | exact c_cat | exact vt_ref | exact vt_null | rfl | with_reducible repeat (first | assumption | omega | apply S_I | apply S_L | apply S_D | apply ob_I | apply ob_L | apply ob_D | apply ob_R | apply ax_I | apply ax_L | apply ax_D | apply ax_R | apply o303 | apply o307 | apply o302 | apply o301 | apply ax304 | apply ax305 | apply ax306 | apply ax308 | apply ax309 | apply ax310 | apply lt_S | apply ar305 | apply ar308 | apply ar309)) only [g265_0, g265_1, g265_4, g265_5, g265_6, g265_9, g265_10, g265_13, g265_14, g265_15, g265_18, g265_19, Option.toList, List.nil_append, List.cons_append, va_rf, nI_ltI, nI_leI, nI_eq, nI_add, nI_sub, nI_lt0, nI_e0, nI_m1, m1_nI, Nat.reduceEqDiff, Nat.reduceLT, Nat.reduceLeDiff, Nat.reduceAdd, Nat.reduceSub, Nat.reduceMul, ↓reduceIte, eq_self, cx, bI_f, Bool.false_and]
  | true =>
    rw [h1] at cx
    cases h2 : dn x with
    | true =>
      rw [h2] at nx
      refine ⟨g, fun Q => ?_, fr_refl, fun _ _ => rfl⟩
      rw [e0, h1, h2]
      simp (disch := first | with_reducible assumption | omega | exact Or.inl rfl | exact Or.inr rfl | exact bI_01 | exact c_cat | exact vt_ref | exact vt_null | rfl | with_reducible repeat (first | assumption | omega | apply S_I | apply S_L | apply S_D | apply ob_I | apply ob_L | apply ob_D | apply ob_R | apply ax_I | apply ax_L | apply ax_D | apply ax_R | apply o303 | apply o307 | apply o302 | apply o301 | apply ax304 | apply ax305 | apply ax306 | apply ax308 | apply ax309 | apply ax310 | apply lt_S | apply ar305 | apply ar308 | apply ar309)) only [g265_0, g265_1, g265_4, g265_5, g265_6, g265_9, g265_10, g265_13, g265_14, g265_15, g265_18, g265_19, Option.toList, List.nil_append, List.cons_append, va_rf, nI_ltI, nI_leI, nI_eq, nI_add, nI_sub, nI_lt0, nI_e0, nI_m1, m1_nI, Nat.reduceEqDiff, Nat.reduceLT, Nat.reduceLeDiff, Nat.reduceAdd, Nat.reduceSub, Nat.reduceMul, ↓reduceIte, eq_self, cx, nx, bI_t, bI_f, Bool.not_true, Bool.and_false, Bool.false_and]
    | false =>
      rw [h2] at nx
      cases h3 : oc x with
      | true =>
        have c256 := hcy h3
        rw [h3, if_pos rfl] at Y
        refine ⟨g, fun Q => ?_, fr_refl, fun _ _ => rfl⟩
        rw [e0, h1, h2, h3]
        simp (disch := first | with_reducible assumption | omega | exact Or.inl rfl | exact Or.inr rfl | exact bI_01 | exact c_cat | exact vt_ref | exact vt_null | rfl | with_reducible repeat (first | assumption | omega | apply S_I | apply S_L | apply S_D | apply ob_I | apply ob_L | apply ob_D | apply ob_R | apply ax_I | apply ax_L | apply ax_D | apply ax_R | apply o303 | apply o307 | apply o302 | apply o301 | apply ax304 | apply ax305 | apply ax306 | apply ax308 | apply ax309 | apply ax310 | apply lt_S | apply ar305 | apply ar308 | apply ar309)) only [g265_0, g265_1, g265_4, g265_5, g265_6, g265_9, g265_10, g265_13, g265_14, g265_15, g265_18, g265_19, g265_20, g265_21, g265_24, g265_25, g265_26, g265_27, g265_30, g265_31, Option.toList, List.nil_append, List.cons_append, va_rf, nI_ltI, nI_leI, nI_eq, nI_add, nI_sub, nI_lt0, nI_e0, nI_m1, m1_nI, Nat.reduceEqDiff, Nat.reduceLT, Nat.reduceLeDiff, Nat.reduceAdd, Nat.reduceSub, Nat.reduceMul, ↓reduceIte, eq_self, cx, nx, bI_t, bI_f, Y, nI_nem1 (show cy x < 2 ^ 31 by omega), Bool.not_false, Bool.and_self, Bool.true_or]
      | false =>
        rw [h3, if_neg (by decide)] at Y
        obtain ⟨g1, R1, N1⟩ := m_listNeeds (d := d) S hx (D x hx).1
        obtain ⟨n1, n2, n3, n4, n5, n6, n7⟩ := N1
        have S1 := fr_S n1 S
        have lN := nodup_le 256 _ n6 n7
        have e1 : rdy nl ch dn oc x = !orU (fun i => ch ((nl x).getD i 0) && !dn ((nl x).getD i 0)) (nl x).length := by
          rw [e0, h1, h2, h3, Bool.not_false, Bool.true_and, Bool.true_and, Bool.false_or, Bool.eq_iff_iff, List.all_eq_true, Bool.not_eq_true', Bool.eq_false_iff]
          constructor
          · intro z w
            obtain ⟨i, i1, i2⟩ := (orU_iff _).mp w
            have gi : (nl x).getD i 0 = (nl x)[i] := by rw [List.getD_eq_getElem?_getD, List.getElem?_eq_getElem i1]; rfl
            rw [gi] at i2
            have := z _ (List.getElem_mem i1)
            cases hc : ch (nl x)[i] <;> cases hd : dn (nl x)[i] <;> rw [hc, hd] at i2 this <;> simp at i2 this
          · intro z y hy
            obtain ⟨i, i1, i2⟩ := List.mem_iff_getElem.mp hy
            have gi : (nl x).getD i 0 = (nl x)[i] := by rw [List.getD_eq_getElem?_getD, List.getElem?_eq_getElem i1]; rfl
            cases hc : ch y
            · rfl
            · cases hd : dn y
              · exact absurd ((orU_iff _).mpr ⟨i, i1, by rw [gi, i2, hc, hd]; rfl⟩) z
              · rfl
        have L : ∀ q k, (nl x).length - k = q → k ≤ (nl x).length → ∀ Q, am_J (d + 461) 265 41 [some (.ref 349), some (.int (nI x)), some (.int (bI (!orU (fun i => ch ((nl x).getD i 0) && !dn ((nl x).getD i 0)) k))), some (.int (nI k))] [] g1 Q ↔ Q (some (.int (bI (!orU (fun i => ch ((nl x).getD i 0) && !dn ((nl x).getD i 0)) (nl x).length)))) g1 := by
          intro q
          induction q with
          | zero =>
            intro k hq hk Q
            obtain rfl : k = (nl x).length := by omega
            rw [g265_41]
            simp (disch := first | with_reducible assumption | omega | exact Or.inl rfl | exact Or.inr rfl | exact bI_01 | exact c_cat | exact vt_ref | exact vt_null | rfl | with_reducible repeat (first | assumption | omega | apply S_I | apply S_L | apply S_D | apply ob_I | apply ob_L | apply ob_D | apply ob_R | apply ax_I | apply ax_L | apply ax_D | apply ax_R | apply o303 | apply o307 | apply o302 | apply o301 | apply ax304 | apply ax305 | apply ax306 | apply ax308 | apply ax309 | apply ax310 | apply lt_S | apply ar305 | apply ar308 | apply ar309)) only [g265_42, g265_43, g265_46, g265_93, g265_94, Option.toList, List.nil_append, List.cons_append, va_rf, nI_ltI, nI_leI, nI_eq, nI_add, nI_sub, nI_lt0, nI_e0, nI_m1, m1_nI, Nat.reduceEqDiff, Nat.reduceLT, Nat.reduceLeDiff, Nat.reduceAdd, Nat.reduceSub, Nat.reduceMul, ↓reduceIte, eq_self, n3, Nat.le_refl]
          | succ q ih =>
            intro k hq hk Q
            have hk' : k < (nl x).length := by omega
            cases ho : orU (fun i => ch ((nl x).getD i 0) && !dn ((nl x).getD i 0)) k with
            | true =>
              rw [orU_up ho _ hk, g265_41]
              simp (disch := first | with_reducible assumption | omega | exact Or.inl rfl | exact Or.inr rfl | exact bI_01 | exact c_cat | exact vt_ref | exact vt_null | rfl | with_reducible repeat (first | assumption | omega | apply S_I | apply S_L | apply S_D | apply ob_I | apply ob_L | apply ob_D | apply ob_R | apply ax_I | apply ax_L | apply ax_D | apply ax_R | apply o303 | apply o307 | apply o302 | apply o301 | apply ax304 | apply ax305 | apply ax306 | apply ax308 | apply ax309 | apply ax310 | apply lt_S | apply ar305 | apply ar308 | apply ar309)) only [g265_42, g265_43, g265_46, g265_49, g265_50, g265_93, g265_94, Option.toList, List.nil_append, List.cons_append, va_rf, nI_ltI, nI_leI, nI_eq, nI_add, nI_sub, nI_lt0, nI_e0, nI_m1, m1_nI, Nat.reduceEqDiff, Nat.reduceLT, Nat.reduceLeDiff, Nat.reduceAdd, Nat.reduceSub, Nat.reduceMul, ↓reduceIte, eq_self, n3, show ¬ (nl x).length ≤ k by omega, bI_f, Bool.not_true]
            | false =>
              have gk : (nl x)[k]? = some ((nl x).getD k 0) := by
                rw [List.getD_eq_getElem?_getD, List.getElem?_eq_getElem hk']; rfl
              have y256 := n7 _ (List.mem_of_getElem? gk)
              have e398 := n4 k _ gk
              have cy' : am_I g1 392 ((nl x).getD k 0) = bI (ch ((nl x).getD k 0)) := (fr_rdI n1 (by decide)).trans (C _ y256)
              have ny' : am_I g1 391 ((nl x).getD k 0) = bI (dn ((nl x).getD k 0)) := (fr_rdI n1 (by decide)).trans (N _ y256)
              have e2 : orU (fun i => ch ((nl x).getD i 0) && !dn ((nl x).getD i 0)) (k + 1) = (ch ((nl x).getD k 0) && !dn ((nl x).getD k 0)) := by
                show (orU _ k || _) = _
                rw [ho, Bool.false_or]
              rw [← ih (k + 1) (by omega) (by omega) Q, e2, g265_41]
              generalize (nl x).getD k 0 = y at y256 e398 cy' ny'
              cases hc : ch y with
              | false =>
                rw [hc] at cy'
                simp (disch := first | with_reducible assumption | omega | exact Or.inl rfl | exact Or.inr rfl | exact bI_01 | exact c_cat | exact vt_ref | exact vt_null | rfl | with_reducible repeat (first | assumption | omega | apply S_I | apply S_L | apply S_D | apply ob_I | apply ob_L | apply ob_D | apply ob_R | apply ax_I | apply ax_L | apply ax_D | apply ax_R | apply o303 | apply o307 | apply o302 | apply o301 | apply ax304 | apply ax305 | apply ax306 | apply ax308 | apply ax309 | apply ax310 | apply lt_S | apply ar305 | apply ar308 | apply ar309)) only [g265_42, g265_43, g265_46, g265_49, g265_50, g265_53, g265_54, g265_57, g265_58, g265_61, g265_62, g265_63, g265_64, g265_67, g265_68, g265_71, g265_72, g265_75, g265_76, g265_77, g265_78, g265_81, g265_82, g265_85, g265_86, g265_87, g265_90, Option.toList, List.nil_append, List.cons_append, va_rf, nI_ltI, nI_leI, nI_eq, nI_add, nI_sub, nI_lt0, nI_e0, nI_m1, m1_nI, Nat.reduceEqDiff, Nat.reduceLT, Nat.reduceLeDiff, Nat.reduceAdd, Nat.reduceSub, Nat.reduceMul, ↓reduceIte, eq_self, n3, show ¬ (nl x).length ≤ k by omega, bI_t, bI_f, e398, cy', Bool.not_false, Bool.false_and]
              | true =>
                rw [hc] at cy'
                cases hd : dn y with
                | true =>
                  rw [hd] at ny'
                  simp (disch := first | with_reducible assumption | omega | exact Or.inl rfl | exact Or.inr rfl | exact bI_01 | exact c_cat | exact vt_ref | exact vt_null | rfl | with_reducible repeat (first | assumption | omega | apply S_I | apply S_L | apply S_D | apply ob_I | apply ob_L | apply ob_D | apply ob_R | apply ax_I | apply ax_L | apply ax_D | apply ax_R | apply o303 | apply o307 | apply o302 | apply o301 | apply ax304 | apply ax305 | apply ax306 | apply ax308 | apply ax309 | apply ax310 | apply lt_S | apply ar305 | apply ar308 | apply ar309)) only [g265_42, g265_43, g265_46, g265_49, g265_50, g265_53, g265_54, g265_57, g265_58, g265_61, g265_62, g265_63, g265_64, g265_67, g265_68, g265_71, g265_72, g265_75, g265_76, g265_77, g265_78, g265_81, g265_82, g265_85, g265_86, g265_87, g265_90, Option.toList, List.nil_append, List.cons_append, va_rf, nI_ltI, nI_leI, nI_eq, nI_add, nI_sub, nI_lt0, nI_e0, nI_m1, m1_nI, Nat.reduceEqDiff, Nat.reduceLT, Nat.reduceLeDiff, Nat.reduceAdd, Nat.reduceSub, Nat.reduceMul, ↓reduceIte, eq_self, n3, show ¬ (nl x).length ≤ k by omega, bI_t, e398, cy', ny', Bool.not_false, Bool.not_true, Bool.and_false]
                | false =>
                  rw [hd] at ny'
                  simp (disch := first | with_reducible assumption | omega | exact Or.inl rfl | exact Or.inr rfl | exact bI_01 | exact c_cat | exact vt_ref | exact vt_null | rfl | with_reducible repeat (first | assumption | omega | apply S_I | apply S_L | apply S_D | apply ob_I | apply ob_L | apply ob_D | apply ob_R | apply ax_I | apply ax_L | apply ax_D | apply ax_R | apply o303 | apply o307 | apply o302 | apply o301 | apply ax304 | apply ax305 | apply ax306 | apply ax308 | apply ax309 | apply ax310 | apply lt_S | apply ar305 | apply ar308 | apply ar309)) only [g265_42, g265_43, g265_46, g265_49, g265_50, g265_53, g265_54, g265_57, g265_58, g265_61, g265_62, g265_63, g265_64, g265_67, g265_68, g265_71, g265_72, g265_75, g265_76, g265_77, g265_78, g265_81, g265_82, g265_85, g265_86, g265_87, g265_90, Option.toList, List.nil_append, List.cons_append, va_rf, nI_ltI, nI_leI, nI_eq, nI_add, nI_sub, nI_lt0, nI_e0, nI_m1, m1_nI, Nat.reduceEqDiff, Nat.reduceLT, Nat.reduceLeDiff, Nat.reduceAdd, Nat.reduceSub, Nat.reduceMul, ↓reduceIte, eq_self, n3, show ¬ (nl x).length ≤ k by omega, bI_t, bI_f, e398, cy', ny', Bool.not_false, Bool.not_true, Bool.and_self]
        refine ⟨g1, fun Q => ?_, n1, n2⟩
        rw [e1, ← L (nl x).length 0 (Nat.sub_zero _) (Nat.zero_le _) Q]
        have o0 : orU (fun i => ch ((nl x).getD i 0) && !dn ((nl x).getD i 0)) 0 = false := rfl
        simp (disch := first | with_reducible assumption | omega | exact Or.inl rfl | exact Or.inr rfl | exact bI_01 | exact c_cat | exact vt_ref | exact vt_null | rfl | with_reducible repeat (first | assumption | omega | apply S_I | apply S_L | apply S_D | apply ob_I | apply ob_L | apply ob_D | apply ob_R | apply ax_I | apply ax_L | apply ax_D | apply ax_R | apply o303 | apply o307 | apply o302 | apply o301 | apply ax304 | apply ax305 | apply ax306 | apply ax308 | apply ax309 | apply ax310 | apply lt_S | apply ar305 | apply ar308 | apply ar309)) only [g265_0, g265_1, g265_4, g265_5, g265_6, g265_9, g265_10, g265_13, g265_14, g265_15, g265_18, g265_19, g265_20, g265_21, g265_24, g265_25, g265_26, g265_27, g265_30, g265_31, g265_32, g265_33, g265_34, g265_37, g265_38, g265_39, g265_40, Option.toList, List.nil_append, List.cons_append, va_rf, nI_ltI, nI_leI, nI_eq, nI_add, nI_sub, nI_lt0, nI_e0, nI_m1, m1_nI, Nat.reduceEqDiff, Nat.reduceLT, Nat.reduceLeDiff, Nat.reduceAdd, Nat.reduceSub, Nat.reduceMul, ↓reduceIte, eq_self, cx, nx, bI_t, bI_f, Y, R1 _, o0, Bool.not_false]
end MCY

/-! RECALCULATE: the class's end -/
section XEN
variable {d nf : Nat} {h g : am_H} {fe : Nat → Nat}
/-- all that was told is forgotten -/
theorem x_forget1 (S : am_S h) : ∀ q c g, 256 - c = q → c ≤ 256 → am_fr (fun a => 22 ≤ a ∧ a < 278) h g → (∀ a k, ¬ (22 ≤ a ∧ a < 278 ∧ k = 7) → am_I g a k = am_I h a k) → (∀ a k, am_L g a k = am_L h a k ∧ am_D g a k = am_D h a k) → (∀ j, j < c → am_I g (22 + j) 7 = nI 0) → ∃ g', am_fr (fun a => 22 ≤ a ∧ a < 278) h g' ∧ (∀ a k, ¬ (22 ≤ a ∧ a < 278 ∧ k = 7) → am_I g' a k = am_I h a k) ∧ (∀ a k, am_L g' a k = am_L h a k ∧ am_D g' a k = am_D h a k) ∧ (∀ j, j < 256 → am_I g' (22 + j) 7 = nI 0) ∧ ∀ Q, am_J d 157 2 [some (.ref 4), some (.int (nI c))] [] g Q ↔ am_J d 157 25 [some (.ref 4), some (.int (nI 256))] [] g' Q := by
  intro q
  induction q with
  | zero =>
    intro c g hq hc F e1 e2 H
    obtain rfl : c = 256 := by omega
    refine ⟨g, F, e1, e2, H, fun Q => ?_⟩
    rw [g157_2]
    simp (disch := first | with_reducible assumption | omega | exact Or.inl rfl | exact Or.inr rfl | exact bI_01 | exact c_cat | exact vt_ref | exact vt_null | rfl | with_reducible repeat (first | assumption | omega | apply S_I | apply S_L | apply S_D | apply ob_I | apply ob_L | apply ob_D | apply ob_R | apply ax_I | apply ax_L | apply ax_D | apply ax_R | apply o303 | apply o307 | apply o302 | apply o301 | apply ax304 | apply ax305 | apply ax306 | apply ax308 | apply ax309 | apply ax310 | apply lt_S | apply ar305 | apply ar308 | apply ar309)) only [g157_3, g157_6, Option.toList, List.nil_append, List.cons_append, va_rf, nI_ltI, nI_leI, nI_eq, nI_add, nI_sub, nI_lt0, nI_e0, nI_m1, m1_nI, Nat.reduceEqDiff, Nat.reduceLT, Nat.reduceLeDiff, Nat.reduceAdd, Nat.reduceSub, Nat.reduceMul, ↓reduceIte, eq_self, Nat.le_refl]
  | succ q ih =>
    intro c g hq hc F e1 e2 H
    have hc' : c < 256 := by omega
    have Sg := fr_S F S
    have O := o22 Sg hc'
    have h4 : 4 ≤ 22 + c := by omega
    obtain ⟨g', F', a1, a2, a3, R'⟩ := ih (c + 1) (am_setI g (22 + c) 7 (nI 0)) (by omega) (by omega) (fr_I F (by omega)) (fun a k hk => by
      by_cases e : a = 22 + c
      · subst e; rw [rI_k (by omega)]; exact e1 _ k hk
      · rw [rI_a e]; exact e1 a k hk) e2 (fun j hj => by
      by_cases e : j = c
      · rw [e, rI_eq]
      · rw [rI_a (by omega)]; exact H j (by omega))
    refine ⟨g', F', a1, a2, a3, fun Q => ?_⟩
    rw [← R' Q, g157_2]
    simp (disch := first | with_reducible assumption | omega | exact Or.inl rfl | exact Or.inr rfl | exact bI_01 | exact c_cat | exact vt_ref | exact vt_null | rfl | with_reducible repeat (first | assumption | omega | apply S_I | apply S_L | apply S_D | apply ob_I | apply ob_L | apply ob_D | apply ob_R | apply ax_I | apply ax_L | apply ax_D | apply ax_R | apply o303 | apply o307 | apply o302 | apply o301 | apply ax304 | apply ax305 | apply ax306 | apply ax308 | apply ax309 | apply ax310 | apply lt_S | apply ar305 | apply ar308 | apply ar309)) only [g157_3, g157_6, g157_9, g157_10, g157_13, g157_14, g157_15, g157_16, g157_19, g157_22, Option.toList, List.nil_append, List.cons_append, va_rf, nI_ltI, nI_leI, nI_eq, nI_add, nI_sub, nI_lt0, nI_e0, nI_m1, m1_nI, Nat.reduceEqDiff, Nat.reduceLT, Nat.reduceLeDiff, Nat.reduceAdd, Nat.reduceSub, Nat.reduceMul, ↓reduceIte, eq_self, show ¬ 256 ≤ c by omega]
theorem x_forget2 (S : am_S h) (n8 : nf ≤ 8) (en : am_I h 4 10 = nI nf) (H : ∀ i, i < nf → am_R h 11 i = some (fe i) ∧ 402 ≤ fe i ∧ am_ob h (fe i) 1) : ∀ q i g, nf - i = q → i ≤ nf → am_fr (fun a => 402 ≤ a) h g → (∀ a k, ¬ (k = 11 ∧ ∃ j, j < nf ∧ a = fe j) → am_I g a k = am_I h a k) → (∀ a k, am_L g a k = am_L h a k ∧ am_D g a k = am_D h a k) → (∀ j, j < i → am_I g (fe j) 11 = nI 0) → ∃ g', am_fr (fun a => 402 ≤ a) h g' ∧ (∀ a k, ¬ (k = 11 ∧ ∃ j, j < nf ∧ a = fe j) → am_I g' a k = am_I h a k) ∧ (∀ a k, am_L g' a k = am_L h a k ∧ am_D g' a k = am_D h a k) ∧ (∀ j, j < nf → am_I g' (fe j) 11 = nI 0) ∧ ∀ Q, am_J d 157 27 [some (.ref 4), some (.int (nI i))] [] g Q ↔ Q none g' := by
  intro q
  induction q with
  | zero =>
    intro i g hq hi F e1 e2 Z
    obtain rfl : i = nf := by omega
    have Sg := fr_S F S
    have e10 : am_I g 4 10 = nI i := (fr_rdI F (by decide)).trans en
    refine ⟨g, F, e1, e2, Z, fun Q => ?_⟩
    rw [g157_27]
    simp (disch := first | with_reducible assumption | omega | exact Or.inl rfl | exact Or.inr rfl | exact bI_01 | exact c_cat | exact vt_ref | exact vt_null | rfl | with_reducible repeat (first | assumption | omega | apply S_I | apply S_L | apply S_D | apply ob_I | apply ob_L | apply ob_D | apply ob_R | apply ax_I | apply ax_L | apply ax_D | apply ax_R | apply o303 | apply o307 | apply o302 | apply o301 | apply ax304 | apply ax305 | apply ax306 | apply ax308 | apply ax309 | apply ax310 | apply lt_S | apply ar305 | apply ar308 | apply ar309)) only [g157_28, g157_29, g157_32, g157_60, Option.toList, List.nil_append, List.cons_append, va_rf, nI_ltI, nI_leI, nI_eq, nI_add, nI_sub, nI_lt0, nI_e0, nI_m1, m1_nI, Nat.reduceEqDiff, Nat.reduceLT, Nat.reduceLeDiff, Nat.reduceAdd, Nat.reduceSub, Nat.reduceMul, ↓reduceIte, eq_self, e10, Nat.le_refl]
  | succ q ih =>
    intro i g hq hi F e1 e2 Z
    have Sg := fr_S F S
    have e10 : am_I g 4 10 = nI nf := (fr_rdI F (by decide)).trans en
    obtain ⟨r1, r2, r3⟩ := H i (by omega)
    have r1 : am_R g 11 i = some (fe i) := (fr_rdR F).trans r1
    have O := fr_ob F r3
    have h4 : 4 ≤ fe i := by omega
    obtain ⟨g', F', a1, a2, a3, R'⟩ := ih (i + 1) (am_setI g (fe i) 11 (nI 0)) (by omega) (by omega) (fr_I F r2) (fun a k hk => by
      by_cases e : a = fe i
      · subst e
        rw [rI_k (fun z => hk ⟨z, i, by omega, rfl⟩)]; exact e1 _ k hk
      · rw [rI_a e]; exact e1 a k hk) e2 (fun j hj => by
      by_cases e : fe j = fe i
      · rw [e, rI_eq]
      · rw [rI_a e]
        exact Z j (by
          have : j ≠ i := fun z => e (by rw [z])
          omega))
    refine ⟨g', F', a1, a2, a3, fun Q => ?_⟩
    rw [← R' Q, g157_27]
    simp (disch := first | with_reducible assumption | omega | exact Or.inl rfl | exact Or.inr rfl | exact bI_01 | exact c_cat | exact vt_ref | exact vt_null | rfl | with_reducible repeat (first | assumption | omega | apply S_I | apply S_L | apply S_D | apply ob_I | apply ob_L | apply ob_D | apply ob_R | apply ax_I | apply ax_L | apply ax_D | apply ax_R | apply o303 | apply o307 | apply o302 | apply o301 | apply ax304 | apply ax305 | apply ax306 | apply ax308 | apply ax309 | apply ax310 | apply lt_S | apply ar305 | apply ar308 | apply ar309)) only [g157_28, g157_29, g157_32, g157_35, g157_36, g157_39, g157_40, g157_41, g157_41r, g157_41n, g157_44, g157_45, g157_48, g157_49, g157_50, g157_51, g157_54, g157_57, Option.toList, List.nil_append, List.cons_append, va_rf, nI_ltI, nI_leI, nI_eq, nI_add, nI_sub, nI_lt0, nI_e0, nI_m1, m1_nI, Nat.reduceEqDiff, Nat.reduceLT, Nat.reduceLeDiff, Nat.reduceAdd, Nat.reduceSub, Nat.reduceMul, ↓reduceIte, eq_self, e10, show ¬ nf ≤ i by omega, r1]
/-- what a cell shows -/
def shB (g : am_H) (c : Nat) : Int64 := if am_I g (22 + c) 0 = nI 1 ∨ am_I g (22 + c) 0 = nI 2 then am_L g (22 + c) 1 else lN 0
theorem x_shownC {c st : Nat} (S : am_S g) (hc : c < 256) (h : am_I g (22 + c) 0 = nI st) (hs : st < 100) : am_run d 8 [some (.ref (22 + c))] g (some (.long (shB g c))) g := by
  have := x_shown (d := d) (o22 S hc) hs h
  unfold shB
  rw [h]
  by_cases c1 : st = 1
  · subst c1; rw [if_pos (Or.inl rfl)]; rw [if_pos (Or.inl rfl)] at this; exact this
  · by_cases c2 : st = 2
    · subst c2; rw [if_pos (Or.inr rfl)]; rw [if_pos (Or.inr rfl)] at this; exact this
    · rw [if_neg (by omega)] at this
      rw [if_neg (fun z => z.elim (fun z => c1 ((nI_eq (by omega) (by omega)).mp z)) (fun z => c2 ((nI_eq (by omega) (by omega)).mp z)))]; exact this
theorem x_keepEd {ed : Nat} (S : am_S h) (e12 : am_I h 4 12 = nI ed) (hed : ed < 100000) (ST : ∀ c, c < 256 → ∃ st, st ≤ 6 ∧ am_I h (22 + c) 0 = nI st) : ∃ g, am_run (d + 1) 158 [some (.ref 4), none, none] h none g ∧ am_fr (fun a => a = 4 ∨ a = 319 ∨ a = 320) h g ∧ (∀ k, (k ≠ 12 → am_I g 4 k = am_I h 4 k) ∧ am_L g 4 k = am_L h 4 k ∧ am_D g 4 k = am_D h 4 k) ∧ am_I g 4 12 = nI (ed + 1) ∧ (∀ j, ¬ ((ed + 1) % 10 * 256 ≤ j ∧ j < (ed + 1) % 10 * 256 + 256) → am_I g 319 j = am_I h 319 j ∧ am_L g 320 j = am_L h 320 j) ∧ ∀ c, c < 256 → am_I g 319 ((ed + 1) % 10 * 256 + c) = am_I h (22 + c) 0 ∧ am_L g 320 ((ed + 1) % 10 * 256 + c) = shB h c := by
  have m10 : (ed + 1) % 10 < 10 := Nat.mod_lt _ (by decide)
  have L : ∀ q c g, 256 - c = q → c ≤ 256 → am_fr (fun a => a = 4 ∨ a = 319 ∨ a = 320) h g → (∀ k, (k ≠ 12 → am_I g 4 k = am_I h 4 k) ∧ am_L g 4 k = am_L h 4 k ∧ am_D g 4 k = am_D h 4 k) → am_I g 4 12 = nI (ed + 1) → (∀ j, ¬ ((ed + 1) % 10 * 256 ≤ j ∧ j < (ed + 1) % 10 * 256 + 256) → am_I g 319 j = am_I h 319 j ∧ am_L g 320 j = am_L h 320 j) → (∀ j, j < c → am_I g 319 ((ed + 1) % 10 * 256 + j) = am_I h (22 + j) 0 ∧ am_L g 320 ((ed + 1) % 10 * 256 + j) = shB h j) →
      ∃ g', (∀ Q, am_J (d + 1) 158 24 [some (.ref 4), some (.int (nI ((ed + 1) % 10 * 256))), some (.int (nI c))] [] g Q ↔ Q none g') ∧ am_fr (fun a => a = 4 ∨ a = 319 ∨ a = 320) h g' ∧ (∀ k, (k ≠ 12 → am_I g' 4 k = am_I h 4 k) ∧ am_L g' 4 k = am_L h 4 k ∧ am_D g' 4 k = am_D h 4 k) ∧ am_I g' 4 12 = nI (ed + 1) ∧ (∀ j, ¬ ((ed + 1) % 10 * 256 ≤ j ∧ j < (ed + 1) % 10 * 256 + 256) → am_I g' 319 j = am_I h 319 j ∧ am_L g' 320 j = am_L h 320 j) ∧ ∀ j, j < 256 → am_I g' 319 ((ed + 1) % 10 * 256 + j) = am_I h (22 + j) 0 ∧ am_L g' 320 ((ed + 1) % 10 * 256 + j) = shB h j := by
    intro q
    induction q with
    | zero =>
      intro c g hq hc F e1 e2 e3 H
      obtain rfl : c = 256 := by omega
      refine ⟨g, fun Q => ?_, F, e1, e2, e3, H⟩
      rw [g158_24]
      simp (disch := first | with_reducible assumption | omega | exact Or.inl rfl | exact Or.inr rfl | exact bI_01 | exact c_cat | exact vt_ref | exact vt_null | rfl | with_reducible repeat (first | assumption | omega | apply S_I | apply S_L | apply S_D | apply ob_I | apply ob_L | apply ob_D | apply ob_R | apply ax_I | apply ax_L | apply ax_D | apply ax_R | apply o303 | apply o307 | apply o302 | apply o301 | apply ax304 | apply ax305 | apply ax306 | apply ax308 | apply ax309 | apply ax310 | apply lt_S | apply ar305 | apply ar308 | apply ar309)) only [g158_25, g158_28, g158_72, Option.toList, List.nil_append, List.cons_append, va_rf, nI_ltI, nI_leI, nI_eq, nI_add, nI_sub, nI_lt0, nI_e0, nI_m1, m1_nI, Nat.reduceEqDiff, Nat.reduceLT, Nat.reduceLeDiff, Nat.reduceAdd, Nat.reduceSub, Nat.reduceMul, ↓reduceIte, eq_self, Nat.le_refl]
    | succ q ih =>
      intro c g hq hc F e1 e2 e3 H
      have hc' : c < 256 := by omega
      have Sg := fr_S F S
      have O := o22 Sg hc'
      obtain ⟨st, s1, s2⟩ := ST c hc'
      have s2 : am_I g (22 + c) 0 = nI st := (fr_rdI F (by omega)).trans s2
      have sb : shB g c = shB h c := by
        unfold shB
        rw [fr_rdI F (by omega), fr_rdL F (by omega)]
      have b8 : (nI st).toInt8.toInt32 = nI st := by
        have : ∀ st, st ≤ 6 → (nI st).toInt8.toInt32 = nI st := by decide +kernel
        exact this st s1
      have sw := x_shownC (d := d) (g := am_setI g 319 ((ed + 1) % 10 * 256 + c) (nI st)) (show am_S (am_setI g 319 ((ed + 1) % 10 * 256 + c) (nI st)) from Sg) hc' (show am_I (am_setI g 319 ((ed + 1) % 10 * 256 + c) (nI st)) (22 + c) 0 = nI st by rw [rI_a (by omega)]; exact s2) (by omega)
      have sb2 : shB (am_setI g 319 ((ed + 1) % 10 * 256 + c) (nI st)) c = shB h c := by
        rw [← sb]
        unfold shB
        rw [rI_a (by omega), hL_I]
      rw [sb2] at sw
      have i2 : (ed + 1) % 10 * 256 + c < 2560 := by omega
      obtain ⟨g', R', a⟩ := ih (c + 1) (am_setL (am_setI g 319 ((ed + 1) % 10 * 256 + c) (nI st)) 320 ((ed + 1) % 10 * 256 + c) (shB h c)) (by omega) (by omega) (fr_L (fr_I F (by omega)) (by omega)) (fun k => ⟨fun hk => (by rw [hI_L, rI_a (by decide)]; exact (e1 k).1 hk), (by rw [rL_a (by decide), hL_I]; exact (e1 k).2.1), (e1 k).2.2⟩) (by rw [hI_L, rI_a (by decide)]; exact e2) (fun j hj => by
        rw [hI_L, rI_k (by omega), rL_k (by omega), hL_I]; exact e3 j hj) (fun j hj => by
        rw [hI_L]
        by_cases e : j = c
        · subst e
          rw [rI_eq, rL_eq]
          exact ⟨(by rw [← s2]; exact fr_rdI F (by omega)), rfl⟩
        · rw [rI_k (by omega), rL_k (by omega), hL_I]; exact H j (by omega))
      refine ⟨g', fun Q => ?_, a⟩
      have Xc := c10_ax Sg hc'
      have Rc := am_S_cell Sg hc'
      rw [← R' Q, g158_24]
      simp (disch := first | with_reducible assumption | omega | exact Or.inl rfl | exact Or.inr rfl | exact bI_01 | exact c_cat | exact vt_ref | exact vt_null | rfl | with_reducible repeat (first | assumption | omega | apply S_I | apply S_L | apply S_D | apply ob_I | apply ob_L | apply ob_D | apply ob_R | apply ax_I | apply ax_L | apply ax_D | apply ax_R | apply o303 | apply o307 | apply o302 | apply o301 | apply ax304 | apply ax305 | apply ax306 | apply ax308 | apply ax309 | apply ax310 | apply lt_S | apply ar305 | apply ar308 | apply ar309)) only [g158_25, g158_28, g158_31, g158_32, g158_35, g158_36, g158_37, g158_38, g158_39, g158_42, g158_43, g158_44, g158_47, g158_48, g158_49, g158_50, g158_53, g158_54, g158_55, g158_56, g158_57, g158_60, g158_61, g158_62, g158_65, g158_66, g158_69, Option.toList, List.nil_append, List.cons_append, va_rf, nI_ltI, nI_leI, nI_eq, nI_add, nI_sub, nI_lt0, nI_e0, nI_m1, m1_nI, Nat.reduceEqDiff, Nat.reduceLT, Nat.reduceLeDiff, Nat.reduceAdd, Nat.reduceSub, Nat.reduceMul, ↓reduceIte, eq_self, show ¬ 256 ≤ c by omega, s2, b8, sw _]
  have r1 : nI (ed + 1) - nI (ed + 1) / nI 10 * nI 10 = nI ((ed + 1) % 10) := nI_rem (by omega) (by decide) (by decide)
  have n10 : ¬ nI 10 = 0 := by decide
  obtain ⟨g', R', a⟩ := L 256 0 (am_setI h 4 12 (nI (ed + 1))) rfl (Nat.zero_le _) (fr_I fr_refl (Or.inl rfl)) (fun k => ⟨fun hk => rI_k hk, rfl, rfl⟩) rI_eq (fun j _ => ⟨rI_a (by decide), rfl⟩) (fun j hj => absurd hj (Nat.not_lt_zero _))
  refine ⟨g', fun Q => ?_, a⟩
  rw [← R' Q]
  simp (disch := first | with_reducible assumption | omega | exact Or.inl rfl | exact Or.inr rfl | exact bI_01 | exact c_cat | exact vt_ref | exact vt_null | rfl | with_reducible repeat (first | assumption | omega | apply S_I | apply S_L | apply S_D | apply ob_I | apply ob_L | apply ob_D | apply ob_R | apply ax_I | apply ax_L | apply ax_D | apply ax_R | apply o303 | apply o307 | apply o302 | apply o301 | apply ax304 | apply ax305 | apply ax306 | apply ax308 | apply ax309 | apply ax310 | apply lt_S | apply ar305 | apply ar308 | apply ar309)) only [g158_0, g158_1, g158_2, g158_5, g158_6, g158_7, g158_10, g158_11, g158_14, g158_16, g158_17, g158_20, g158_21, g158_22, g158_23, Option.toList, List.nil_append, List.cons_append, va_rf, nI_ltI, nI_leI, nI_eq, nI_add, nI_lt0, nI_e0, nI_m1, m1_nI, Nat.reduceEqDiff, Nat.reduceLT, Nat.reduceLeDiff, Nat.reduceAdd, Nat.reduceSub, Nat.reduceMul, ↓reduceIte, eq_self, hI_I, hI_L, hI_D, hI_R, hL_I, hL_L, hL_D, hL_R, hD_I, hD_L, hD_D, hD_R, hR_I, hR_L, hR_D, ↓reduceIte, Nat.reduceEqDiff, e12, r1, nI_mul]
end XEN

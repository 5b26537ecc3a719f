/-! THE CLASS: Code.kept runs -/
section KP2
variable {d : Nat} {h g : am_H} {Q : Option Value → am_H → Prop} {a n1 n2 n3 : Nat}
theorem cc_tg {b : Nat} : am_tg (c_code g a n1 n2 n3) b = if b = g.1 + 5 then (100, n3) else if b = g.1 + 4 then (103, n2) else if b = g.1 + 3 then (10, 0) else if b = g.1 + 2 then (101, n1) else if b = g.1 + 1 then (103, n1) else if b = g.1 then (101, 4) else am_tg g b := rfl
theorem cc_R (ha : a < g.1) : am_R (c_code g a n1 n2 n3) a 4 = some g.1 ∧ am_R (c_code g a n1 n2 n3) a 0 = some (g.1 + 1) ∧ am_R (c_code g a n1 n2 n3) a 1 = some (g.1 + 2) ∧ am_R (c_code g a n1 n2 n3) a 2 = some (g.1 + 3) ∧ am_R (c_code g a n1 n2 n3) (g.1 + 3) 0 = some (g.1 + 4) ∧ am_R (c_code g a n1 n2 n3) a 3 = some (g.1 + 5) := by
  refine ⟨?_, ?_, ?_, ?_, ?_, ?_⟩ <;> simp (disch := omega) only [c_code, c_text, hR_R, c_new_R, c_new_1, c_setR_1, if_neg (show ¬ a = g.1 by omega), if_neg (show ¬ a = g.1 + 1 by omega), if_neg (show ¬ a = g.1 + 1 + 1 by omega), if_neg (show ¬ a = g.1 + 1 + 1 + 1 by omega), if_neg (show ¬ a = g.1 + 1 + 1 + 1 + 1 by omega), if_neg (show ¬ a = g.1 + 1 + 1 + 1 + 1 + 1 by omega), if_neg (show ¬ g.1 + 3 = g.1 + 1 + 1 + 1 + 1 by omega), if_neg (show ¬ g.1 + 3 = g.1 + 1 + 1 + 1 + 1 + 1 by omega), if_neg (show ¬ g.1 + 3 = a by omega), if_pos (show g.1 + 3 = g.1 + 1 + 1 + 1 by omega), if_neg (show ¬ g.1 = g.1 + 2 by omega), ↓reduceIte, Nat.reduceEqDiff]
theorem cc_ex (F : am_ex h g) (ha : h.1 ≤ a) : am_ex h (c_code g a n1 n2 n3) := by
  have hb := F.1
  unfold c_code c_text
  refine ex_R (ex_new (ex_R (ex_R (ex_new (ex_new (ex_R (ex_new (ex_R (ex_new (ex_R (ex_new F) ha)) ha)) ha))) ?_) ha)) ha
  show h.1 ≤ g.1 + 1 + 1 + 1
  omega
theorem x_kept {D : List (Int32 × Int64)} {P : List Int32} {N : List Nat} {F k : Int32} (S : am_S h) (X : PXd h D P N F k) : ∃ h', am_run (d + 3) 18 [some (.ref 303), none] h (some (.ref h.1)) h' ∧ am_ex h h' ∧ h'.1 = h.1 + 7 ∧ h'.2.1 = h.2.1 + (18 + 2 * D.length + P.length + N.length) ∧ CO h' h.1 D P N F k := by
  obtain ⟨⟨c1, c2, c3⟩, ⟨p1, p2, p3⟩, ⟨n1', n2', n3', n4', n5'⟩, e8, e7⟩ := X
  have hN : N.length ≤ 256 := nodup_le 256 N n3' n4'
  have h402 : 402 ≤ h.1 := S.1
  obtain ⟨R0, R1, R2, R3, R4, R5⟩ := S303r S
  have T4 : am_tg h 304 = (101, 4) := by rw [am_S_tg S (by decide) (by decide)]; decide +kernel
  have T5 := tg305 S
  have T6 : am_tg h 306 = (101, 160) := by rw [am_S_tg S (by decide) (by decide)]; decide +kernel
  have T8 := tg308 S
  have T9 := tg309 S
  have K : ∀ g, am_ex h g → am_ob g 303 1 ∧ am_ob g 307 10 ∧ am_R g 303 0 = some 305 ∧ am_R g 303 1 = some 306 ∧ am_R g 303 2 = some 307 ∧ am_R g 303 3 = some 309 ∧ am_R g 303 4 = some 304 ∧ am_R g 307 0 = some 308 ∧ am_I g 303 5 = nI D.length ∧ am_I g 303 6 = nI N.length ∧ am_I g 303 7 = k ∧ am_I g 303 8 = F ∧ am_I g 307 1 = nI P.length ∧ am_tg g 304 = (101, 4) ∧ am_tg g 305 = (103, 160) ∧ am_tg g 306 = (101, 160) ∧ am_tg g 308 = (103, 400) ∧ am_tg g 309 = (100, 256) := by
    intro g E
    have O3 := o303 S
    have O7 := o307 S
    have e := fun a (ha : a < 402) => E.2 a (Nat.lt_of_lt_of_le ha h402)
    exact ⟨⟨Nat.lt_of_lt_of_le O3.1 E.1, by rw [(e 303 (by decide)).1]; exact O3.2⟩, ⟨Nat.lt_of_lt_of_le O7.1 E.1, by rw [(e 307 (by decide)).1]; exact O7.2⟩, by rw [((e 303 (by decide)).2 0).2.2.2]; exact R0, by rw [((e 303 (by decide)).2 1).2.2.2]; exact R1, by rw [((e 303 (by decide)).2 2).2.2.2]; exact R2, by rw [((e 303 (by decide)).2 3).2.2.2]; exact R3, by rw [((e 303 (by decide)).2 4).2.2.2]; exact R4, by rw [((e 307 (by decide)).2 0).2.2.2]; exact R5, by rw [((e 303 (by decide)).2 5).1]; exact c1, by rw [((e 303 (by decide)).2 6).1]; exact n1', by rw [((e 303 (by decide)).2 7).1]; exact e7, by rw [((e 303 (by decide)).2 8).1]; exact e8, by rw [((e 307 (by decide)).2 1).1]; exact p1, by rw [(e 304 (by decide)).1]; exact T4, by rw [(e 305 (by decide)).1]; exact T5, by rw [(e 306 (by decide)).1]; exact T6, by rw [(e 308 (by decide)).1]; exact T8, by rw [(e 309 (by decide)).1]; exact T9⟩
  -- the new object
  have E0 : am_ex h (am_new h (1, 0) 12) := ex_new ex_refl
  have O0 : am_ob (am_new h (1, 0) 12) h.1 1 := c_ob_it rfl
  have xc := fun Q => x_code (d := d) (Q := Q) (n1 := D.length) (n2 := P.length) (n3 := N.length) (by omega) (by omega) (by omega) O0 (by omega)
  have E1 : am_ex h (c_code (am_new h (1, 0) 12) h.1 D.length P.length N.length) := cc_ex E0 (Nat.le_refl _)
  have g1tg := fun b => cc_tg (g := am_new h (1, 0) 12) (a := h.1) (n1 := D.length) (n2 := P.length) (n3 := N.length) (b := b)
  have g1R := cc_R (g := am_new h (1, 0) 12) (a := h.1) (n1 := D.length) (n2 := P.length) (n3 := N.length) (Nat.lt_succ_self _)
  have g11 : (c_code (am_new h (1, 0) 12) h.1 D.length P.length N.length).1 = h.1 + 7 := rfl
  have g12 : (c_code (am_new h (1, 0) 12) h.1 D.length P.length N.length).2.1 = h.2.1 + 12 + 4 + D.length + D.length + 2 + P.length + N.length := rfl
  obtain ⟨k1, k2, k3, k4, k5, k6, k7, k8, k9, k10, k11, k12, k13, -⟩ := K _ E0
  have st1 : ∀ Q, am_J (d + 3) 18 0 [some (.ref 303), none] [] h Q ↔ am_J (d + 3) 18 23 [some (.ref 303), some (.ref h.1)] [] (c_code (am_new h (1, 0) 12) h.1 D.length P.length N.length) Q := fun Q => by
    simp (disch := first | with_reducible assumption | omega | exact Or.inl rfl | exact Or.inr rfl | exact bI_01 | exact c_cat | exact vt_ref | exact vt_null | rfl | with_reducible repeat (first | assumption | omega | apply S_I | apply S_L | apply S_D | apply ob_I | apply ob_L | apply ob_D | apply ob_R | apply ax_I | apply ax_L | apply ax_D | apply ax_R | apply o303 | apply o307 | apply o302 | apply o301 | apply ax304 | apply ax305 | apply ax306 | apply ax308 | apply ax309 | apply ax310 | apply lt_S | apply ar305 | apply ar308 | apply ar309)) only [g18_0, g18_3, g18_4, g18_5, g18_8, g18_9, g18_12, g18_15, g18_16, g18_19, g18_22, Option.toList, List.nil_append, List.cons_append, va_rf, k5, k9, k10, k13, xc _]
  generalize c_code (am_new h (1, 0) 12) h.1 D.length P.length N.length = g1 at E1 g1tg g1R g11 g12 st1
  rw [show (am_new h (1, 0) 12).1 = h.1 + 1 from rfl] at g1R g1tg
  obtain ⟨r4, r0, r1, r2, r5, r3⟩ := g1R
  have t0 : am_tg g1 h.1 = (1, 0) := by
    rw [g1tg, if_neg (by omega), if_neg (by omega), if_neg (by omega), if_neg (by omega), if_neg (by omega), if_neg (by omega)]
    exact if_pos rfl
  have t1 : am_tg g1 (h.1 + 1) = (101, 4) := by rw [g1tg, if_neg (by omega), if_neg (by omega), if_neg (by omega), if_neg (by omega), if_neg (by omega), if_pos rfl]
  have t2 : am_tg g1 (h.1 + 2) = (103, D.length) := by rw [g1tg, if_neg (by omega), if_neg (by omega), if_neg (by omega), if_neg (by omega), if_pos (by omega)]
  have t3 : am_tg g1 (h.1 + 3) = (101, D.length) := by rw [g1tg, if_neg (by omega), if_neg (by omega), if_neg (by omega), if_pos (by omega)]
  have t4 : am_tg g1 (h.1 + 4) = (10, 0) := by rw [g1tg, if_neg (by omega), if_neg (by omega), if_pos (by omega)]
  have t5 : am_tg g1 (h.1 + 5) = (103, P.length) := by rw [g1tg, if_neg (by omega), if_pos (by omega)]
  have t6 : am_tg g1 (h.1 + 6) = (100, N.length) := by rw [g1tg, if_pos (by omega)]
  rw [show h.1 + 1 + 1 = h.1 + 2 from rfl] at r0
  rw [show h.1 + 1 + 2 = h.1 + 3 from rfl] at r1
  rw [show h.1 + 1 + 3 = h.1 + 4 from rfl] at r2 r5
  rw [show h.1 + 1 + 4 = h.1 + 5 from rfl] at r5
  rw [show h.1 + 1 + 5 = h.1 + 6 from rfl] at r3
  clear g1tg xc E0 O0 k1 k2 k3 k4 k5 k6 k7 k8 k9 k10 k11 k12 k13
  have O1 : am_ob g1 h.1 1 := ⟨by omega, by rw [t0]⟩
  obtain ⟨k1, k2, k3, k4, k5, k6, k7, k8, k9, k10, k11, k12, k13, s4, s5, s6, s8, s9⟩ := K _ E1
  have hne : ∀ a, a < 402 → ∀ j, a ≠ h.1 + j := fun a ha j => by omega
  -- the four copies
  have E2 : am_ex h (am_cpI g1 305 0 (h.1 + 2) 0 D.length) := ex_cpI E1 (by omega)
  have E3 : am_ex h (am_cpL (am_cpI g1 305 0 (h.1 + 2) 0 D.length) 306 0 (h.1 + 3) 0 D.length) := ex_cpL E2 (by omega)
  have E4 : am_ex h (am_cpI (am_cpL (am_cpI g1 305 0 (h.1 + 2) 0 D.length) 306 0 (h.1 + 3) 0 D.length) 309 0 (h.1 + 6) 0 N.length) := ex_cpI E3 (by omega)
  have E5 : am_ex h (am_cpL (am_cpI (am_cpL (am_cpI g1 305 0 (h.1 + 2) 0 D.length) 306 0 (h.1 + 3) 0 D.length) 309 0 (h.1 + 6) 0 N.length) 304 0 (h.1 + 1) 0 4) := ex_cpL E4 (by omega)
  have st2 : ∀ Q, am_J (d + 3) 18 23 [some (.ref 303), some (.ref h.1)] [] g1 Q ↔ am_J (d + 3) 18 40 [some (.ref 303), some (.ref h.1)] [] (am_cpI g1 305 0 (h.1 + 2) 0 D.length) Q := fun Q => by
    simp (disch := first | with_reducible assumption | omega | exact Or.inl rfl | exact Or.inr rfl | exact bI_01 | exact c_cat | exact vt_ref | exact vt_null | rfl | with_reducible repeat (first | assumption | omega | apply S_I | apply S_L | apply S_D | apply ob_I | apply ob_L | apply ob_D | apply ob_R | apply ax_I | apply ax_L | apply ax_D | apply ax_R | apply o303 | apply o307 | apply o302 | apply o301 | apply ax304 | apply ax305 | apply ax306 | apply ax308 | apply ax309 | apply ax310 | apply lt_S | apply ar305 | apply ar308 | apply ar309)) only [g18_23, g18_24, g18_27, g18_28, g18_29, g18_32, g18_33, g18_34, Option.toList, List.nil_append, List.cons_append, va_rf, k3, r0, k9]
    exact j_cpI (pc := 37) (idx := 65) (m := 0) (n := 0) (by decide +kernel) (by decide +kernel) (Nat.le_of_ble_eq_true rfl) (by omega) (by decide) (by omega) (by omega) (by omega) t2 s5 (Or.inr rfl) c2 (Nat.le_refl _) (by omega)
  have O2 : am_ob (am_cpI g1 305 0 (h.1 + 2) 0 D.length) h.1 1 := O1
  have st3 : ∀ Q, am_J (d + 3) 18 40 [some (.ref 303), some (.ref h.1)] [] (am_cpI g1 305 0 (h.1 + 2) 0 D.length) Q ↔ am_J (d + 3) 18 57 [some (.ref 303), some (.ref h.1)] [] (am_cpL (am_cpI g1 305 0 (h.1 + 2) 0 D.length) 306 0 (h.1 + 3) 0 D.length) Q := fun Q => by
    obtain ⟨k1, k2, k3, k4, k5, k6, k7, k8, k9, k10, k11, k12, k13, s4, s5, s6, s8, s9⟩ := K _ E2
    have r1' : am_R (am_cpI g1 305 0 (h.1 + 2) 0 D.length) h.1 1 = some (h.1 + 3) := r1
    simp (disch := first | with_reducible assumption | omega | exact Or.inl rfl | exact Or.inr rfl | exact bI_01 | exact c_cat | exact vt_ref | exact vt_null | rfl | with_reducible repeat (first | assumption | omega | apply S_I | apply S_L | apply S_D | apply ob_I | apply ob_L | apply ob_D | apply ob_R | apply ax_I | apply ax_L | apply ax_D | apply ax_R | apply o303 | apply o307 | apply o302 | apply o301 | apply ax304 | apply ax305 | apply ax306 | apply ax308 | apply ax309 | apply ax310 | apply lt_S | apply ar305 | apply ar308 | apply ar309)) only [g18_40, g18_41, g18_44, g18_45, g18_46, g18_49, g18_50, g18_51, Option.toList, List.nil_append, List.cons_append, va_rf, k4, r1', k9]
    exact j_cpL (pc := 54) (idx := 65) (m := 0) (n := 0) (by decide +kernel) (by decide +kernel) (Nat.le_of_ble_eq_true rfl) (by omega) (by decide) (show h.1 + 3 < g1.1 by omega) (show 306 < g1.1 by omega) (by omega) t3 s6 c2 (Nat.le_refl _) (by omega)
  have O3 : am_ob (am_cpL (am_cpI g1 305 0 (h.1 + 2) 0 D.length) 306 0 (h.1 + 3) 0 D.length) h.1 1 := O1
  have st4 : ∀ Q, am_J (d + 3) 18 57 [some (.ref 303), some (.ref h.1)] [] (am_cpL (am_cpI g1 305 0 (h.1 + 2) 0 D.length) 306 0 (h.1 + 3) 0 D.length) Q ↔ am_J (d + 3) 18 74 [some (.ref 303), some (.ref h.1)] [] (am_cpI (am_cpL (am_cpI g1 305 0 (h.1 + 2) 0 D.length) 306 0 (h.1 + 3) 0 D.length) 309 0 (h.1 + 6) 0 N.length) Q := fun Q => by
    obtain ⟨k1, k2, k3, k4, k5, k6, k7, k8, k9, k10, k11, k12, k13, s4, s5, s6, s8, s9⟩ := K _ E3
    have r3' : am_R (am_cpL (am_cpI g1 305 0 (h.1 + 2) 0 D.length) 306 0 (h.1 + 3) 0 D.length) h.1 3 = some (h.1 + 6) := r3
    simp (disch := first | with_reducible assumption | omega | exact Or.inl rfl | exact Or.inr rfl | exact bI_01 | exact c_cat | exact vt_ref | exact vt_null | rfl | with_reducible repeat (first | assumption | omega | apply S_I | apply S_L | apply S_D | apply ob_I | apply ob_L | apply ob_D | apply ob_R | apply ax_I | apply ax_L | apply ax_D | apply ax_R | apply o303 | apply o307 | apply o302 | apply o301 | apply ax304 | apply ax305 | apply ax306 | apply ax308 | apply ax309 | apply ax310 | apply lt_S | apply ar305 | apply ar308 | apply ar309)) only [g18_57, g18_58, g18_61, g18_62, g18_63, g18_66, g18_67, g18_68, Option.toList, List.nil_append, List.cons_append, va_rf, k6, r3', k10]
    exact j_cpI (pc := 71) (idx := 65) (m := 0) (n := 0) (by decide +kernel) (by decide +kernel) (Nat.le_of_ble_eq_true rfl) (by omega) (by decide) (show h.1 + 6 < g1.1 by omega) (show 309 < g1.1 by omega) (by omega) t6 s9 (Or.inl rfl) hN (Nat.le_refl _) (by omega)
  have O4 : am_ob (am_cpI (am_cpL (am_cpI g1 305 0 (h.1 + 2) 0 D.length) 306 0 (h.1 + 3) 0 D.length) 309 0 (h.1 + 6) 0 N.length) h.1 1 := O1
  have st5 : ∀ Q, am_J (d + 3) 18 74 [some (.ref 303), some (.ref h.1)] [] (am_cpI (am_cpL (am_cpI g1 305 0 (h.1 + 2) 0 D.length) 306 0 (h.1 + 3) 0 D.length) 309 0 (h.1 + 6) 0 N.length) Q ↔ am_J (d + 3) 18 88 [some (.ref 303), some (.ref h.1)] [] (am_cpL (am_cpI (am_cpL (am_cpI g1 305 0 (h.1 + 2) 0 D.length) 306 0 (h.1 + 3) 0 D.length) 309 0 (h.1 + 6) 0 N.length) 304 0 (h.1 + 1) 0 4) Q := fun Q => by
    obtain ⟨k1, k2, k3, k4, k5, k6, k7, k8, k9, k10, k11, k12, k13, s4, s5, s6, s8, s9⟩ := K _ E4
    have r4' : am_R (am_cpI (am_cpL (am_cpI g1 305 0 (h.1 + 2) 0 D.length) 306 0 (h.1 + 3) 0 D.length) 309 0 (h.1 + 6) 0 N.length) h.1 4 = some (h.1 + 1) := r4
    simp (disch := first | with_reducible assumption | omega | exact Or.inl rfl | exact Or.inr rfl | exact bI_01 | exact c_cat | exact vt_ref | exact vt_null | rfl | with_reducible repeat (first | assumption | omega | apply S_I | apply S_L | apply S_D | apply ob_I | apply ob_L | apply ob_D | apply ob_R | apply ax_I | apply ax_L | apply ax_D | apply ax_R | apply o303 | apply o307 | apply o302 | apply o301 | apply ax304 | apply ax305 | apply ax306 | apply ax308 | apply ax309 | apply ax310 | apply lt_S | apply ar305 | apply ar308 | apply ar309)) only [g18_74, g18_75, g18_78, g18_79, g18_80, g18_83, g18_84, Option.toList, List.nil_append, List.cons_append, va_rf, k7, r4']
    exact j_cpL (pc := 85) (idx := 65) (m := 0) (n := 0) (by decide +kernel) (by decide +kernel) (Nat.le_of_ble_eq_true rfl) (by omega) (by decide) (show h.1 + 1 < g1.1 by omega) (show 304 < g1.1 by omega) (by omega) t1 s4 (Nat.le_refl _) (Nat.le_refl _) (by omega)
  have v2 : ∀ i x, D[i]? = some x → am_I (am_cpL (am_cpI (am_cpL (am_cpI g1 305 0 (h.1 + 2) 0 D.length) 306 0 (h.1 + 3) 0 D.length) 309 0 (h.1 + 6) 0 N.length) 304 0 (h.1 + 1) 0 4) (h.1 + 2) i = x.1 ∧ am_L (am_cpL (am_cpI (am_cpL (am_cpI g1 305 0 (h.1 + 2) 0 D.length) 306 0 (h.1 + 3) 0 D.length) 309 0 (h.1 + 6) 0 N.length) 304 0 (h.1 + 1) 0 4) (h.1 + 3) i = x.2 := by
    intro i x hx
    have hi : i < D.length := (List.getElem?_eq_some_iff.mp hx).1
    obtain ⟨z1, z2, z3⟩ := c3 i x hx
    constructor
    · show (if h.1 + 2 = h.1 + 6 then _ else if h.1 + 2 = h.1 + 2 then (if 0 ≤ i ∧ i < 0 + D.length then am_I g1 305 (0 + (i - 0)) else _) else _) = x.1
      rw [if_neg (by omega), if_pos rfl, if_pos (by omega), Nat.zero_add, Nat.sub_zero, ((E1.2 305 (by omega)).2 i).1]
      exact z1
    · show (if h.1 + 3 = h.1 + 1 then _ else if h.1 + 3 = h.1 + 3 then (if 0 ≤ i ∧ i < 0 + D.length then am_L g1 306 (0 + (i - 0)) else _) else _) = x.2
      rw [if_neg (by omega), if_pos rfl, if_pos (by omega), Nat.zero_add, Nat.sub_zero, ((E1.2 306 (by omega)).2 i).2.1]
      exact z2
  have v3 : ∀ i c, N[i]? = some c → am_I (am_cpL (am_cpI (am_cpL (am_cpI g1 305 0 (h.1 + 2) 0 D.length) 306 0 (h.1 + 3) 0 D.length) 309 0 (h.1 + 6) 0 N.length) 304 0 (h.1 + 1) 0 4) (h.1 + 6) i = nI c := by
    intro i c hx
    have hi : i < N.length := (List.getElem?_eq_some_iff.mp hx).1
    show (if h.1 + 6 = h.1 + 6 then (if 0 ≤ i ∧ i < 0 + N.length then am_I (am_cpL (am_cpI g1 305 0 (h.1 + 2) 0 D.length) 306 0 (h.1 + 3) 0 D.length) 309 (0 + (i - 0)) else _) else _) = nI c
    rw [if_pos rfl, if_pos (by omega), Nat.zero_add, Nat.sub_zero, ((E3.2 309 (by omega)).2 i).1]
    exact n2' i c hx
  have v4 : ∀ c, c < 256 → am_L (am_cpL (am_cpI (am_cpL (am_cpI g1 305 0 (h.1 + 2) 0 D.length) 306 0 (h.1 + 3) 0 D.length) 309 0 (h.1 + 6) 0 N.length) 304 0 (h.1 + 1) 0 4) (h.1 + 1) (c / 64) = am_L h 304 (c / 64) := by
    intro c hc
    show (if h.1 + 1 = h.1 + 1 then (if 0 ≤ c / 64 ∧ c / 64 < 0 + 4 then am_L (am_cpI (am_cpL (am_cpI g1 305 0 (h.1 + 2) 0 D.length) 306 0 (h.1 + 3) 0 D.length) 309 0 (h.1 + 6) 0 N.length) 304 (0 + (c / 64 - 0)) else _) else _) = _
    rw [if_pos rfl, if_pos (by omega), Nat.zero_add, Nat.sub_zero, ((E4.2 304 (by omega)).2 (c / 64)).2.1]
  have u1 : (am_cpL (am_cpI (am_cpL (am_cpI g1 305 0 (h.1 + 2) 0 D.length) 306 0 (h.1 + 3) 0 D.length) 309 0 (h.1 + 6) 0 N.length) 304 0 (h.1 + 1) 0 4).1 = h.1 + 7 := g11
  have u2 : (am_cpL (am_cpI (am_cpL (am_cpI g1 305 0 (h.1 + 2) 0 D.length) 306 0 (h.1 + 3) 0 D.length) 309 0 (h.1 + 6) 0 N.length) 304 0 (h.1 + 1) 0 4).2.1 = h.2.1 + 12 + 4 + D.length + D.length + 2 + P.length + N.length := g12
  have w0 : am_tg (am_cpL (am_cpI (am_cpL (am_cpI g1 305 0 (h.1 + 2) 0 D.length) 306 0 (h.1 + 3) 0 D.length) 309 0 (h.1 + 6) 0 N.length) 304 0 (h.1 + 1) 0 4) = am_tg g1 := rfl
  have w1 : am_R (am_cpL (am_cpI (am_cpL (am_cpI g1 305 0 (h.1 + 2) 0 D.length) 306 0 (h.1 + 3) 0 D.length) 309 0 (h.1 + 6) 0 N.length) 304 0 (h.1 + 1) 0 4) = am_R g1 := rfl
  have st6 := fun Q => (st1 Q).trans ((st2 Q).trans ((st3 Q).trans ((st4 Q).trans (st5 Q))))
  clear st1 st2 st3 st4 st5 E2 E3 E4
  generalize am_cpL (am_cpI (am_cpL (am_cpI g1 305 0 (h.1 + 2) 0 D.length) 306 0 (h.1 + 3) 0 D.length) 309 0 (h.1 + 6) 0 N.length) 304 0 (h.1 + 1) 0 4 = g5 at E5 v2 v3 v4 u1 u2 w0 w1 st6
  rw [← w0] at t0 t1 t2 t3 t4 t5 t6
  rw [← w1] at r0 r1 r2 r3 r4 r5
  clear k1 k2 k3 k4 k5 k6 k7 k8 k9 k10 k11 k12 k13 s4 s5 s6 s8 s9
  obtain ⟨k1, k2, k3, k4, k5, k6, k7, k8, k9, k10, k11, k12, k13, s4, s5, s6, s8, s9⟩ := K _ E5
  have O5 : am_ob g5 h.1 1 := ⟨by omega, by rw [t0]⟩
  have O54 : am_ob g5 (h.1 + 4) 10 := ⟨by omega, by rw [t4]⟩
  obtain ⟨g6, r6, F6, x1, x2, x3, x4, x5⟩ := x_become (d := d + 1) (m := P.length) O54 (by omega) r5 (by omega) t5 (by omega) k2 k8 s8 (by omega) (Nat.le_refl _) p2 (by omega) (by decide) (by omega) (by omega) (by omega) (by omega) (by omega) k13 (fun i hi => by
    have := p3 i P[i] (List.getElem?_eq_getElem hi)
    rw [((E5.2 308 (by omega)).2 i).1, this.1]; exact this.2)
  have E6 : am_ex h g6 := ex_fr E5 F6 (by omega)
  obtain ⟨y1, y2, y3, y4, y5, y6, y7, y8, y9, y10, y11, y12, y13, -⟩ := K _ E6
  have O6 : am_ob g6 h.1 1 := fr_ob F6 O5
  have hE : am_ex h (am_setI (am_setI (am_setI (am_setI g6 h.1 5 (nI D.length)) h.1 6 (nI N.length)) h.1 7 k) h.1 8 F) := ex_I (ex_I (ex_I (ex_I E6 (Nat.le_refl _)) (Nat.le_refl _)) (Nat.le_refl _)) (Nat.le_refl _)
  have hn3 : ¬ 303 = h.1 := by omega
  refine ⟨_, fun Q => ?_, hE, ?_, ?_, ?_⟩
  · rw [st6]
    simp (disch := first | with_reducible assumption | omega | exact Or.inl rfl | exact Or.inr rfl | exact bI_01 | exact c_cat | exact vt_ref | exact vt_null | rfl | with_reducible repeat (first | assumption | omega | apply S_I | apply S_L | apply S_D | apply ob_I | apply ob_L | apply ob_D | apply ob_R | apply ax_I | apply ax_L | apply ax_D | apply ax_R | apply o303 | apply o307 | apply o302 | apply o301 | apply ax304 | apply ax305 | apply ax306 | apply ax308 | apply ax309 | apply ax310 | apply lt_S | apply ar305 | apply ar308 | apply ar309)) only [g18_88, g18_89, g18_92, g18_93, g18_96, g18_99, g18_100, g18_101, g18_104, g18_107, g18_108, g18_109, g18_112, g18_115, g18_116, g18_117, g18_120, g18_123, g18_124, g18_125, g18_128, g18_131, g18_132, g18_132r, Option.toList, List.nil_append, List.cons_append, va_rf, r2, k5, r6 _, y9, y10, y11, y12, hI_I, hn3, ↓reduceIte, Nat.reduceEqDiff]
  · show g6.1 = h.1 + 7
    rw [F6.1]; exact u1
  · show g6.2.1 = _
    rw [F6.2.1, u2]; omega
  · have tg : ∀ b, am_tg g6 b = am_tg g5 b := fun b => fr_tg F6
    have rr : ∀ b j, am_R g6 b j = am_R g5 b j := fun b j => fr_rdR F6
    refine ⟨h402, by show h.1 + 7 ≤ g6.1; rw [F6.1, u1]; exact Nat.le_refl _, (tg _).trans t0, (tg _).trans t1, (tg _).trans t2, (tg _).trans t3, (tg _).trans t4, (tg _).trans t5, (tg _).trans t6, (rr _ _).trans r4, (rr _ _).trans r0, (rr _ _).trans r1, (rr _ _).trans r2, (rr _ _).trans r5, (rr _ _).trans r3, ?_, ?_, ?_, ?_, ?_, fun i x hx => ?_, fun i x hx => ?_, fun i c hc => ?_, fun c hc => ?_, c2, p2, hN⟩
    · rw [rI_k (by decide), rI_k (by decide), rI_k (by decide), rI_eq]
    · rw [rI_a (by omega), rI_a (by omega), rI_a (by omega), rI_a (by omega)]; exact x1
    · rw [rI_k (by decide), rI_k (by decide), rI_eq]
    · rw [rI_k (by decide), rI_eq]
    · rw [rI_eq]
    · rw [rI_a (by omega), rI_a (by omega), rI_a (by omega), rI_a (by omega), fr_rdI F6 (by omega)]
      refine ⟨(v2 i x hx).1, ?_⟩
      show am_L g6 (h.1 + 3) i = x.2
      rw [x4]; exact (v2 i x hx).2
    · have hi : i < P.length := (List.getElem?_eq_some_iff.mp hx).1
      rw [rI_a (by omega), rI_a (by omega), rI_a (by omega), rI_a (by omega), x3 i, if_pos hi, ((E5.2 308 (by omega)).2 i).1]
      exact (p3 i x hx).1
    · rw [rI_a (by omega), rI_a (by omega), rI_a (by omega), rI_a (by omega), fr_rdI F6 (by omega)]
      exact v3 i c hc
    · show (am_L g6 (h.1 + 1) (c / 64)).toBitVec.getLsbD (c % 64) = _
      rw [x4, v4 c hc]
      exact n5' c hc
end KP2

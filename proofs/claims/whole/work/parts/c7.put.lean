/-! THE MODEL: printing, the small pieces -/
/-- from p on OUT has l -/
def OW (h g : am_H) (p : Nat) (l : List Nat) : Prop := am_fr (fun a => a = 349 ∨ a = 351) h g ∧ (∀ k, k ≠ 3 → am_I g 349 k = am_I h 349 k) ∧ am_I g 349 3 = nI (p + l.length) ∧ (∀ j, j < p → am_I g 351 j = am_I h 351 j) ∧ ∀ i x, l[i]? = some x → am_I g 351 (p + i) = nI x
section OUW
variable {d p c : Nat} {h g g' : am_H} {l l' : List Nat}
theorem OW_nil (e : am_I h 349 3 = nI p) : OW h h p [] := ⟨fr_refl, fun _ _ => rfl, e, fun _ _ => rfl, fun i x hx => by simp at hx⟩
theorem OW_trans (A : OW h g p l) (B : OW g g' (p + l.length) l') : OW h g' p (l ++ l') := by
  obtain ⟨a1, a2, a3, a4, a5⟩ := A
  obtain ⟨b1, b2, b3, b4, b5⟩ := B
  refine ⟨fr_trans a1 b1, fun k hk => (b2 k hk).trans (a2 k hk), by rw [b3, List.length_append, Nat.add_assoc], fun j hj => (b4 j (by omega)).trans (a4 j hj), fun i x hx => ?_⟩
  by_cases c : i < l.length
  · rw [List.getElem?_append_left c] at hx
    rw [b4 (p + i) (by omega)]
    exact a5 i x hx
  · rw [List.getElem?_append_right (by omega)] at hx
    have := b5 (i - l.length) x hx
    rwa [show p + l.length + (i - l.length) = p + i by omega] at this
theorem m_put1 (S : am_S h) (e : am_I h 349 3 = nI p) (hp : p < 2000) : ∃ g, am_run d 178 [some (.ref 349), some (.int (nI c))] h none g ∧ OW h g p [c] := by
  refine ⟨am_setI (am_setI h 351 p (nI c)) 349 3 (nI (p + 1)), fun Q => ?_, fr_I (fr_I fr_refl (Or.inr rfl)) (Or.inl rfl), fun k hk => by rw [rI_k hk, rI_a (by decide)], by rw [rI_eq]; rfl, fun j hj => by rw [rI_a (by decide), rI_k (by omega)], fun i x hx => ?_⟩
  · simp (disch := first | with_reducible assumption | omega | exact Or.inl rfl | exact Or.inr rfl | exact bI_01 | exact c_cat | exact vt_ref | exact vt_null | rfl | with_reducible repeat (first | assumption | omega | apply S_I | apply S_L | apply S_D | apply ob_I | apply ob_L | apply ob_D | apply ob_R | apply ax_I | apply ax_L | apply ax_D | apply ax_R | apply o303 | apply o307 | apply o302 | apply o301 | apply ax304 | apply ax305 | apply ax306 | apply ax308 | apply ax309 | apply ax310 | apply lt_S | apply ar305 | apply ar308 | apply ar309)) only [g178_0, g178_1, g178_4, g178_5, g178_8, g178_9, g178_10, g178_11, g178_12, g178_15, g178_16, g178_17, g178_20, Option.toList, List.nil_append, List.cons_append, va_rf, nI_ltI, nI_leI, nI_eq, nI_add, nI_sub, nI_lt0, nI_e0, nI_m1, m1_nI, Nat.reduceEqDiff, Nat.reduceLT, Nat.reduceLeDiff, Nat.reduceAdd, Nat.reduceSub, Nat.reduceMul, ↓reduceIte, eq_self, hI_I, hI_L, hI_D, hI_R, hL_I, hL_L, hL_D, hL_R, hD_I, hD_L, hD_D, hD_R, hR_I, hR_L, hR_D, ↓reduceIte, Nat.reduceEqDiff, e]
  · have hi : i = 0 := by
      have := (List.getElem?_eq_some_iff.mp hx).1
      simp at this
      exact this
    subst hi
    simp at hx
    rw [← hx, rI_a (by decide), Nat.add_zero, rI_eq]
theorem m_putCell (S : am_S h) (e : am_I h 349 3 = nI p) (hp : p + 3 ≤ 2000) (hc : c < 256) : ∃ g, am_run (d + 1) 179 [some (.ref 349), some (.int (nI c))] h none g ∧ OW h g p (clN c) := by
  obtain ⟨g1, r1, W1⟩ := m_put1 (d := d) (c := 65 + c / 64) S e (by omega)
  have S1 := fr_S W1.1 S
  obtain ⟨g2, r2, W2⟩ := m_put1 (d := d) (c := 97 + c % 8) S1 W1.2.2.1 (by simp; omega)
  have S2 := fr_S W2.1 S1
  obtain ⟨g3, r3, W3⟩ := m_put1 (d := d) (c := 48 + c / 8 % 8) S2 W2.2.2.1 (by simp; omega)
  refine ⟨g3, fun Q => ?_, OW_trans (OW_trans W1 W2) W3⟩
  have n64 : ¬ nI 64 = 0 := by decide
  have n8 : ¬ nI 8 = 0 := by decide
  simp (disch := first | with_reducible assumption | omega | exact Or.inl rfl | exact Or.inr rfl | exact bI_01 | exact c_cat | exact vt_ref | exact vt_null | rfl | with_reducible repeat (first | assumption | omega | apply S_I | apply S_L | apply S_D | apply ob_I | apply ob_L | apply ob_D | apply ob_R | apply ax_I | apply ax_L | apply ax_D | apply ax_R | apply o303 | apply o307 | apply o302 | apply o301 | apply ax304 | apply ax305 | apply ax306 | apply ax308 | apply ax309 | apply ax310 | apply lt_S | apply ar305 | apply ar308 | apply ar309)) only [g179_0, g179_1, g179_3, g179_4, g179_6, g179_7, g179_8, g179_11, g179_12, g179_14, g179_15, g179_17, g179_18, g179_19, g179_22, g179_23, g179_25, g179_26, g179_28, g179_29, g179_31, g179_32, g179_33, g179_36, Option.toList, List.nil_append, List.cons_append, va_rf, nI_ltI, nI_leI, nI_eq, nI_add, nI_lt0, nI_e0, nI_m1, m1_nI, Nat.reduceEqDiff, Nat.reduceLT, Nat.reduceLeDiff, Nat.reduceAdd, Nat.reduceSub, Nat.reduceMul, ↓reduceIte, eq_self, nI_div, nI_mul, nI_rem2, r1 _, r2 _, r3 _]
theorem m_putSign (S : am_S h) (e : am_I h 349 3 = nI p) (hp : p + 2 ≤ 2000) {s : Nat} (hs : s ∈ [43, 45, 42, 47, 37, 60, 76, 61, 78]) : ∃ g, am_run (d + 1) 181 [some (.ref 349), some (.int (nI s))] h none g ∧ OW h g p (sgN s) := by
  by_cases c1 : s = 76
  · subst c1
    obtain ⟨g1, r1, W1⟩ := m_put1 (d := d) (c := 60) S e (by omega)
    have S1 := fr_S W1.1 S
    obtain ⟨g2, r2, W2⟩ := m_put1 (d := d) (c := 61) S1 W1.2.2.1 (by simp; omega)
    have S2 := fr_S W2.1 S1
    refine ⟨g2, fun Q => ?_, OW_trans W1 W2⟩
    simp (disch := first | with_reducible assumption | omega | exact Or.inl rfl | exact Or.inr rfl | exact bI_01 | exact c_cat | exact vt_ref | exact vt_null | rfl | with_reducible repeat (first | assumption | omega | apply S_I | apply S_L | apply S_D | apply ob_I | apply ob_L | apply ob_D | apply ob_R | apply ax_I | apply ax_L | apply ax_D | apply ax_R | apply o303 | apply o307 | apply o302 | apply o301 | apply ax304 | apply ax305 | apply ax306 | apply ax308 | apply ax309 | apply ax310 | apply lt_S | apply ar305 | apply ar308 | apply ar309)) only [g181_0, g181_1, g181_2, g181_4, g181_7, g181_8, g181_10, g181_13, g181_15, g181_18, g181_19, g181_22, g181_23, g181_25, g181_28, g181_29, g181_31, g181_34, g181_35, g181_37, g181_40, g181_41, g181_43, g181_46, Option.toList, List.nil_append, List.cons_append, va_rf, nI_ltI, nI_leI, nI_eq, nI_add, nI_sub, nI_lt0, nI_e0, nI_m1, m1_nI, Nat.reduceEqDiff, Nat.reduceLT, Nat.reduceLeDiff, Nat.reduceAdd, Nat.reduceSub, Nat.reduceMul, ↓reduceIte, eq_self, r1 _, r2 _]
  · by_cases c2 : s = 78
    · subst c2
      obtain ⟨g1, r1, W1⟩ := m_put1 (d := d) (c := 60) S e (by omega)
      have S1 := fr_S W1.1 S
      obtain ⟨g2, r2, W2⟩ := m_put1 (d := d) (c := 62) S1 W1.2.2.1 (by simp; omega)
      have S2 := fr_S W2.1 S1
      refine ⟨g2, fun Q => ?_, OW_trans W1 W2⟩
      simp (disch := first | with_reducible assumption | omega | exact Or.inl rfl | exact Or.inr rfl | exact bI_01 | exact c_cat | exact vt_ref | exact vt_null | rfl | with_reducible repeat (first | assumption | omega | apply S_I | apply S_L | apply S_D | apply ob_I | apply ob_L | apply ob_D | apply ob_R | apply ax_I | apply ax_L | apply ax_D | apply ax_R | apply o303 | apply o307 | apply o302 | apply o301 | apply ax304 | apply ax305 | apply ax306 | apply ax308 | apply ax309 | apply ax310 | apply lt_S | apply ar305 | apply ar308 | apply ar309)) only [g181_0, g181_1, g181_2, g181_4, g181_7, g181_8, g181_10, g181_13, g181_15, g181_18, g181_19, g181_22, g181_23, g181_25, g181_28, g181_29, g181_31, g181_34, g181_35, g181_37, g181_40, g181_41, g181_43, g181_46, Option.toList, List.nil_append, List.cons_append, va_rf, nI_ltI, nI_leI, nI_eq, nI_add, nI_sub, nI_lt0, nI_e0, nI_m1, m1_nI, Nat.reduceEqDiff, Nat.reduceLT, Nat.reduceLeDiff, Nat.reduceAdd, Nat.reduceSub, Nat.reduceMul, ↓reduceIte, eq_self, r1 _, r2 _]
    · have hs' : s < 100 := by
        simp only [List.mem_cons, List.not_mem_nil, or_false] at hs
        omega
      obtain ⟨g1, r1, W1⟩ := m_put1 (d := d) (c := s) S e (by omega)
      have S1 := fr_S W1.1 S
      refine ⟨g1, fun Q => ?_, ?_⟩
      · simp (disch := first | with_reducible assumption | omega | exact Or.inl rfl | exact Or.inr rfl | exact bI_01 | exact c_cat | exact vt_ref | exact vt_null | rfl | with_reducible repeat (first | assumption | omega | apply S_I | apply S_L | apply S_D | apply ob_I | apply ob_L | apply ob_D | apply ob_R | apply ax_I | apply ax_L | apply ax_D | apply ax_R | apply o303 | apply o307 | apply o302 | apply o301 | apply ax304 | apply ax305 | apply ax306 | apply ax308 | apply ax309 | apply ax310 | apply lt_S | apply ar305 | apply ar308 | apply ar309)) only [g181_0, g181_1, g181_2, g181_4, g181_7, g181_8, g181_10, g181_13, g181_15, g181_18, g181_19, g181_22, g181_23, g181_25, g181_28, g181_29, g181_31, g181_34, g181_35, g181_37, g181_40, g181_41, g181_43, g181_46, Option.toList, List.nil_append, List.cons_append, va_rf, nI_ltI, nI_leI, nI_eq, nI_add, nI_sub, nI_lt0, nI_e0, nI_m1, m1_nI, Nat.reduceEqDiff, Nat.reduceLT, Nat.reduceLeDiff, Nat.reduceAdd, Nat.reduceSub, Nat.reduceMul, ↓reduceIte, eq_self, c1, c2, r1 _]
      · unfold sgN
        rw [if_neg c1, if_neg c2]
        exact W1
theorem wd_facts : ∀ w, w < 12 → wl w ≤ 6 ∧ (∀ j, j < wl w → txN (6 * w + j) ≠ 32 ∧ txN (6 * w + j) < 128) ∧ (wl w < 6 → txN (6 * w + wl w) = 32) := by decide +kernel
theorem m_putWord (S : am_S h) (G : am_Gv h) (e : am_I h 349 3 = nI p) (hp : p + 6 ≤ 2000) {w : Nat} (hw : w < 12) : ∃ g, am_run (d + 5) 183 [some (.ref 349), some (.int (nI w)), none] h none g ∧ OW h g p (wdN w) := by
  obtain ⟨f1, f2, f3⟩ := wd_facts w hw
  have Lp : ∀ r j g, wl w - j = r → j ≤ wl w → OW h g p ((List.range j).map fun i => txN (6 * w + i)) → ∃ g', (∀ Q, am_J (d + 5) 183 5 [some (.ref 349), some (.int (nI w)), some (.int (nI (6 * w + j)))] [] g Q ↔ Q none g') ∧ OW h g' p (wdN w) := by
    intro r
    induction r with
    | zero =>
      intro j g hr hj W
      obtain rfl : j = wl w := by omega
      have Sg := fr_S W.1 S
      have Gg := Gv_fr W.1 (by decide) (by decide) (by decide) G
      have O2 : am_ob g 2 14 := ⟨am_S_lt Sg (by decide), by rw [Gg.2.2.1]⟩
      refine ⟨g, fun Q => ?_, W⟩
      rw [g183_5]
      by_cases c : wl w = 6
      · simp (disch := first | with_reducible assumption | omega | exact Or.inl rfl | exact Or.inr rfl | exact bI_01 | exact c_cat | exact vt_ref | exact vt_null | rfl | with_reducible repeat (first | assumption | omega | apply S_I | apply S_L | apply S_D | apply ob_I | apply ob_L | apply ob_D | apply ob_R | apply ax_I | apply ax_L | apply ax_D | apply ax_R | apply o303 | apply o307 | apply o302 | apply o301 | apply ax304 | apply ax305 | apply ax306 | apply ax308 | apply ax309 | apply ax310 | apply lt_S | apply ar305 | apply ar308 | apply ar309)) only [g183_6, g183_8, g183_9, g183_10, g183_12, g183_13, g183_16, g183_18, g183_19, g183_22, g183_24, g183_27, g183_28, g183_30, g183_31, g183_34, g183_37, g183_40, g183_43, Option.toList, List.nil_append, List.cons_append, va_rf, nI_ltI, nI_leI, nI_eq, nI_add, nI_sub, nI_lt0, nI_e0, nI_m1, m1_nI, Nat.reduceEqDiff, Nat.reduceLT, Nat.reduceLeDiff, Nat.reduceAdd, Nat.reduceSub, Nat.reduceMul, ↓reduceIte, eq_self, nI_mul, c, Nat.le_refl]
      · have ch := fun Q => m_charAt (d := d) (Q := Q) (j := 6 * w + wl w) Sg Gg (by omega)
        rw [f3 (by omega)] at ch
        simp (disch := first | with_reducible assumption | omega | exact Or.inl rfl | exact Or.inr rfl | exact bI_01 | exact c_cat | exact vt_ref | exact vt_null | rfl | with_reducible repeat (first | assumption | omega | apply S_I | apply S_L | apply S_D | apply ob_I | apply ob_L | apply ob_D | apply ob_R | apply ax_I | apply ax_L | apply ax_D | apply ax_R | apply o303 | apply o307 | apply o302 | apply o301 | apply ax304 | apply ax305 | apply ax306 | apply ax308 | apply ax309 | apply ax310 | apply lt_S | apply ar305 | apply ar308 | apply ar309)) only [g183_6, g183_8, g183_9, g183_10, g183_12, g183_13, g183_16, g183_18, g183_19, g183_22, g183_24, g183_27, g183_28, g183_30, g183_31, g183_34, g183_37, g183_40, g183_43, Option.toList, List.nil_append, List.cons_append, va_rf, nI_ltI, nI_leI, nI_eq, nI_add, nI_sub, nI_lt0, nI_e0, nI_m1, m1_nI, Nat.reduceEqDiff, Nat.reduceLT, Nat.reduceLeDiff, Nat.reduceAdd, Nat.reduceSub, Nat.reduceMul, ↓reduceIte, eq_self, nI_mul, show ¬ 6 * w + 6 ≤ 6 * w + wl w by omega, ch _]
    | succ r ih =>
      intro j g hr hj W
      have Sg := fr_S W.1 S
      have Gg := Gv_fr W.1 (by decide) (by decide) (by decide) G
      have O2 : am_ob g 2 14 := ⟨am_S_lt Sg (by decide), by rw [Gg.2.2.1]⟩
      obtain ⟨k1, k2⟩ := f2 j (by omega)
      have ch := fun Q => m_charAt (d := d) (Q := Q) (j := 6 * w + j) Sg Gg (by omega)
      have e3 : am_I g 349 3 = nI (p + j) := by have := W.2.2.1; rwa [List.length_map, List.length_range] at this
      obtain ⟨g1, r1, W1⟩ := m_put1 (d := d + 4) (c := txN (6 * w + j)) Sg e3 (by omega)
      have W2 : OW h g1 p ((List.range (j + 1)).map fun i => txN (6 * w + i)) := by
        rw [List.range_succ, List.map_append]
        exact OW_trans W (by rw [List.length_map, List.length_range]; exact W1)
      have S1 := fr_S W1.1 Sg
      obtain ⟨g', r', W'⟩ := ih (j + 1) g1 (by omega) (by omega) W2
      refine ⟨g', fun Q => ?_, W'⟩
      rw [← r' Q, g183_5]
      simp (disch := first | with_reducible assumption | omega | exact Or.inl rfl | exact Or.inr rfl | exact bI_01 | exact c_cat | exact vt_ref | exact vt_null | rfl | with_reducible repeat (first | assumption | omega | apply S_I | apply S_L | apply S_D | apply ob_I | apply ob_L | apply ob_D | apply ob_R | apply ax_I | apply ax_L | apply ax_D | apply ax_R | apply o303 | apply o307 | apply o302 | apply o301 | apply ax304 | apply ax305 | apply ax306 | apply ax308 | apply ax309 | apply ax310 | apply lt_S | apply ar305 | apply ar308 | apply ar309)) only [g183_6, g183_8, g183_9, g183_10, g183_12, g183_13, g183_16, g183_18, g183_19, g183_22, g183_24, g183_27, g183_28, g183_30, g183_31, g183_34, g183_37, g183_40, Option.toList, List.nil_append, List.cons_append, va_rf, nI_ltI, nI_leI, nI_eq, nI_add, nI_sub, nI_lt0, nI_e0, nI_m1, m1_nI, Nat.reduceEqDiff, Nat.reduceLT, Nat.reduceLeDiff, Nat.reduceAdd, Nat.reduceSub, Nat.reduceMul, ↓reduceIte, eq_self, nI_mul, show ¬ 6 * w + 6 ≤ 6 * w + j by omega, ch _, k1, r1 _, Nat.add_assoc]
  obtain ⟨g', r', W'⟩ := Lp (wl w) 0 h (Nat.sub_zero _) (Nat.zero_le _) (OW_nil e)
  refine ⟨g', fun Q => ?_, W'⟩
  rw [← r' Q]
  simp (disch := first | with_reducible assumption | omega | exact Or.inl rfl | exact Or.inr rfl | exact bI_01 | exact c_cat | exact vt_ref | exact vt_null | rfl | with_reducible repeat (first | assumption | omega | apply S_I | apply S_L | apply S_D | apply ob_I | apply ob_L | apply ob_D | apply ob_R | apply ax_I | apply ax_L | apply ax_D | apply ax_R | apply o303 | apply o307 | apply o302 | apply o301 | apply ax304 | apply ax305 | apply ax306 | apply ax308 | apply ax309 | apply ax310 | apply lt_S | apply ar305 | apply ar308 | apply ar309)) only [g183_0, g183_2, g183_3, g183_4, Option.toList, List.nil_append, List.cons_append, va_rf, nI_ltI, nI_leI, nI_eq, nI_add, nI_sub, nI_lt0, nI_e0, nI_m1, m1_nI, Nat.reduceEqDiff, Nat.reduceLT, Nat.reduceLeDiff, Nat.reduceAdd, Nat.reduceSub, Nat.reduceMul, ↓reduceIte, eq_self, nI_mul, Nat.add_zero]
end OUW

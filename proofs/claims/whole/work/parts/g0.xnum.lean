/-! THE CLASS: the stack of numbers -/
def xn (g : am_H) (i : Nat) (v : VL) : Prop := match v with
  | .inl x => am_I g 13 i = nI 0 ∧ am_L g 14 i = x
  | .inr y => am_I g 13 i = nI 1 ∧ am_D g 15 i = y ∧ okD y
/-- the stack holds st -/
def NS (g : am_H) (st : List VL) : Prop := am_I g 12 3 = nI st.length ∧ ∀ i v, st[i]? = some v → xn g i v
abbrev nsP : Nat → Prop := fun a => a = 12 ∨ a = 13 ∨ a = 14 ∨ a = 15
section XNU
variable {d : Nat} {g g' : am_H} {st l : List VL} {u v : VL}
theorem xn_ok {i : Nat} (h : xn g i v) : okV v := by
  match v, h with
  | .inl x, _ => exact trivial
  | .inr y, ⟨_, _, h⟩ => exact h
theorem xn_keep {i : Nat} (h1 : am_I g' 13 i = am_I g 13 i) (h2 : am_L g' 14 i = am_L g 14 i) (h3 : am_D g' 15 i = am_D g 15 i) (h : xn g i v) : xn g' i v := by
  match v, h with
  | .inl x, ⟨e1, e2⟩ => exact ⟨h1.trans e1, h2.trans e2⟩
  | .inr y, ⟨e1, e2, e3⟩ => exact ⟨h1.trans e1, h3.trans e2, e3⟩
theorem NS_push (N : NS g st) (h : ∀ i, i < st.length → am_I g' 13 i = am_I g 13 i ∧ am_L g' 14 i = am_L g 14 i ∧ am_D g' 15 i = am_D g 15 i) (e : am_I g' 12 3 = nI (st.length + 1)) (x : xn g' st.length v) : NS g' (st ++ [v]) := by
  refine ⟨by rw [List.length_append]; exact e, fun i w hw => ?_⟩
  by_cases c : i < st.length
  · rw [List.getElem?_append_left c] at hw
    obtain ⟨h1, h2, h3⟩ := h i c
    exact xn_keep h1 h2 h3 (N.2 i w hw)
  · have hl := (List.getElem?_eq_some_iff.mp hw).1
    rw [List.length_append, List.length_cons, List.length_nil] at hl
    obtain rfl : i = st.length := by omega
    rw [List.getElem?_append_right (Nat.le_refl _), Nat.sub_self] at hw
    obtain rfl : v = w := Option.some.inj hw
    exact x
theorem NS_cut (N : NS g (st ++ l)) (h : ∀ i, i < st.length → am_I g' 13 i = am_I g 13 i ∧ am_L g' 14 i = am_L g 14 i ∧ am_D g' 15 i = am_D g 15 i) (e : am_I g' 12 3 = nI st.length) : NS g' st := ⟨e, fun i w hw => by
  have c := (List.getElem?_eq_some_iff.mp hw).1
  obtain ⟨h1, h2, h3⟩ := h i c
  exact xn_keep h1 h2 h3 (N.2 i w (by rw [List.getElem?_append_left c]; exact hw))⟩
theorem NS_top (N : NS g (st ++ [v])) : xn g st.length v := N.2 st.length v (by rw [List.getElem?_append_right (Nat.le_refl _), Nat.sub_self]; rfl)
theorem NS_len (N : NS g (st ++ [v])) : am_I g 12 3 = nI (st.length + 1) := by have := N.1; rwa [List.length_append] at this
theorem NS_fr {P : Nat → Prop} (F : am_fr P g g') (h1 : ¬ P 12) (h2 : ¬ P 13) (h3 : ¬ P 14) (h4 : ¬ P 15) (N : NS g st) : NS g' st := ⟨(fr_rdI F h1).trans N.1, fun i v hv => xn_keep (fr_rdI F h2) (fr_rdL F h3) (fr_rdD F h4) (N.2 i v hv)⟩
theorem x_pushL {x : Int64} (S : am_S g) (N : NS g st) (hl : st.length < 1024) : ∃ g', am_run d 61 [some (.ref 12), some (.long x), none] g none g' ∧ NS g' (st ++ [.inl x]) ∧ am_fr nsP g g' := by
  refine ⟨am_setI (am_setL (am_setI g 13 st.length (nI 0)) 14 st.length x) 12 3 (nI (st.length + 1)), fun Q => ?_, NS_push N (fun i hi => ⟨?_, ?_, rfl⟩) rI_eq ⟨?_, ?_⟩, fr_I (fr_L (fr_I fr_refl (Or.inr (Or.inl rfl))) (Or.inr (Or.inr (Or.inl rfl)))) (Or.inl rfl)⟩
  · simp (disch := first | with_reducible assumption | omega | exact Or.inl rfl | exact Or.inr rfl | exact bI_01 | exact c_cat | exact vt_ref | exact vt_null | rfl | with_reducible repeat (first | assumption | omega | apply S_I | apply S_L | apply S_D | apply ob_I | apply ob_L | apply ob_D | apply ob_R | apply ax_I | apply ax_L | apply ax_D | apply ax_R | apply o303 | apply o307 | apply o302 | apply o301 | apply ax304 | apply ax305 | apply ax306 | apply ax308 | apply ax309 | apply ax310 | apply lt_S | apply ar305 | apply ar308 | apply ar309)) only [g61_0, g61_1, g61_4, g61_7, g61_10, g61_11, g61_14, g61_15, g61_18, g61_19, g61_20, g61_21, g61_24, g61_25, g61_28, g61_29, g61_30, g61_31, g61_32, g61_35, g61_36, g61_37, g61_40, Option.toList, List.nil_append, List.cons_append, va_rf, nI_ltI, nI_leI, nI_eq, nI_add, nI_sub, nI_lt0, nI_e0, nI_m1, m1_nI, Nat.reduceEqDiff, Nat.reduceLT, Nat.reduceLeDiff, Nat.reduceAdd, Nat.reduceSub, Nat.reduceMul, ↓reduceIte, eq_self, hI_I, hI_L, hI_D, hI_R, hL_I, hL_L, hL_D, hL_R, hD_I, hD_L, hD_D, hD_R, hR_I, hR_L, hR_D, ↓reduceIte, Nat.reduceEqDiff, N.1, show ¬ 1024 ≤ st.length by omega]
  · rw [rI_a (by decide), hI_L, rI_k (by omega)]
  · rw [hL_I, rL_k (by omega)]; rfl
  · rw [rI_a (by decide), hI_L, rI_eq]
  · rw [hL_I, rL_eq]
theorem x_pushD {x : UInt64} (S : am_S g) (N : NS g st) (hl : st.length < 1024) (kx : okD x) : ∃ g', am_run d 60 [some (.ref 12), some (.double x), none] g none g' ∧ NS g' (st ++ [.inr x]) ∧ am_fr nsP g g' := by
  refine ⟨am_setI (am_setD (am_setI g 13 st.length (nI 1)) 15 st.length x) 12 3 (nI (st.length + 1)), fun Q => ?_, NS_push N (fun i hi => ⟨?_, rfl, ?_⟩) rI_eq ⟨?_, ?_, kx⟩, fr_I (fr_D (fr_I fr_refl (Or.inr (Or.inl rfl))) (Or.inr (Or.inr (Or.inr rfl)))) (Or.inl rfl)⟩
  · simp (disch := first | with_reducible assumption | omega | exact Or.inl rfl | exact Or.inr rfl | exact bI_01 | exact c_cat | exact vt_ref | exact vt_null | rfl | with_reducible repeat (first | assumption | omega | apply S_I | apply S_L | apply S_D | apply ob_I | apply ob_L | apply ob_D | apply ob_R | apply ax_I | apply ax_L | apply ax_D | apply ax_R | apply o303 | apply o307 | apply o302 | apply o301 | apply ax304 | apply ax305 | apply ax306 | apply ax308 | apply ax309 | apply ax310 | apply lt_S | apply ar305 | apply ar308 | apply ar309)) only [g60_0, g60_1, g60_4, g60_7, g60_10, g60_11, g60_14, g60_15, g60_18, g60_19, g60_20, g60_21, g60_24, g60_25, g60_28, g60_29, g60_30, g60_31, g60_32, g60_35, g60_36, g60_37, g60_40, Option.toList, List.nil_append, List.cons_append, va_rf, nI_ltI, nI_leI, nI_eq, nI_add, nI_sub, nI_lt0, nI_e0, nI_m1, m1_nI, Nat.reduceEqDiff, Nat.reduceLT, Nat.reduceLeDiff, Nat.reduceAdd, Nat.reduceSub, Nat.reduceMul, ↓reduceIte, eq_self, hI_I, hI_L, hI_D, hI_R, hL_I, hL_L, hL_D, hL_R, hD_I, hD_L, hD_D, hD_R, hR_I, hR_L, hR_D, ↓reduceIte, Nat.reduceEqDiff, N.1, show ¬ 1024 ≤ st.length by omega]
  · rw [rI_a (by decide), hI_D, rI_k (by omega)]
  · rw [hD_I, rD_k (by omega)]; rfl
  · rw [rI_a (by decide), hI_D, rI_eq]
  · rw [hD_I, rD_eq]
theorem x_push (S : am_S g) (N : NS g st) (hl : st.length < 1024) (kv : okV v) : (∀ x, v = .inl x → ∃ g', am_run d 61 [some (.ref 12), some (.long x), none] g none g' ∧ NS g' (st ++ [v]) ∧ am_fr nsP g g') ∧ ∀ x, v = .inr x → ∃ g', am_run d 60 [some (.ref 12), some (.double x), none] g none g' ∧ NS g' (st ++ [v]) ∧ am_fr nsP g g' :=
  ⟨fun x e => by subst e; exact x_pushL S N hl, fun x e => by subst e; exact x_pushD S N hl kv⟩
theorem x_realAt {i : Nat} (S : am_S g) (hi : i < 1024) (V : xn g i v) : am_run d 59 [some (.ref 12), some (.int (nI i))] g (some (.double (vD v))) g := fun Q => by
  match v, V with
  | .inl x, ⟨e1, e2⟩ => simp (disch := first | with_reducible assumption | omega | exact Or.inl rfl | exact Or.inr rfl | exact bI_01 | exact c_cat | exact vt_ref | exact vt_null | rfl | with_reducible repeat (first | assumption | omega | apply S_I | apply S_L | apply S_D | apply ob_I | apply ob_L | apply ob_D | apply ob_R | apply ax_I | apply ax_L | apply ax_D | apply ax_R | apply o303 | apply o307 | apply o302 | apply o301 | apply ax304 | apply ax305 | apply ax306 | apply ax308 | apply ax309 | apply ax310 | apply lt_S | apply ar305 | apply ar308 | apply ar309)) only [g59_0, g59_1, g59_4, g59_5, g59_6, g59_9, g59_10, g59_13, g59_14, g59_15, g59_18, g59_19, g59_22, g59_23, g59_24, g59_25, Option.toList, List.nil_append, List.cons_append, va_rf, nI_ltI, nI_leI, nI_eq, nI_add, nI_sub, nI_lt0, nI_e0, nI_m1, m1_nI, Nat.reduceEqDiff, Nat.reduceLT, Nat.reduceLeDiff, Nat.reduceAdd, Nat.reduceSub, Nat.reduceMul, ↓reduceIte, eq_self, e1, e2, vD]
  | .inr y, ⟨e1, e2, _⟩ => simp (disch := first | with_reducible assumption | omega | exact Or.inl rfl | exact Or.inr rfl | exact bI_01 | exact c_cat | exact vt_ref | exact vt_null | rfl | with_reducible repeat (first | assumption | omega | apply S_I | apply S_L | apply S_D | apply ob_I | apply ob_L | apply ob_D | apply ob_R | apply ax_I | apply ax_L | apply ax_D | apply ax_R | apply o303 | apply o307 | apply o302 | apply o301 | apply ax304 | apply ax305 | apply ax306 | apply ax308 | apply ax309 | apply ax310 | apply lt_S | apply ar305 | apply ar308 | apply ar309)) only [g59_0, g59_1, g59_4, g59_5, g59_6, g59_9, g59_10, g59_13, g59_14, g59_15, g59_18, g59_19, g59_22, g59_23, g59_24, g59_25, Option.toList, List.nil_append, List.cons_append, va_rf, nI_ltI, nI_leI, nI_eq, nI_add, nI_sub, nI_lt0, nI_e0, nI_m1, m1_nI, Nat.reduceEqDiff, Nat.reduceLT, Nat.reduceLeDiff, Nat.reduceAdd, Nat.reduceSub, Nat.reduceMul, ↓reduceIte, eq_self, e1, e2, vD]
theorem x_popD (S : am_S g) (N : NS g (st ++ [v])) (hl : st.length < 1024) : am_run (d + 1) 58 [some (.ref 12)] g (some (.double (vD v))) (am_setI g 12 3 (nI st.length)) ∧ NS (am_setI g 12 3 (nI st.length)) st ∧ am_fr nsP g (am_setI g 12 3 (nI st.length)) := by
  have V := NS_top N
  have S1 : am_S (am_setI g 12 3 (nI st.length)) := S
  have ra := x_realAt (d := d) S1 hl (xn_keep (g' := am_setI g 12 3 (nI st.length)) (rI_a (by decide)) rfl rfl V)
  refine ⟨fun Q => ?_, NS_cut N (fun i _ => ⟨rI_a (by decide), rfl, rfl⟩) rI_eq, fr_I fr_refl (Or.inl rfl)⟩
  simp (disch := first | with_reducible assumption | omega | exact Or.inl rfl | exact Or.inr rfl | exact bI_01 | exact c_cat | exact vt_ref | exact vt_null | rfl | with_reducible repeat (first | assumption | omega | apply S_I | apply S_L | apply S_D | apply ob_I | apply ob_L | apply ob_D | apply ob_R | apply ax_I | apply ax_L | apply ax_D | apply ax_R | apply o303 | apply o307 | apply o302 | apply o301 | apply ax304 | apply ax305 | apply ax306 | apply ax308 | apply ax309 | apply ax310 | apply lt_S | apply ar305 | apply ar308 | apply ar309)) only [g58_0, g58_1, g58_4, g58_5, g58_8, g58_9, g58_10, g58_11, g58_12, g58_15, g58_16, g58_17, g58_20, g58_21, g58_22, g58_25, g58_28, Option.toList, List.nil_append, List.cons_append, va_rf, nI_ltI, nI_leI, nI_eq, nI_add, nI_sub, nI_lt0, nI_e0, nI_m1, m1_nI, Nat.reduceEqDiff, Nat.reduceLT, Nat.reduceLeDiff, Nat.reduceAdd, Nat.reduceSub, Nat.reduceMul, ↓reduceIte, eq_self, hI_I, hI_L, hI_D, hI_R, hL_I, hL_L, hL_D, hL_R, hD_I, hD_L, hD_D, hD_R, hR_I, hR_L, hR_D, ↓reduceIte, Nat.reduceEqDiff, NS_len N, show 1 ≤ st.length + 1 by omega, Nat.add_sub_cancel, ra _]
theorem x_popL (S : am_S g) (N : NS g (st ++ [v])) (hl : st.length < 1024) : ∃ x, cutV v = .inl x ∧ am_run d 65 [some (.ref 12)] g (some (.long x)) (am_setI g 12 3 (nI st.length)) ∧ NS (am_setI g 12 3 (nI st.length)) st ∧ am_fr nsP g (am_setI g 12 3 (nI st.length)) := by
  have V := NS_top N
  have S1 : am_S (am_setI g 12 3 (nI st.length)) := S
  have Nc : NS (am_setI g 12 3 (nI st.length)) st := NS_cut N (fun i _ => ⟨rI_a (by decide), rfl, rfl⟩) rI_eq
  have nl := NS_len N
  match v, V with
  | .inl x, ⟨e1, e2⟩ =>
    refine ⟨x, rfl, fun Q => ?_, Nc, fr_I fr_refl (Or.inl rfl)⟩
    simp (disch := first | with_reducible assumption | omega | exact Or.inl rfl | exact Or.inr rfl | exact bI_01 | exact c_cat | exact vt_ref | exact vt_null | rfl | with_reducible repeat (first | assumption | omega | apply S_I | apply S_L | apply S_D | apply ob_I | apply ob_L | apply ob_D | apply ob_R | apply ax_I | apply ax_L | apply ax_D | apply ax_R | apply o303 | apply o307 | apply o302 | apply o301 | apply ax304 | apply ax305 | apply ax306 | apply ax308 | apply ax309 | apply ax310 | apply lt_S | apply ar305 | apply ar308 | apply ar309)) only [g65_0, g65_1, g65_4, g65_5, g65_8, g65_9, g65_10, g65_11, g65_12, g65_15, g65_16, g65_17, g65_20, g65_21, g65_24, g65_25, g65_28, g65_29, g65_32, g65_33, g65_36, g65_37, g65_40, g65_41, g65_42, g65_45, g65_46, g65_49, g65_50, g65_53, g65_54, Option.toList, List.nil_append, List.cons_append, va_rf, nI_ltI, nI_leI, nI_eq, nI_add, nI_sub, nI_lt0, nI_e0, nI_m1, m1_nI, Nat.reduceEqDiff, Nat.reduceLT, Nat.reduceLeDiff, Nat.reduceAdd, Nat.reduceSub, Nat.reduceMul, ↓reduceIte, eq_self, hI_I, hI_L, hI_D, hI_R, hL_I, hL_L, hL_D, hL_R, hD_I, hD_L, hD_D, hD_R, hR_I, hR_L, hR_D, ↓reduceIte, Nat.reduceEqDiff, nl, show 1 ≤ st.length + 1 by omega, Nat.add_sub_cancel, e1, e2]
  | .inr y, ⟨e1, e2, _⟩ =>
    refine ⟨Jvm.FP.d2l y, rfl, fun Q => ?_, Nc, fr_I fr_refl (Or.inl rfl)⟩
    simp (disch := first | with_reducible assumption | omega | exact Or.inl rfl | exact Or.inr rfl | exact bI_01 | exact c_cat | exact vt_ref | exact vt_null | rfl | with_reducible repeat (first | assumption | omega | apply S_I | apply S_L | apply S_D | apply ob_I | apply ob_L | apply ob_D | apply ob_R | apply ax_I | apply ax_L | apply ax_D | apply ax_R | apply o303 | apply o307 | apply o302 | apply o301 | apply ax304 | apply ax305 | apply ax306 | apply ax308 | apply ax309 | apply ax310 | apply lt_S | apply ar305 | apply ar308 | apply ar309)) only [g65_0, g65_1, g65_4, g65_5, g65_8, g65_9, g65_10, g65_11, g65_12, g65_15, g65_16, g65_17, g65_20, g65_21, g65_24, g65_25, g65_28, g65_29, g65_32, g65_33, g65_36, g65_37, g65_40, g65_41, g65_42, g65_45, g65_46, g65_49, g65_50, g65_53, g65_54, Option.toList, List.nil_append, List.cons_append, va_rf, nI_ltI, nI_leI, nI_eq, nI_add, nI_sub, nI_lt0, nI_e0, nI_m1, m1_nI, Nat.reduceEqDiff, Nat.reduceLT, Nat.reduceLeDiff, Nat.reduceAdd, Nat.reduceSub, Nat.reduceMul, ↓reduceIte, eq_self, hI_I, hI_L, hI_D, hI_R, hL_I, hL_L, hL_D, hL_R, hD_I, hD_L, hD_D, hD_R, hR_I, hR_L, hR_D, ↓reduceIte, Nat.reduceEqDiff, nl, show 1 ≤ st.length + 1 by omega, Nat.add_sub_cancel, e1, e2]
theorem x_popZero (S : am_S g) (N : NS g (st ++ [v])) (hl : st.length < 1024) : am_run d 66 [some (.ref 12)] g (some (.int (bI (!nz v)))) (am_setI g 12 3 (nI st.length)) ∧ NS (am_setI g 12 3 (nI st.length)) st ∧ am_fr nsP g (am_setI g 12 3 (nI st.length)) := by
  have V := NS_top N
  have S1 : am_S (am_setI g 12 3 (nI st.length)) := S
  have nl := NS_len N
  refine ⟨fun Q => ?_, NS_cut N (fun i _ => ⟨rI_a (by decide), rfl, rfl⟩) rI_eq, fr_I fr_refl (Or.inl rfl)⟩
  match v, V with
  | .inl x, ⟨e1, e2⟩ =>
    by_cases c : x = 0
    · rw [show nz (.inl x) = false by show (!decide (x = 0)) = false; rw [decide_eq_true c]; rfl, Bool.not_false, bI_t]
      have cz : (lg_cmp x (lN 0) = 0) = True := eq_true (lg_cmp0.mpr c)
      simp (disch := first | with_reducible assumption | omega | exact Or.inl rfl | exact Or.inr rfl | exact bI_01 | exact c_cat | exact vt_ref | exact vt_null | rfl | with_reducible repeat (first | assumption | omega | apply S_I | apply S_L | apply S_D | apply ob_I | apply ob_L | apply ob_D | apply ob_R | apply ax_I | apply ax_L | apply ax_D | apply ax_R | apply o303 | apply o307 | apply o302 | apply o301 | apply ax304 | apply ax305 | apply ax306 | apply ax308 | apply ax309 | apply ax310 | apply lt_S | apply ar305 | apply ar308 | apply ar309)) only [g66_0, g66_1, g66_4, g66_5, g66_8, g66_9, g66_10, g66_11, g66_12, g66_15, g66_16, g66_17, g66_20, g66_21, g66_24, g66_25, g66_28, g66_29, g66_32, g66_33, g66_36, g66_37, g66_40, g66_41, g66_42, g66_43, g66_46, g66_47, g66_50, g66_51, g66_54, g66_55, g66_58, g66_59, g66_62, g66_63, g66_64, g66_65, g66_68, g66_69, g66_72, g66_73, Option.toList, List.nil_append, List.cons_append, va_rf, nI_ltI, nI_leI, nI_eq, nI_add, nI_sub, nI_lt0, nI_e0, nI_m1, m1_nI, Nat.reduceEqDiff, Nat.reduceLT, Nat.reduceLeDiff, Nat.reduceAdd, Nat.reduceSub, Nat.reduceMul, ↓reduceIte, eq_self, hI_I, hI_L, hI_D, hI_R, hL_I, hL_L, hL_D, hL_R, hD_I, hD_L, hD_D, hD_R, hR_I, hR_L, hR_D, ↓reduceIte, Nat.reduceEqDiff, nl, show 1 ≤ st.length + 1 by omega, Nat.add_sub_cancel, e1, e2, cz]
    · rw [show nz (.inl x) = true by show (!decide (x = 0)) = true; rw [decide_eq_false c]; rfl, Bool.not_true, bI_f]
      have cz : (lg_cmp x (lN 0) = 0) = False := eq_false (fun q => c (lg_cmp0.mp q))
      simp (disch := first | with_reducible assumption | omega | exact Or.inl rfl | exact Or.inr rfl | exact bI_01 | exact c_cat | exact vt_ref | exact vt_null | rfl | with_reducible repeat (first | assumption | omega | apply S_I | apply S_L | apply S_D | apply ob_I | apply ob_L | apply ob_D | apply ob_R | apply ax_I | apply ax_L | apply ax_D | apply ax_R | apply o303 | apply o307 | apply o302 | apply o301 | apply ax304 | apply ax305 | apply ax306 | apply ax308 | apply ax309 | apply ax310 | apply lt_S | apply ar305 | apply ar308 | apply ar309)) only [g66_0, g66_1, g66_4, g66_5, g66_8, g66_9, g66_10, g66_11, g66_12, g66_15, g66_16, g66_17, g66_20, g66_21, g66_24, g66_25, g66_28, g66_29, g66_32, g66_33, g66_36, g66_37, g66_40, g66_41, g66_42, g66_43, g66_46, g66_47, g66_50, g66_51, g66_54, g66_55, g66_58, g66_59, g66_62, g66_63, g66_64, g66_65, g66_68, g66_69, g66_72, g66_73, Option.toList, List.nil_append, List.cons_append, va_rf, nI_ltI, nI_leI, nI_eq, nI_add, nI_sub, nI_lt0, nI_e0, nI_m1, m1_nI, Nat.reduceEqDiff, Nat.reduceLT, Nat.reduceLeDiff, Nat.reduceAdd, Nat.reduceSub, Nat.reduceMul, ↓reduceIte, eq_self, hI_I, hI_L, hI_D, hI_R, hL_I, hL_L, hL_D, hL_R, hD_I, hD_L, hD_D, hD_R, hR_I, hR_L, hR_D, ↓reduceIte, Nat.reduceEqDiff, nl, show 1 ≤ st.length + 1 by omega, Nat.add_sub_cancel, e1, e2, cz]
  | .inr y, ⟨e1, e2, e3⟩ =>
    have nx := okD_nn e3
    have n0 : am_nn Jvm.FP.dconst0 := u_nn unit0
    have ck := deq_key nx n0
    have cr := cm_e nx n0 .l
    by_cases c : Jvm.FP.Core.dkey y = Jvm.FP.Core.dkey Jvm.FP.dconst0
    · rw [show nz (.inr y) = false by show (!deq y Jvm.FP.dconst0) = false; rw [ck, decide_eq_true c]; rfl, Bool.not_false, bI_t]
      simp (disch := first | with_reducible assumption | omega | exact Or.inl rfl | exact Or.inr rfl | exact bI_01 | exact c_cat | exact vt_ref | exact vt_null | rfl | with_reducible repeat (first | assumption | omega | apply S_I | apply S_L | apply S_D | apply ob_I | apply ob_L | apply ob_D | apply ob_R | apply ax_I | apply ax_L | apply ax_D | apply ax_R | apply o303 | apply o307 | apply o302 | apply o301 | apply ax304 | apply ax305 | apply ax306 | apply ax308 | apply ax309 | apply ax310 | apply lt_S | apply ar305 | apply ar308 | apply ar309)) only [g66_0, g66_1, g66_4, g66_5, g66_8, g66_9, g66_10, g66_11, g66_12, g66_15, g66_16, g66_17, g66_20, g66_21, g66_24, g66_25, g66_28, g66_29, g66_32, g66_33, g66_36, g66_37, g66_40, g66_41, g66_42, g66_43, g66_46, g66_47, g66_50, g66_51, g66_54, g66_55, g66_58, g66_59, g66_62, g66_63, g66_64, g66_65, g66_68, g66_69, g66_72, g66_73, Option.toList, List.nil_append, List.cons_append, va_rf, nI_ltI, nI_leI, nI_eq, nI_add, nI_sub, nI_lt0, nI_e0, nI_m1, m1_nI, Nat.reduceEqDiff, Nat.reduceLT, Nat.reduceLeDiff, Nat.reduceAdd, Nat.reduceSub, Nat.reduceMul, ↓reduceIte, eq_self, hI_I, hI_L, hI_D, hI_R, hL_I, hL_L, hL_D, hL_R, hD_I, hD_L, hD_D, hD_R, hR_I, hR_L, hR_D, ↓reduceIte, Nat.reduceEqDiff, nl, show 1 ≤ st.length + 1 by omega, Nat.add_sub_cancel, e1, e2, cr, eq_true c]
    · rw [show nz (.inr y) = true by show (!deq y Jvm.FP.dconst0) = true; rw [ck, decide_eq_false c]; rfl, Bool.not_true, bI_f]
      simp (disch := first | with_reducible assumption | omega | exact Or.inl rfl | exact Or.inr rfl | exact bI_01 | exact c_cat | exact vt_ref | exact vt_null | rfl | with_reducible repeat (first | assumption | omega | apply S_I | apply S_L | apply S_D | apply ob_I | apply ob_L | apply ob_D | apply ob_R | apply ax_I | apply ax_L | apply ax_D | apply ax_R | apply o303 | apply o307 | apply o302 | apply o301 | apply ax304 | apply ax305 | apply ax306 | apply ax308 | apply ax309 | apply ax310 | apply lt_S | apply ar305 | apply ar308 | apply ar309)) only [g66_0, g66_1, g66_4, g66_5, g66_8, g66_9, g66_10, g66_11, g66_12, g66_15, g66_16, g66_17, g66_20, g66_21, g66_24, g66_25, g66_28, g66_29, g66_32, g66_33, g66_36, g66_37, g66_40, g66_41, g66_42, g66_43, g66_46, g66_47, g66_50, g66_51, g66_54, g66_55, g66_58, g66_59, g66_62, g66_63, g66_64, g66_65, g66_68, g66_69, g66_72, g66_73, Option.toList, List.nil_append, List.cons_append, va_rf, nI_ltI, nI_leI, nI_eq, nI_add, nI_sub, nI_lt0, nI_e0, nI_m1, m1_nI, Nat.reduceEqDiff, Nat.reduceLT, Nat.reduceLeDiff, Nat.reduceAdd, Nat.reduceSub, Nat.reduceMul, ↓reduceIte, eq_self, hI_I, hI_L, hI_D, hI_R, hL_I, hL_L, hL_D, hL_R, hD_I, hD_L, hD_D, hD_R, hR_I, hR_L, hR_D, ↓reduceIte, Nat.reduceEqDiff, nl, show 1 ≤ st.length + 1 by omega, Nat.add_sub_cancel, e1, e2, cr, eq_false c]
def isLg (v : VL) : Bool := match v with
  | .inl _ => true
  | .inr _ => false
theorem x_topIsLong (S : am_S g) (N : NS g (st ++ [v])) (hl : st.length < 1024) : am_run d 64 [some (.ref 12)] g (some (.int (bI (isLg v)))) g := fun Q => by
  have V := NS_top N
  have nl := NS_len N
  have p0 : (nI (st.length + 1) ≤ 0) = False := eq_false (by rw [show (0 : Int32) = nI 0 from rfl, nI_leI (by omega) (by omega)]; omega)
  match v, V with
  | .inl x, ⟨e1, e2⟩ => simp (disch := first | with_reducible assumption | omega | exact Or.inl rfl | exact Or.inr rfl | exact bI_01 | exact c_cat | exact vt_ref | exact vt_null | rfl | with_reducible repeat (first | assumption | omega | apply S_I | apply S_L | apply S_D | apply ob_I | apply ob_L | apply ob_D | apply ob_R | apply ax_I | apply ax_L | apply ax_D | apply ax_R | apply o303 | apply o307 | apply o302 | apply o301 | apply ax304 | apply ax305 | apply ax306 | apply ax308 | apply ax309 | apply ax310 | apply lt_S | apply ar305 | apply ar308 | apply ar309)) only [g64_0, g64_1, g64_4, g64_7, g64_8, g64_11, g64_12, g64_15, g64_16, g64_17, g64_18, g64_21, g64_22, g64_25, g64_26, Option.toList, List.nil_append, List.cons_append, va_rf, nI_ltI, nI_leI, nI_eq, nI_add, nI_sub, nI_lt0, nI_e0, nI_m1, m1_nI, Nat.reduceEqDiff, Nat.reduceLT, Nat.reduceLeDiff, Nat.reduceAdd, Nat.reduceSub, Nat.reduceMul, ↓reduceIte, eq_self, nl, p0, Nat.add_sub_cancel, e1, isLg, bI_t]
  | .inr y, ⟨e1, e2, e3⟩ => simp (disch := first | with_reducible assumption | omega | exact Or.inl rfl | exact Or.inr rfl | exact bI_01 | exact c_cat | exact vt_ref | exact vt_null | rfl | with_reducible repeat (first | assumption | omega | apply S_I | apply S_L | apply S_D | apply ob_I | apply ob_L | apply ob_D | apply ob_R | apply ax_I | apply ax_L | apply ax_D | apply ax_R | apply o303 | apply o307 | apply o302 | apply o301 | apply ax304 | apply ax305 | apply ax306 | apply ax308 | apply ax309 | apply ax310 | apply lt_S | apply ar305 | apply ar308 | apply ar309)) only [g64_0, g64_1, g64_4, g64_7, g64_8, g64_11, g64_12, g64_15, g64_16, g64_17, g64_18, g64_21, g64_22, g64_25, g64_26, Option.toList, List.nil_append, List.cons_append, va_rf, nI_ltI, nI_leI, nI_eq, nI_add, nI_sub, nI_lt0, nI_e0, nI_m1, m1_nI, Nat.reduceEqDiff, Nat.reduceLT, Nat.reduceLeDiff, Nat.reduceAdd, Nat.reduceSub, Nat.reduceMul, ↓reduceIte, eq_self, nl, p0, Nat.add_sub_cancel, e1, isLg, bI_f]
theorem x_pushCopy {i : Nat} (S : am_S g) (N : NS g st) (hl : st.length < 1024) (hi : st[i]? = some v) : ∃ g', am_run (d + 1) 62 [some (.ref 12), some (.int (nI i))] g none g' ∧ NS g' (st ++ [v]) ∧ am_fr nsP g g' := by
  have li := (List.getElem?_eq_some_iff.mp hi).1
  have V := N.2 i v hi
  have kv := xn_ok V
  match v, V, kv with
  | .inl x, ⟨e1, e2⟩, _ =>
    obtain ⟨g', r1, N1, F1⟩ := x_pushL (d := d) (x := x) S N hl
    refine ⟨g', fun Q => ?_, N1, F1⟩
    simp (disch := first | with_reducible assumption | omega | exact Or.inl rfl | exact Or.inr rfl | exact bI_01 | exact c_cat | exact vt_ref | exact vt_null | rfl | with_reducible repeat (first | assumption | omega | apply S_I | apply S_L | apply S_D | apply ob_I | apply ob_L | apply ob_D | apply ob_R | apply ax_I | apply ax_L | apply ax_D | apply ax_R | apply o303 | apply o307 | apply o302 | apply o301 | apply ax304 | apply ax305 | apply ax306 | apply ax308 | apply ax309 | apply ax310 | apply lt_S | apply ar305 | apply ar308 | apply ar309)) only [g62_0, g62_1, g62_4, g62_5, g62_6, g62_9, g62_12, g62_13, g62_14, g62_17, g62_18, g62_19, g62_22, g62_23, g62_24, g62_27, g62_28, g62_29, g62_32, g62_35, g62_36, g62_37, g62_40, g62_41, g62_42, g62_45, Option.toList, List.nil_append, List.cons_append, va_rf, nI_ltI, nI_leI, nI_eq, nI_add, nI_sub, nI_lt0, nI_e0, nI_m1, m1_nI, Nat.reduceEqDiff, Nat.reduceLT, Nat.reduceLeDiff, Nat.reduceAdd, Nat.reduceSub, Nat.reduceMul, ↓reduceIte, eq_self, N.1, li, e1, e2, r1 _]
  | .inr y, ⟨e1, e2, _⟩, kv =>
    obtain ⟨g', r1, N1, F1⟩ := x_pushD (d := d) (x := y) S N hl kv
    refine ⟨g', fun Q => ?_, N1, F1⟩
    simp (disch := first | with_reducible assumption | omega | exact Or.inl rfl | exact Or.inr rfl | exact bI_01 | exact c_cat | exact vt_ref | exact vt_null | rfl | with_reducible repeat (first | assumption | omega | apply S_I | apply S_L | apply S_D | apply ob_I | apply ob_L | apply ob_D | apply ob_R | apply ax_I | apply ax_L | apply ax_D | apply ax_R | apply o303 | apply o307 | apply o302 | apply o301 | apply ax304 | apply ax305 | apply ax306 | apply ax308 | apply ax309 | apply ax310 | apply lt_S | apply ar305 | apply ar308 | apply ar309)) only [g62_0, g62_1, g62_4, g62_5, g62_6, g62_9, g62_12, g62_13, g62_14, g62_17, g62_18, g62_19, g62_22, g62_23, g62_24, g62_27, g62_28, g62_29, g62_32, g62_35, g62_36, g62_37, g62_40, g62_41, g62_42, g62_45, Option.toList, List.nil_append, List.cons_append, va_rf, nI_ltI, nI_leI, nI_eq, nI_add, nI_sub, nI_lt0, nI_e0, nI_m1, m1_nI, Nat.reduceEqDiff, Nat.reduceLT, Nat.reduceLeDiff, Nat.reduceAdd, Nat.reduceSub, Nat.reduceMul, ↓reduceIte, eq_self, N.1, li, e1, e2, r1 _]
theorem x_dropUnder (S : am_S g) (N : NS g (st ++ l ++ [v])) (hl : st.length + l.length < 1024) : ∃ g', am_run d 57 [some (.ref 12), some (.int (nI st.length)), none] g none g' ∧ NS g' (st ++ [v]) ∧ am_fr nsP g g' := by
  have V := NS_top N
  have nl := NS_len N
  rw [List.length_append] at V nl
  have N0 : NS (am_setI g 12 3 (nI st.length)) st := NS_cut (g := g) (l := l ++ [v]) (by rw [← List.append_assoc]; exact N) (fun i _ => ⟨rI_a (by decide), rfl, rfl⟩) rI_eq
  have b01 : am_I g 13 (st.length + l.length) = 0 ∨ am_I g 13 (st.length + l.length) = 1 := by
    match v, V with
    | .inl x, ⟨e1, _⟩ => exact Or.inl e1
    | .inr x, ⟨e1, _⟩ => exact Or.inr e1
  refine ⟨am_setI (am_setD (am_setL (am_setI g 13 st.length (am_I g 13 (st.length + l.length))) 14 st.length (am_L g 14 (st.length + l.length))) 15 st.length (am_D g 15 (st.length + l.length))) 12 3 (nI (st.length + 1)), fun Q => ?_, NS_push N0 (fun i hi => ⟨?_, ?_, ?_⟩) rI_eq ?_, fr_I (fr_D (fr_L (fr_I fr_refl (Or.inr (Or.inl rfl))) (Or.inr (Or.inr (Or.inl rfl)))) (Or.inr (Or.inr (Or.inr rfl)))) (Or.inl rfl)⟩
  · simp (disch := first | with_reducible assumption | omega | exact Or.inl rfl | exact Or.inr rfl | exact bI_01 | exact c_cat | exact vt_ref | exact vt_null | rfl | with_reducible repeat (first | assumption | omega | apply S_I | apply S_L | apply S_D | apply ob_I | apply ob_L | apply ob_D | apply ob_R | apply ax_I | apply ax_L | apply ax_D | apply ax_R | apply o303 | apply o307 | apply o302 | apply o301 | apply ax304 | apply ax305 | apply ax306 | apply ax308 | apply ax309 | apply ax310 | apply lt_S | apply ar305 | apply ar308 | apply ar309)) only [g57_0, g57_1, g57_4, g57_5, g57_6, g57_9, g57_12, g57_13, g57_14, g57_17, g57_18, g57_19, g57_20, g57_21, g57_24, g57_25, g57_26, g57_29, g57_30, g57_31, g57_32, g57_33, g57_36, g57_37, g57_38, g57_41, g57_42, g57_43, g57_44, g57_45, g57_48, g57_49, g57_50, g57_53, g57_54, g57_55, g57_56, g57_57, g57_58, g57_59, g57_60, g57_63, Option.toList, List.nil_append, List.cons_append, va_rf, nI_ltI, nI_leI, nI_eq, nI_add, nI_sub, nI_lt0, nI_e0, nI_m1, m1_nI, Nat.reduceEqDiff, Nat.reduceLT, Nat.reduceLeDiff, Nat.reduceAdd, Nat.reduceSub, Nat.reduceMul, ↓reduceIte, eq_self, hI_I, hI_L, hI_D, hI_R, hL_I, hL_L, hL_D, hL_R, hD_I, hD_L, hD_D, hD_R, hR_I, hR_L, hR_D, ↓reduceIte, Nat.reduceEqDiff, nl, show st.length < st.length + l.length + 1 by omega, Nat.add_sub_cancel]
  · rw [rI_a (by decide), hI_D, hI_L, rI_k (by omega), rI_a (by decide)]
  · rw [hL_I, hL_D, rL_k (by omega)]; rfl
  · rw [hD_I, rD_k (by omega)]; rfl
  · match v, V with
    | .inl x, ⟨e1, e2⟩ =>
      refine ⟨?_, ?_⟩
      · rw [rI_a (by decide), hI_D, hI_L, rI_eq]; exact e1
      · rw [hL_I, hL_D, rL_eq]; exact e2
    | .inr x, ⟨e1, e2, e3⟩ =>
      refine ⟨?_, ?_, e3⟩
      · rw [rI_a (by decide), hI_D, hI_L, rI_eq]; exact e1
      · rw [hD_I, rD_eq]; exact e2
theorem x_negate (S : am_S g) (N : NS g (st ++ [v])) (hl : st.length < 1024) : ∃ g', am_run (d + 2) 63 [some (.ref 12)] g none g' ∧ NS g' (st ++ [negV v]) ∧ am_fr nsP g g' := by
  have tl := x_topIsLong (d := d + 1) S N hl
  have V := NS_top N
  have S1 : am_S (am_setI g 12 3 (nI st.length)) := S
  match v, V with
  | .inl x, V =>
    obtain ⟨y, ey, r1, N1, F1⟩ := x_popL (d := d + 1) S N hl
    obtain rfl : x = y := Sum.inl.inj ey
    obtain ⟨g', r2, N2, F2⟩ := x_pushL (d := d + 1) (x := -x) S1 N1 hl
    refine ⟨g', fun Q => ?_, N2, fr_trans F1 F2⟩
    simp (disch := first | with_reducible assumption | omega | exact Or.inl rfl | exact Or.inr rfl | exact bI_01 | exact c_cat | exact vt_ref | exact vt_null | rfl | with_reducible repeat (first | assumption | omega | apply S_I | apply S_L | apply S_D | apply ob_I | apply ob_L | apply ob_D | apply ob_R | apply ax_I | apply ax_L | apply ax_D | apply ax_R | apply o303 | apply o307 | apply o302 | apply o301 | apply ax304 | apply ax305 | apply ax306 | apply ax308 | apply ax309 | apply ax310 | apply lt_S | apply ar305 | apply ar308 | apply ar309)) only [g63_0, g63_1, g63_4, g63_7, g63_8, g63_9, g63_12, g63_13, g63_16, g63_19, g63_20, g63_21, g63_24, g63_25, g63_28, Option.toList, List.nil_append, List.cons_append, va_rf, nI_ltI, nI_leI, nI_eq, nI_add, nI_sub, nI_lt0, nI_e0, nI_m1, m1_nI, Nat.reduceEqDiff, Nat.reduceLT, Nat.reduceLeDiff, Nat.reduceAdd, Nat.reduceSub, Nat.reduceMul, ↓reduceIte, eq_self, tl _, isLg, bI_t, r1 _, r2 _]
  | .inr x, ⟨e1, e2, e3⟩ =>
    obtain ⟨r1, N1, F1⟩ := x_popD (d := d) S N hl
    have kn : okD (Jvm.FP.dneg x) := by
      have t := Jvm.FP.val64_dneg x
      obtain ⟨s', c', q', ex⟩ := okD_fin e3
      rw [ex] at t
      exact okD_of ⟨_, c', q', t⟩
    obtain ⟨g', r2, N2, F2⟩ := x_pushD (d := d + 1) (x := Jvm.FP.dneg x) S1 N1 hl kn
    refine ⟨g', fun Q => ?_, N2, fr_trans F1 F2⟩
    simp (disch := first | with_reducible assumption | omega | exact Or.inl rfl | exact Or.inr rfl | exact bI_01 | exact c_cat | exact vt_ref | exact vt_null | rfl | with_reducible repeat (first | assumption | omega | apply S_I | apply S_L | apply S_D | apply ob_I | apply ob_L | apply ob_D | apply ob_R | apply ax_I | apply ax_L | apply ax_D | apply ax_R | apply o303 | apply o307 | apply o302 | apply o301 | apply ax304 | apply ax305 | apply ax306 | apply ax308 | apply ax309 | apply ax310 | apply lt_S | apply ar305 | apply ar308 | apply ar309)) only [g63_0, g63_1, g63_4, g63_7, g63_8, g63_9, g63_12, g63_13, g63_16, g63_19, g63_20, g63_21, g63_24, g63_25, g63_28, Option.toList, List.nil_append, List.cons_append, va_rf, nI_ltI, nI_leI, nI_eq, nI_add, nI_sub, nI_lt0, nI_e0, nI_m1, m1_nI, Nat.reduceEqDiff, Nat.reduceLT, Nat.reduceLeDiff, Nat.reduceAdd, Nat.reduceSub, Nat.reduceMul, ↓reduceIte, eq_self, tl _, isLg, bI_f, r1 _, vD, r2 _]
end XNU

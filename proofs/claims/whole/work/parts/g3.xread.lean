/-! THE CLASS: steps, reading a cell, atoms -/
/-- the cells as the class has them, where P holds -/
def cvX (h : am_H) (cv : Nat → Option (Option VL)) (P : Nat → Prop) : Prop := ∀ c, P c → c < 256 ∧ match cv c with
  | none => am_I h (22 + c) 0 = nI 0
  | some none => (∃ s, 3 ≤ s ∧ s ≤ 5 ∧ am_I h (22 + c) 0 = nI s) ∧ ∃ k, 1 ≤ k ∧ k ≤ 11 ∧ am_I h (22 + c) 4 = nI k
  | some (some (.inl x)) => am_I h (22 + c) 0 = nI 1 ∧ am_L h (22 + c) 1 = x
  | some (some (.inr y)) => am_I h (22 + c) 0 = nI 2 ∧ am_D h (22 + c) 2 = y ∧ okD y
/-- how it failed -/
def FLx (h g : am_H) (f : Nat ⊕ Nat) : Prop := match f with
  | .inl k => am_I g 9 13 = nI k ∧ 0 < k ∧ k < 12 ∧ am_R g 9 14 = none
  | .inr c => c < 256 ∧ am_R g 9 14 = some (22 + c) ∧ ∃ k, 1 ≤ k ∧ k ≤ 11 ∧ am_I h (22 + c) 4 = nI k ∧ am_I g 9 13 = nI k
section XRE
variable {h g g' : am_H} {o sa dp d c : Nat} {rr : Option Nat} {ts : List (Nat × Nat × Nat)} {σ : SR} {st : List VL} {cv : Nat → Option (Option VL)} {P : Nat → Prop}
theorem XS_step (A : XS h g o rr sa dp ts σ) : XS h (am_setI g 9 11 (nI (σ.1 - 1))) o rr sa dp ts (σ.1 - 1, σ.2) := by
  obtain ⟨a1, a2, a3, a4, a5, a6, a7, a8, a9, a10⟩ := A
  have hr := a10.2.2
  exact ⟨kp_I a1 (Or.inl ⟨rfl, by decide⟩), a2, ⟨(rI_k (by decide)).trans a3.1, fun i q hq => ⟨(rI_a (by decide)).trans (a3.2 i q hq).1, (rI_a (by decide)).trans (a3.2 i q hq).2.1, (rI_a (by decide)).trans (a3.2 i q hq).2.2⟩⟩, (rI_k (by decide)).trans a4, rI_eq, Nat.le_trans (Nat.sub_le _ _) a6, (rI_k (by decide)).trans a7, a8, a9, RDx_keep a10 (fun j _ => rI_a (by omega)) rfl (fun _ _ => rfl) (Nat.le_refl _) (fun b q j => rI_a (by have := (hr.2.2 b q).1; omega))⟩
theorem x_tookStep (A : XS h g o rr sa dp ts σ) (c : σ.1 ≠ 0) : am_run d 37 [some (.ref 9)] g (some (.int (nI 1))) (am_setI g 9 11 (nI (σ.1 - 1))) := fun Q => by
  obtain ⟨-, S, -, -, e, l, -⟩ := A
  simp (disch := first | with_reducible assumption | omega | exact Or.inl rfl | exact Or.inr rfl | exact bI_01 | exact c_cat | exact vt_ref | exact vt_null | rfl | with_reducible repeat (first | assumption | omega | apply S_I | apply S_L | apply S_D | apply ob_I | apply ob_L | apply ob_D | apply ob_R | apply ax_I | apply ax_L | apply ax_D | apply ax_R | apply o303 | apply o307 | apply o302 | apply o301 | apply ax304 | apply ax305 | apply ax306 | apply ax308 | apply ax309 | apply ax310 | apply lt_S | apply ar305 | apply ar308 | apply ar309)) only [g37_0, g37_1, g37_4, g37_5, g37_8, g37_9, g37_11, g37_14, g37_15, g37_16, g37_17, g37_18, g37_21, g37_22, g37_23, g37_26, g37_27, Option.toList, List.nil_append, List.cons_append, va_rf, nI_ltI, nI_leI, nI_eq, nI_add, nI_sub, nI_lt0, nI_e0, nI_m1, m1_nI, Nat.reduceEqDiff, Nat.reduceLT, Nat.reduceLeDiff, Nat.reduceAdd, Nat.reduceSub, Nat.reduceMul, ↓reduceIte, eq_self, e, show 1 ≤ σ.1 by omega]
theorem x_tookStepN (A : XS h g o rr sa dp ts σ) (c : σ.1 = 0) : am_run d 37 [some (.ref 9)] g (some (.int (nI 0))) (am_setI g 9 13 (nI 8)) := fun Q => by
  obtain ⟨-, S, -, -, e, l, -⟩ := A
  rw [c] at e
  simp (disch := first | with_reducible assumption | omega | exact Or.inl rfl | exact Or.inr rfl | exact bI_01 | exact c_cat | exact vt_ref | exact vt_null | rfl | with_reducible repeat (first | assumption | omega | apply S_I | apply S_L | apply S_D | apply ob_I | apply ob_L | apply ob_D | apply ob_R | apply ax_I | apply ax_L | apply ax_D | apply ax_R | apply o303 | apply o307 | apply o302 | apply o301 | apply ax304 | apply ax305 | apply ax306 | apply ax308 | apply ax309 | apply ax310 | apply lt_S | apply ar305 | apply ar308 | apply ar309)) only [g37_0, g37_1, g37_4, g37_5, g37_8, g37_9, g37_11, g37_14, g37_15, g37_16, g37_17, g37_18, g37_21, g37_22, g37_23, g37_26, g37_27, Option.toList, List.nil_append, List.cons_append, va_rf, nI_ltI, nI_leI, nI_eq, nI_add, nI_sub, nI_lt0, nI_e0, nI_m1, m1_nI, Nat.reduceEqDiff, Nat.reduceLT, Nat.reduceLeDiff, Nat.reduceAdd, Nat.reduceSub, Nat.reduceMul, ↓reduceIte, eq_self, e]
abbrev arP (o : Nat) (rr : Option Nat) : Nat → Prop := fun z => z = o ∨ rr = some z
theorem x_addRead (A : XS h g o rr sa dp ts σ) (ho : o < 278 ∨ 299 < o) : ∃ g', am_run d 5 [some (.ref o), some (.int (nI c))] g none g' ∧ XS h g' o rr sa dp ts (σ.1, σ.2 ++ [c]) ∧ am_fr (arP o rr) g g' ∧ ∀ k, k ≠ 9 → am_I g' o k = am_I g o k := by
  obtain ⟨a1, a2, a3, a4, a5, a6, a7, a8, a9, a10⟩ := A
  obtain ⟨b1, b2, b3, b4, b5⟩ := a10
  match hrr : rr with
  | none =>
    refine ⟨g, fun Q => ?_, ⟨a1, a2, a3, a4, a5, a6, a7, a8, a9, b1, b2, b3, b4, fun a q => by cases q⟩, fr_refl, fun _ _ => rfl⟩
    simp (disch := first | with_reducible assumption | omega | exact Or.inl rfl | exact Or.inr rfl | exact bI_01 | exact c_cat | exact vt_ref | exact vt_null | rfl | with_reducible repeat (first | assumption | omega | apply S_I | apply S_L | apply S_D | apply ob_I | apply ob_L | apply ob_D | apply ob_R | apply ax_I | apply ax_L | apply ax_D | apply ax_R | apply o303 | apply o307 | apply o302 | apply o301 | apply ax304 | apply ax305 | apply ax306 | apply ax308 | apply ax309 | apply ax310 | apply lt_S | apply ar305 | apply ar308 | apply ar309)) only [g5_0, g5_1, g5_4, g5_4r, g5_4n, g5_7, g5_8, g5_11, g5_13, g5_16, g5_17, g5_20, g5_21, g5_24, g5_25, g5_26, g5_27, g5_28, g5_31, g5_32, g5_33, g5_36, Option.toList, List.nil_append, List.cons_append, va_rf, nI_ltI, nI_leI, nI_eq, nI_add, nI_sub, nI_lt0, nI_e0, nI_m1, m1_nI, Nat.reduceEqDiff, Nat.reduceLT, Nat.reduceLeDiff, Nat.reduceAdd, Nat.reduceSub, Nat.reduceMul, ↓reduceIte, eq_self, b1]
  | some a =>
    obtain ⟨c1, c2, c3, c4, c5⟩ := b5 a rfl
    have h4 : 4 ≤ o := by omega
    by_cases cl : σ.2.length < 24
    · have e1 : min 24 σ.2.length = σ.2.length := by omega
      rw [e1] at c4
      have X : am_ax g a 100 σ.2.length := ax_of c2 c3 cl (by omega)
      have h4a : 4 ≤ a := by omega
      have oa : o ≠ a := by omega
      have F : am_fr (arP o (some a)) g (am_setI (am_setI g a σ.2.length (nI c)) o 9 (nI (σ.2.length + 1))) := fr_I (fr_I fr_refl (Or.inr rfl)) (Or.inl rfl)
      have n0 : ∀ z, z < 349 → z ≠ o → ¬ arP o (some a) z := fun z h1 h2 q => by
        rcases q with q | q
        · exact h2 q
        · have := Option.some.inj q; omega
      refine ⟨am_setI (am_setI g a σ.2.length (nI c)) o 9 (nI (σ.2.length + 1)), fun Q => ?_, ⟨kp_I (kp_I a1 (Or.inr (Or.inr (Or.inr (Or.inr (Or.inr rfl)))))) (Or.inr (Or.inr (Or.inr (Or.inr (Or.inl ⟨rfl, rfl⟩))))), a2, ⟨(fr_rdI F (n0 9 (by decide) (by omega))).trans a3.1, fun i q hq => ⟨(fr_rdI F (n0 17 (by decide) (by omega))).trans (a3.2 i q hq).1, (fr_rdI F (n0 18 (by decide) (by omega))).trans (a3.2 i q hq).2.1, (fr_rdI F (n0 19 (by decide) (by omega))).trans (a3.2 i q hq).2.2⟩⟩, (fr_rdI F (n0 9 (by decide) (by omega))).trans a4, (fr_rdI F (n0 9 (by decide) (by omega))).trans a5, a6, (fr_rdI F (n0 9 (by decide) (by omega))).trans a7, a8, a9, b1, b2, b3, b4, fun a' q => ?_⟩, F, fun k hk => by rw [rI_k hk, rI_a oa]⟩
      · simp (disch := first | with_reducible assumption | omega | exact Or.inl rfl | exact Or.inr rfl | exact bI_01 | exact c_cat | exact vt_ref | exact vt_null | rfl | with_reducible repeat (first | assumption | omega | apply S_I | apply S_L | apply S_D | apply ob_I | apply ob_L | apply ob_D | apply ob_R | apply ax_I | apply ax_L | apply ax_D | apply ax_R | apply o303 | apply o307 | apply o302 | apply o301 | apply ax304 | apply ax305 | apply ax306 | apply ax308 | apply ax309 | apply ax310 | apply lt_S | apply ar305 | apply ar308 | apply ar309)) only [g5_0, g5_1, g5_4, g5_4r, g5_4n, g5_7, g5_8, g5_11, g5_13, g5_16, g5_17, g5_20, g5_21, g5_24, g5_25, g5_26, g5_27, g5_28, g5_31, g5_32, g5_33, g5_36, Option.toList, List.nil_append, List.cons_append, va_rf, nI_ltI, nI_leI, nI_eq, nI_add, nI_sub, nI_lt0, nI_e0, nI_m1, m1_nI, Nat.reduceEqDiff, Nat.reduceLT, Nat.reduceLeDiff, Nat.reduceAdd, Nat.reduceSub, Nat.reduceMul, ↓reduceIte, eq_self, hI_I, hI_L, hI_D, hI_R, hL_I, hL_L, hL_D, hL_R, hD_I, hD_L, hD_D, hD_R, hR_I, hR_L, hR_D, ↓reduceIte, Nat.reduceEqDiff, b1, c4, show ¬ 24 ≤ σ.2.length by omega, oa, reduceCtorEq]
      · obtain rfl : a = a' := Option.some.inj q
        refine ⟨c1, c2, c3, ?_, fun i h1 h2 => ?_⟩
        · show _ = nI (min 24 (σ.2 ++ [c]).length)
          rw [rI_eq, List.length_append]
          show nI (σ.2.length + 1) = nI (min 24 (σ.2.length + 1))
          congr 1; omega
        · show _ = nI ((σ.2 ++ [c]).getD i 0)
          rw [rI_a (fun q => oa q.symm)]
          have h2 : i < (σ.2 ++ [c]).length := h2
          rw [List.length_append, List.length_cons, List.length_nil] at h2
          by_cases ci : i < σ.2.length
          · rw [rI_k (by omega), c5 i h1 ci, List.getD_eq_getElem?_getD, List.getD_eq_getElem?_getD, List.getElem?_append_left ci]
          · obtain rfl : i = σ.2.length := by omega
            rw [rI_eq, List.getD_eq_getElem?_getD, List.getElem?_append_right (Nat.le_refl _), Nat.sub_self]
            rfl
    · have e1 : min 24 σ.2.length = 24 := by omega
      rw [e1] at c4
      refine ⟨g, fun Q => ?_, ⟨a1, a2, a3, a4, a5, a6, a7, a8, a9, b1, b2, b3, b4, fun a' q => ?_⟩, fr_refl, fun _ _ => rfl⟩
      · simp (disch := first | with_reducible assumption | omega | exact Or.inl rfl | exact Or.inr rfl | exact bI_01 | exact c_cat | exact vt_ref | exact vt_null | rfl | with_reducible repeat (first | assumption | omega | apply S_I | apply S_L | apply S_D | apply ob_I | apply ob_L | apply ob_D | apply ob_R | apply ax_I | apply ax_L | apply ax_D | apply ax_R | apply o303 | apply o307 | apply o302 | apply o301 | apply ax304 | apply ax305 | apply ax306 | apply ax308 | apply ax309 | apply ax310 | apply lt_S | apply ar305 | apply ar308 | apply ar309)) only [g5_0, g5_1, g5_4, g5_4r, g5_4n, g5_7, g5_8, g5_11, g5_13, g5_16, g5_17, g5_20, g5_21, g5_24, g5_25, g5_26, g5_27, g5_28, g5_31, g5_32, g5_33, g5_36, Option.toList, List.nil_append, List.cons_append, va_rf, nI_ltI, nI_leI, nI_eq, nI_add, nI_sub, nI_lt0, nI_e0, nI_m1, m1_nI, Nat.reduceEqDiff, Nat.reduceLT, Nat.reduceLeDiff, Nat.reduceAdd, Nat.reduceSub, Nat.reduceMul, ↓reduceIte, eq_self, b1, c4, reduceCtorEq]
      · obtain rfl : a = a' := Option.some.inj q
        refine ⟨c1, c2, c3, ?_, fun i h1 h2 => ?_⟩
        · show _ = nI (min 24 (σ.2 ++ [c]).length)
          rw [c4, List.length_append]
          congr 1; omega
        · show _ = nI ((σ.2 ++ [c]).getD i 0)
          rw [c5 i h1 (by omega), List.getD_eq_getElem?_getD, List.getD_eq_getElem?_getD, List.getElem?_append_left (by omega)]
/-- all frames stand -/
def FA (g g' : am_H) : Prop := ∀ a, 278 ≤ a → a ≤ 299 → ∀ k, am_I g' a k = am_I g a k ∧ am_D g' a k = am_D g a k ∧ am_R g' a k = am_R g a k
theorem FA_fr {P : Nat → Prop} (F : am_fr P g g') (hP : ∀ a, P a → a < 278 ∨ 299 < a) : FA g g' := fun a h1 h2 k => ⟨fr_rdI F (fun q => by have := hP a q; omega), fr_rdD F (fun q => by have := hP a q; omega), fr_rdR F⟩
theorem FA_refl : FA g g := fun _ _ _ _ => ⟨rfl, rfl, rfl⟩
theorem FA_trans {g2 : am_H} (A : FA g g') (B : FA g' g2) : FA g g2 := fun a h1 h2 k => ⟨(B a h1 h2 k).1.trans (A a h1 h2 k).1, (B a h1 h2 k).2.1.trans (A a h1 h2 k).2.1, (B a h1 h2 k).2.2.trans (A a h1 h2 k).2.2⟩
theorem FA_K (A : FA g g') (hd : dp < 22) : FK g g' dp := ⟨fun j hj k => A (278 + j) (by omega) (by omega) k, fun k => ⟨fun _ => (A (278 + dp) (by omega) (by omega) k).1, (A (278 + dp) (by omega) (by omega) k).2.1, (A (278 + dp) (by omega) (by omega) k).2.2⟩⟩
theorem XS_R14 {x : Option Nat} (A : XS h g o rr sa dp ts σ) : XS h (am_setR g 9 14 x) o rr sa dp ts σ := by
  obtain ⟨a1, a2, a3, a4, a5, a6, a7, a8, a9, a10⟩ := A
  have b3 := a10.2.2.1
  refine ⟨kp_R a1 (Or.inl ⟨rfl, by decide⟩), S_Rg a2 (Or.inr (Or.inr (Or.inl ⟨rfl, by decide⟩))), a3, a4, a5, a6, a7, ?_, ?_, RDx_keep a10 (fun _ _ => rfl) ?_ (fun _ _ => rfl) (Nat.le_refl _) (fun _ _ _ => rfl)⟩
  · rw [hR_R, if_pos rfl, if_neg (by decide)]; exact a8
  · rw [hR_R, if_pos rfl, if_neg (by decide)]; exact a9
  · rw [hR_R, if_neg (by omega)]
theorem x_readCell (ps : Bool) (h4 : 402 ≤ h.1) (A : XS h g o rr sa dp ts σ) (ho : o < 278 ∨ 299 < o) (N : NS g st) (hl : st.length < 1024) (Z : KZ g) (C : cvX h cv P) (hc : P c) :
    ∃ g' b, am_run (d + 2) 42 [some (.ref 9), some (.int (nI c)), some (.int (bI ps)), none] g (some (.int (bI b))) g' ∧ XS h g' o rr sa dp ts (σ.1, σ.2 ++ [c]) ∧ FA g g' ∧ (∀ v, rdR cv c ps = some (.inl v) → b = true ∧ NS g' (st ++ [v]) ∧ KZ g' ∧ okV v) ∧ (∀ f, rdR cv c ps = some (.inr f) → b = false ∧ NS g' st ∧ FLx h g' f) ∧ (rdR cv c ps = none → b = false ∧ NS g' st ∧ KZ g') ∧ ∀ j, am_D g' 20 j = am_D g 20 j ∧ am_D g' 21 j = am_D g 21 j := by
  obtain ⟨hc2, hv⟩ := C c hc
  have S := A.2.1
  have a8 := A.2.2.2.2.2.2.2.1
  obtain ⟨-, oo, o1, o2, oR⟩ := A.2.2.2.2.2.2.2.2.2
  obtain ⟨g1, r1, A1, F1, e1⟩ := x_addRead (d := d + 1) (c := c) A ho
  have S1 := A1.2.1
  have kp1 := A1.1
  have np : ∀ k, k ≠ 9 → ¬ xmP o rr (22 + c) k := fun k hk q => by
    rcases q with q | q | q | q | q | q
    · omega
    · omega
    · omega
    · omega
    · omega
    · have := (oR _ q).1; omega
  have hlt : 22 + c < h.1 := by omega
  have rd := fun k (hk : k ≠ 9) => kp1.2.2 (22 + c) k hlt (np k hk)
  have nP : ∀ a, arP o rr a → (a < 278 ∨ 299 < a) ∧ a ≠ 9 ∧ ¬ (12 ≤ a ∧ a ≤ 15) := fun a q => by
    rcases q with q | q
    · omega
    · have := (oR a q).1; omega
  have FA1 : FA g g1 := FA_fr F1 (fun a q => (nP a q).1)
  have N1 : NS g1 st := NS_fr F1 (fun q => (nP _ q).2.2 (by decide)) (fun q => (nP _ q).2.2 (by decide)) (fun q => (nP _ q).2.2 (by decide)) (fun q => (nP _ q).2.2 (by decide)) N
  have Z1 : KZ g1 := KZ_fr F1 (fun q => (nP _ q).2.1 rfl) Z
  have Oc := o22 S1 hc2
  have d01 : ∀ j, am_D g1 20 j = am_D g 20 j ∧ am_D g1 21 j = am_D g 21 j := fun j => ⟨fr_rdD F1 (fun q => by rcases q with q | q; (· omega); (· have := (oR _ q).1; omega)), fr_rdD F1 (fun q => by rcases q with q | q; (· omega); (· have := (oR _ q).1; omega))⟩
  unfold rdR
  match hcv : cv c with
  | none =>
    rw [hcv] at hv
    have s0 : am_I g1 (22 + c) 0 = nI 0 := (rd 0 (by decide)).1.trans hv
    have br : ∀ Q, am_J (d + 1) 6 0 [some (.ref (22 + c))] [] g1 Q ↔ Q (some (.int (nI 0))) g1 := fun Q => by
      simp (disch := first | with_reducible assumption | omega | exact Or.inl rfl | exact Or.inr rfl | exact bI_01 | exact c_cat | exact vt_ref | exact vt_null | rfl | with_reducible repeat (first | assumption | omega | apply S_I | apply S_L | apply S_D | apply ob_I | apply ob_L | apply ob_D | apply ob_R | apply ax_I | apply ax_L | apply ax_D | apply ax_R | apply o303 | apply o307 | apply o302 | apply o301 | apply ax304 | apply ax305 | apply ax306 | apply ax308 | apply ax309 | apply ax310 | apply lt_S | apply ar305 | apply ar308 | apply ar309)) only [g6_0, g6_1, g6_4, g6_5, g6_8, g6_9, g6_12, g6_13, g6_16, g6_17, g6_20, g6_21, g6_24, g6_25, g6_28, g6_29, nI_ltI, nI_leI, nI_eq, nI_add, nI_sub, nI_lt0, nI_e0, nI_m1, m1_nI, Nat.reduceEqDiff, Nat.reduceLT, Nat.reduceLeDiff, Nat.reduceAdd, Nat.reduceSub, Nat.reduceMul, ↓reduceIte, eq_self, s0]
    cases ps with
    | true =>
      refine ⟨g1, false, fun Q => ?_, A1, FA1, fun v q => (by cases q), fun f q => (by cases q), fun _ => ⟨rfl, N1, Z1⟩, d01⟩
      simp (disch := first | with_reducible assumption | omega | exact Or.inl rfl | exact Or.inr rfl | exact bI_01 | exact c_cat | exact vt_ref | exact vt_null | rfl | with_reducible repeat (first | assumption | omega | apply S_I | apply S_L | apply S_D | apply ob_I | apply ob_L | apply ob_D | apply ob_R | apply ax_I | apply ax_L | apply ax_D | apply ax_R | apply o303 | apply o307 | apply o302 | apply o301 | apply ax304 | apply ax305 | apply ax306 | apply ax308 | apply ax309 | apply ax310 | apply lt_S | apply ar305 | apply ar308 | apply ar309)) only [g42_0, g42_1, g42_4, g42_7, g42_8, g42_9, g42_10, g42_13, g42_14, g42_17, g42_18, g42_21, g42_22, g42_23, g42_24, g42_25, g42_28, g42_29, g42_32, g42_33, g42_36, g42_37, g42_40, g42_43, g42_44, g42_45, g42_46, g42_49, g42_50, g42_53, g42_54, g42_57, g42_58, g42_61, g42_64, g42_65, g42_66, g42_67, g42_70, g42_73, g42_74, g42_75, g42_75r, g42_75n, g42_78, g42_79, g42_80, g42_83, g42_86, g42_89, g42_90, g42_93, g42_94, g42_95, g42_98, g42_99, Option.toList, List.nil_append, List.cons_append, va_rf, x_noCellN hc2, nI_ltI, nI_leI, nI_eq, nI_add, nI_sub, nI_lt0, nI_e0, nI_m1, m1_nI, Nat.reduceEqDiff, Nat.reduceLT, Nat.reduceLeDiff, Nat.reduceAdd, Nat.reduceSub, Nat.reduceMul, ↓reduceIte, eq_self, a8, r1 _, s0, br _, bI_t, bI_f]
    | false =>
      refine ⟨am_setI g1 9 13 (nI 3), false, fun Q => ?_, XS_I A1 (Or.inl ⟨rfl, rfl⟩) ho, FA_trans FA1 (FA_fr (P := fun a => a = 9) (fr_I fr_refl rfl) (fun a q => by omega)), fun v q => (by cases q), fun f q => ?_, fun q => (by cases q), d01⟩
      · simp (disch := first | with_reducible assumption | omega | exact Or.inl rfl | exact Or.inr rfl | exact bI_01 | exact c_cat | exact vt_ref | exact vt_null | rfl | with_reducible repeat (first | assumption | omega | apply S_I | apply S_L | apply S_D | apply ob_I | apply ob_L | apply ob_D | apply ob_R | apply ax_I | apply ax_L | apply ax_D | apply ax_R | apply o303 | apply o307 | apply o302 | apply o301 | apply ax304 | apply ax305 | apply ax306 | apply ax308 | apply ax309 | apply ax310 | apply lt_S | apply ar305 | apply ar308 | apply ar309)) only [g42_0, g42_1, g42_4, g42_7, g42_8, g42_9, g42_10, g42_13, g42_14, g42_17, g42_18, g42_21, g42_22, g42_23, g42_24, g42_25, g42_28, g42_29, g42_32, g42_33, g42_36, g42_37, g42_40, g42_43, g42_44, g42_45, g42_46, g42_49, g42_50, g42_53, g42_54, g42_57, g42_58, g42_61, g42_64, g42_65, g42_66, g42_67, g42_70, g42_73, g42_74, g42_75, g42_75r, g42_75n, g42_78, g42_79, g42_80, g42_83, g42_86, g42_89, g42_90, g42_93, g42_94, g42_95, g42_98, g42_99, Option.toList, List.nil_append, List.cons_append, va_rf, x_noCellN hc2, nI_ltI, nI_leI, nI_eq, nI_add, nI_sub, nI_lt0, nI_e0, nI_m1, m1_nI, Nat.reduceEqDiff, Nat.reduceLT, Nat.reduceLeDiff, Nat.reduceAdd, Nat.reduceSub, Nat.reduceMul, ↓reduceIte, eq_self, a8, r1 _, s0, br _, bI_f]
      · obtain rfl : .inl 3 = f := Sum.inr.inj (Option.some.inj q)
        exact ⟨rfl, NS_fr (P := fun a => a = 9) (fr_I fr_refl rfl) (by decide) (by decide) (by decide) (by decide) N1, rI_eq, by decide, by decide, Z1.2⟩
  | some none =>
    rw [hcv] at hv
    obtain ⟨⟨s, s3, s5, hs⟩, k, k1, k2, hk⟩ := hv
    have s0 : am_I g1 (22 + c) 0 = nI s := (rd 0 (by decide)).1.trans hs
    have k0 : am_I g1 (22 + c) 4 = nI k := (rd 4 (by decide)).1.trans hk
    have br : ∀ Q, am_J (d + 1) 6 0 [some (.ref (22 + c))] [] g1 Q ↔ Q (some (.int (nI 1))) g1 := fun Q => by
      rcases (show s = 3 ∨ s = 4 ∨ s = 5 by omega) with rfl | rfl | rfl <;> simp (disch := first | with_reducible assumption | omega | exact Or.inl rfl | exact Or.inr rfl | exact bI_01 | exact c_cat | exact vt_ref | exact vt_null | rfl | with_reducible repeat (first | assumption | omega | apply S_I | apply S_L | apply S_D | apply ob_I | apply ob_L | apply ob_D | apply ob_R | apply ax_I | apply ax_L | apply ax_D | apply ax_R | apply o303 | apply o307 | apply o302 | apply o301 | apply ax304 | apply ax305 | apply ax306 | apply ax308 | apply ax309 | apply ax310 | apply lt_S | apply ar305 | apply ar308 | apply ar309)) only [g6_0, g6_1, g6_4, g6_5, g6_8, g6_9, g6_12, g6_13, g6_16, g6_17, g6_20, g6_21, g6_24, g6_25, g6_28, g6_29, nI_ltI, nI_leI, nI_eq, nI_add, nI_sub, nI_lt0, nI_e0, nI_m1, m1_nI, Nat.reduceEqDiff, Nat.reduceLT, Nat.reduceLeDiff, Nat.reduceAdd, Nat.reduceSub, Nat.reduceMul, ↓reduceIte, eq_self, s0]
    have A2 := XS_R14 (x := some (22 + c)) A1
    have S2 := A2.2.1
    have O2 := o22 S2 hc2
    refine ⟨am_setI (am_setR g1 9 14 (some (22 + c))) 9 13 (nI k), false, fun Q => ?_, XS_I A2 (Or.inl ⟨rfl, rfl⟩) ho, FA_trans FA1 (fun a h1 h2 j => ⟨by rw [rI_a (by omega)]; rfl, rfl, by rw [hR_I, hR_R, if_neg (by omega)]⟩), fun v q => (by cases q), fun f q => ?_, fun q => (by cases q), d01⟩
    · have k0' : am_I (am_setR g1 9 14 (some (22 + c))) (22 + c) 4 = nI k := k0
      simp (disch := first | with_reducible assumption | omega | exact Or.inl rfl | exact Or.inr rfl | exact bI_01 | exact c_cat | exact vt_ref | exact vt_null | rfl | with_reducible repeat (first | assumption | omega | apply S_I | apply S_L | apply S_D | apply ob_I | apply ob_L | apply ob_D | apply ob_R | apply ax_I | apply ax_L | apply ax_D | apply ax_R | apply o303 | apply o307 | apply o302 | apply o301 | apply ax304 | apply ax305 | apply ax306 | apply ax308 | apply ax309 | apply ax310 | apply lt_S | apply ar305 | apply ar308 | apply ar309)) only [g42_0, g42_1, g42_4, g42_7, g42_8, g42_9, g42_10, g42_13, g42_14, g42_17, g42_18, g42_21, g42_22, g42_23, g42_24, g42_25, g42_28, g42_29, g42_32, g42_33, g42_36, g42_37, g42_40, g42_43, g42_44, g42_45, g42_46, g42_49, g42_50, g42_53, g42_54, g42_57, g42_58, g42_61, g42_64, g42_65, g42_66, g42_67, g42_70, g42_73, g42_74, g42_75, g42_75r, g42_75n, g42_78, g42_79, g42_80, g42_83, g42_86, g42_89, g42_90, g42_93, g42_94, g42_95, g42_98, g42_99, Option.toList, List.nil_append, List.cons_append, va_rf, x_noCellN hc2, nI_ltI, nI_leI, nI_eq, nI_add, nI_sub, nI_lt0, nI_e0, nI_m1, m1_nI, Nat.reduceEqDiff, Nat.reduceLT, Nat.reduceLeDiff, Nat.reduceAdd, Nat.reduceSub, Nat.reduceMul, ↓reduceIte, eq_self, a8, r1 _, s0, br _, k0', bI_f, show ¬ s = 1 by omega, show ¬ s = 2 by omega]
    · obtain rfl : .inr c = f := Sum.inr.inj (Option.some.inj q)
      refine ⟨rfl, ⟨?_, fun i v hv => ?_⟩, hc2, ?_, k, k1, k2, hk, rI_eq⟩
      · rw [rI_a (by decide)]; exact N1.1
      · exact xn_keep (by rw [rI_a (by decide)]) rfl rfl (N1.2 i v hv)
      · rw [hR_I, hR_R, if_pos rfl, if_pos rfl]
  | some (some (.inl x)) =>
    rw [hcv] at hv
    obtain ⟨w1, w2⟩ := hv
    have s0 : am_I g1 (22 + c) 0 = nI 1 := (rd 0 (by decide)).1.trans w1
    have f1 : am_L g1 (22 + c) 1 = x := ((rd 1 (by decide)).2.1 (by omega)).trans w2
    obtain ⟨g2, r2, N2, F2⟩ := x_pushL (d := d + 1) (x := x) S1 N1 hl
    refine ⟨g2, true, fun Q => ?_, XS_num A1 F2, FA_trans FA1 (FA_fr F2 (fun a q => by omega)), fun v q => ?_, fun f q => (by cases q), fun q => (by cases q), fun j => ⟨(fr_rdD F2 (by decide)).trans (d01 j).1, (fr_rdD F2 (by decide)).trans (d01 j).2⟩⟩
    · simp (disch := first | with_reducible assumption | omega | exact Or.inl rfl | exact Or.inr rfl | exact bI_01 | exact c_cat | exact vt_ref | exact vt_null | rfl | with_reducible repeat (first | assumption | omega | apply S_I | apply S_L | apply S_D | apply ob_I | apply ob_L | apply ob_D | apply ob_R | apply ax_I | apply ax_L | apply ax_D | apply ax_R | apply o303 | apply o307 | apply o302 | apply o301 | apply ax304 | apply ax305 | apply ax306 | apply ax308 | apply ax309 | apply ax310 | apply lt_S | apply ar305 | apply ar308 | apply ar309)) only [g42_0, g42_1, g42_4, g42_7, g42_8, g42_9, g42_10, g42_13, g42_14, g42_17, g42_18, g42_21, g42_22, g42_23, g42_24, g42_25, g42_28, g42_29, g42_32, g42_33, g42_36, g42_37, g42_40, g42_43, g42_44, g42_45, g42_46, g42_49, g42_50, g42_53, g42_54, g42_57, g42_58, g42_61, g42_64, g42_65, g42_66, g42_67, g42_70, g42_73, g42_74, g42_75, g42_75r, g42_75n, g42_78, g42_79, g42_80, g42_83, g42_86, g42_89, g42_90, g42_93, g42_94, g42_95, g42_98, g42_99, Option.toList, List.nil_append, List.cons_append, va_rf, x_noCellN hc2, nI_ltI, nI_leI, nI_eq, nI_add, nI_sub, nI_lt0, nI_e0, nI_m1, m1_nI, Nat.reduceEqDiff, Nat.reduceLT, Nat.reduceLeDiff, Nat.reduceAdd, Nat.reduceSub, Nat.reduceMul, ↓reduceIte, eq_self, a8, r1 _, s0, f1, r2 _, bI_t]
    · obtain rfl : .inl x = v := Sum.inl.inj (Option.some.inj q)
      exact ⟨rfl, N2, KZ_fr F2 (by decide) Z1, trivial⟩
  | some (some (.inr y)) =>
    rw [hcv] at hv
    obtain ⟨w1, w2, w3⟩ := hv
    have s0 : am_I g1 (22 + c) 0 = nI 2 := (rd 0 (by decide)).1.trans w1
    have f1 : am_D g1 (22 + c) 2 = y := ((rd 2 (by decide)).2.2.1 (by omega) (by omega)).trans w2
    obtain ⟨g2, r2, N2, F2⟩ := x_pushD (d := d + 1) (x := y) S1 N1 hl w3
    refine ⟨g2, true, fun Q => ?_, XS_num A1 F2, FA_trans FA1 (FA_fr F2 (fun a q => by omega)), fun v q => ?_, fun f q => (by cases q), fun q => (by cases q), fun j => ⟨(fr_rdD F2 (by decide)).trans (d01 j).1, (fr_rdD F2 (by decide)).trans (d01 j).2⟩⟩
    · simp (disch := first | with_reducible assumption | omega | exact Or.inl rfl | exact Or.inr rfl | exact bI_01 | exact c_cat | exact vt_ref | exact vt_null | rfl | with_reducible repeat (first | assumption | omega | apply S_I | apply S_L | apply S_D | apply ob_I | apply ob_L | apply ob_D | apply ob_R | apply ax_I | apply ax_L | apply ax_D | apply ax_R | apply o303 | apply o307 | apply o302 | apply o301 | apply ax304 | apply ax305 | apply ax306 | apply ax308 | apply ax309 | apply ax310 | apply lt_S | apply ar305 | apply ar308 | apply ar309)) only [g42_0, g42_1, g42_4, g42_7, g42_8, g42_9, g42_10, g42_13, g42_14, g42_17, g42_18, g42_21, g42_22, g42_23, g42_24, g42_25, g42_28, g42_29, g42_32, g42_33, g42_36, g42_37, g42_40, g42_43, g42_44, g42_45, g42_46, g42_49, g42_50, g42_53, g42_54, g42_57, g42_58, g42_61, g42_64, g42_65, g42_66, g42_67, g42_70, g42_73, g42_74, g42_75, g42_75r, g42_75n, g42_78, g42_79, g42_80, g42_83, g42_86, g42_89, g42_90, g42_93, g42_94, g42_95, g42_98, g42_99, Option.toList, List.nil_append, List.cons_append, va_rf, x_noCellN hc2, nI_ltI, nI_leI, nI_eq, nI_add, nI_sub, nI_lt0, nI_e0, nI_m1, m1_nI, Nat.reduceEqDiff, Nat.reduceLT, Nat.reduceLeDiff, Nat.reduceAdd, Nat.reduceSub, Nat.reduceMul, ↓reduceIte, eq_self, a8, r1 _, s0, f1, r2 _, bI_t]
    · obtain rfl : .inr y = v := Sum.inl.inj (Option.some.inj q)
      exact ⟨rfl, N2, KZ_fr F2 (by decide) Z1, w3⟩
end XRE

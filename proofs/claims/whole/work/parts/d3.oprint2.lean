/-! THE OPERATION print, on the invariant -/
section OPR
variable {d q : Nat} {h g : am_H} {x : Int32}
/-- only OUT has changed -/
theorem Inv_O (I : Inv q h) (K : kp (fun a k => a = 7 ∨ a = 8 ∨ (a = 349 ∧ k = 3) ∨ a = 351) h g) (S : am_S g) (G : am_Gv g) (M : iM q g) (O : iO g) : Inv q g := by
  obtain ⟨a1, a2, a3, a4, a5, a6, a7⟩ := Inv_iff.mp I
  have h4 := a1.1
  refine Inv_iff.mpr ⟨S, G, iT_kp K h4 (fun a k hf => by omega) a3, O, iF_kp K h4 (fun a k hf => by omega) a5, M, iK_kp K h4 (fun a k hf => ?_) a7⟩
  unfold ffK ffG at hf
  omega
theorem tb_fr {P : Nat → Prop} (F : am_fr P h g) (h1 : ¬ P 352) (h2 : ¬ P 353) (h3 : ¬ P 354) (h4 : ¬ P 355) (h5 : ¬ P 357) (b : Nat) : tb h b = tb g b := by
  funext i
  unfold tb
  rw [fr_rdI F h1, fr_rdI F h2, fr_rdI F h3, fr_rdI F h4, fr_rdL F h5]
theorem o_print (I : Inv q h) : ∃ r h1 h2, am_run (d + 2) 151 [some (.ref 4), some (.int x), none] h (some (.int r)) h1 ∧ am_run (d + 1000) 174 [some (.ref 349), some (.int x)] h1 (some (.int r)) h2 ∧ Inv q h2 := by
  obtain ⟨S, G, -, -, -, -, -, -, M, nf, fe, fX, fM, fA, nc, ce, cX, cM, cd, lab, N_, C_, E_, -, -⟩ := id I
  by_cases hx : isCl x
  · obtain ⟨c, hc, rfl⟩ := hx
    have O := o22 S hc
    obtain ⟨st, -, -, -, -, -, -, -, -, aN, aS⟩ := E_ c hc
    have n64 : ¬ nI 64 = 0 := by decide
    match hcd : cd c with
    | none =>
      obtain ⟨n1, n2, -⟩ := aN hcd
      refine ⟨-3, h, h, fun Q => ?_, fun Q => ?_, I⟩
      · simp (disch := first | with_reducible assumption | omega | exact Or.inl rfl | exact Or.inr rfl | exact bI_01 | exact c_cat | exact vt_ref | exact vt_null | rfl | with_reducible repeat (first | assumption | omega | apply S_I | apply S_L | apply S_D | apply ob_I | apply ob_L | apply ob_D | apply ob_R | apply ax_I | apply ax_L | apply ax_D | apply ax_R | apply o303 | apply o307 | apply o302 | apply o301 | apply ax304 | apply ax305 | apply ax306 | apply ax308 | apply ax309 | apply ax310 | apply lt_S | apply ar305 | apply ar308 | apply ar309)) only [g151_0, g151_1, g151_4, g151_7, g151_8, g151_9, g151_10, g151_13, g151_14, g151_15, g151_18, g151_19, g151_20, g151_20r, g151_20n, g151_23, g151_25, g151_26, g151_27, g151_30, g151_31, g151_34, g151_37, g151_38, g151_41, g151_44, Option.toList, List.nil_append, List.cons_append, va_rf, x_noCellN hc, nI_ltI, nI_leI, nI_eq, nI_add, nI_sub, nI_lt0, nI_e0, nI_m1, m1_nI, Nat.reduceEqDiff, Nat.reduceLT, Nat.reduceLeDiff, Nat.reduceAdd, Nat.reduceSub, Nat.reduceMul, ↓reduceIte, eq_self, n1]
      · simp (disch := first | with_reducible assumption | omega | exact Or.inl rfl | exact Or.inr rfl | exact bI_01 | exact c_cat | exact vt_ref | exact vt_null | rfl | with_reducible repeat (first | assumption | omega | apply S_I | apply S_L | apply S_D | apply ob_I | apply ob_L | apply ob_D | apply ob_R | apply ax_I | apply ax_L | apply ax_D | apply ax_R | apply o303 | apply o307 | apply o302 | apply o301 | apply ax304 | apply ax305 | apply ax306 | apply ax308 | apply ax309 | apply ax310 | apply lt_S | apply ar305 | apply ar308 | apply ar309)) only [g174_0, g174_1, g174_4, g174_7, g174_8, g174_9, g174_10, g174_13, g174_14, g174_15, g174_16, g174_19, g174_21, g174_22, g174_23, g174_24, g174_27, g174_28, g174_29, g174_32, g174_33, g174_34, g174_35, g174_37, g174_38, g174_39, g174_42, g174_43, g174_46, g174_47, g174_48, g174_49, g174_52, g174_53, g174_56, Option.toList, List.nil_append, List.cons_append, va_rf, m_isCell1 hc, nI_ltI, nI_leI, nI_eq, nI_add, nI_sub, nI_lt0, nI_e0, nI_m1, m1_nI, Nat.reduceEqDiff, Nat.reduceLT, Nat.reduceLeDiff, Nat.reduceAdd, Nat.reduceSub, Nat.reduceMul, ↓reduceIte, eq_self, n2]
    | some (e, s) =>
      obtain ⟨z1, z2, z3, -, -, -, -, -, L, G', D, E, k, m, r, k40, mk, rm, hR, -, C, er, em⟩ := aS e s hcd
      obtain ⟨q1, q2, t0, t1, t2, t3, t4, t5, t6, r4, r0, r1, r2, r5, r3, i5, i1, i6, i7, i8, v1, v2, v3, v4, b1, b2, b3⟩ := C
      rw [List.length_map] at t5 i1 b2
      have Oe : am_ob h e 1 := ⟨by omega, by rw [t0]⟩
      have Oe4 : am_ob h (e + 4) 10 := ⟨by omega, by rw [t4]⟩
      have ncs := C_ (c / 64) (by omega)
      have nc5 := ncs.1
      have z9 : 2 * (k + 410) + 8 ≤ 910 := Nat.add_le_add_right (Nat.mul_le_mul_left 2 (show k + 410 ≤ 451 from Nat.add_le_add_right (Nat.le_trans k40 (by decide)) 410)) 8
      have key : ∀ g, am_fr (fun a => a = 7 ∨ a = 8) h g → ∀ d, 910 ≤ d → Pt d s (c / 64) g (nI r) E := fun g F d hd => by
        refine m_putNode (M := m) (fr_S F S) (Gv_fr F (by decide) (by decide) (by decide) G) (by omega) (by omega) (by omega) (tb_fr F (by decide) (by decide) (by decide) (by decide) (by decide) _) (by omega) (fun j hj => ?_) (fun f a a1 a3 hf => ?_) (k + 410) r D E L G' hR d (Nat.le_trans z9 hd)
        · obtain ⟨w1, w2, w3, w4, -⟩ := ncs.2.2.2.2.2.2.2.2.2 j (by omega)
          obtain ⟨v, hv, e1⟩ := NM_lt w4
          exact ⟨v, hv, by rw [fr_rdL F (by decide), w3, e1], by unfold pNC; rw [e1]⟩
        · unfold pFK at hf ⊢
          by_cases c1 : (4 * f + a) / 4 < nf ∧ fA ((4 * f + a) / 4) = (4 * f + a) % 4
          · rw [show (4 * f + a) / 4 = f by omega] at c1 ⊢
            obtain ⟨w1, w2, w3, w4, w5, w6, -⟩ := N_.2.2.2.2.2 f c1.1
            obtain ⟨v, hv, e1⟩ := NM_lt w6
            have := N_.1
            exact ⟨by omega, v, hv, by rw [fr_rdL F (by decide), w4, e1], by rw [if_pos c1, e1]⟩
          · rw [if_neg c1] at hf
            exact absurd rfl hf
      obtain ⟨g0, -, W0⟩ := key h fr_refl 910 (Nat.le_refl _) (am_setI h 349 3 (nI 0)) 0 (fr_I fr_refl (Or.inl rfl)) rI_eq (by omega)
      have okE := W0.2
      have O7 : am_ob h 7 10 := am_S_ob S (by decide +kernel)
      have R7 : am_R h 7 0 = some 8 := am_S_rf S (by decide +kernel)
      have T8 : am_tg h 8 = (103, 400) := by rw [am_S_tg S (by decide) (by decide)]; decide +kernel
      have vE : ∀ i y, E[i]? = some y → am_I h (e + 5) i = nI y := fun i y hy => v2 i (nI y) (by rw [List.getElem?_map, hy]; rfl)
      obtain ⟨g, x1, F1, y1, y2, y3, y4, y5⟩ := x_become (d := d) (m := E.length) O7 (by decide) R7 (by decide) T8 (am_S_lt S (by decide)) Oe4 r5 t5 (by omega) b2 (Nat.le_refl _) (by decide) (by omega) (by omega) (by omega) (by decide) (by omega) (by omega) i1 (fun i hi => by
        rw [vE i E[i] (List.getElem?_eq_getElem hi)]
        exact by8_nI _ (okE _ (List.getElem_mem hi)).2)
      have Sg := fr_S F1 S
      have S1 : am_S (am_setI g 349 3 (nI 0)) := Sg
      obtain ⟨g2, x2, W2⟩ := key g F1 (d + 999) (Nat.le_trans (show 910 ≤ 999 by decide) (Nat.le_add_left 999 d)) (am_setI g 349 3 (nI 0)) 0 (fr_I fr_refl (Or.inl rfl)) rI_eq (by omega)
      have F2 : am_fr pF2 g g2 := fr_trans (fr_I fr_refl (Or.inl rfl)) W2.1.1
      have S2 := fr_S F2 Sg
      have z2g : am_I g 369 c = nI s := (fr_rdI F1 (by decide)).trans z2
      have erg : am_I g 356 s = nI r := (fr_rdI F1 (by decide)).trans er
      have l2 : am_I g2 349 3 = nI E.length := by have := OB_e W2; rwa [Nat.zero_add] at this
      refine ⟨nI E.length, g, g2, fun Q => ?_, fun Q => ?_, Inv_O I (kp_trans (kp_fr F1 (fun a k ha => by omega)) (kp_349 F2 (fun a k _ ha => by omega) (fun k hk => ?_))) S2 (Gv_fr F2 (by decide) (by decide) (by decide) (Gv_fr F1 (by decide) (by decide) (by decide) G)) ?_ ⟨E, b2, okE, (fr_rdI F2 (by decide)).trans y1, l2, fun i y hy => ⟨?_, ?_⟩⟩⟩
      · simp (disch := first | with_reducible assumption | omega | exact Or.inl rfl | exact Or.inr rfl | exact bI_01 | exact c_cat | exact vt_ref | exact vt_null | rfl | with_reducible repeat (first | assumption | omega | apply S_I | apply S_L | apply S_D | apply ob_I | apply ob_L | apply ob_D | apply ob_R | apply ax_I | apply ax_L | apply ax_D | apply ax_R | apply o303 | apply o307 | apply o302 | apply o301 | apply ax304 | apply ax305 | apply ax306 | apply ax308 | apply ax309 | apply ax310 | apply lt_S | apply ar305 | apply ar308 | apply ar309)) only [g151_0, g151_1, g151_4, g151_7, g151_8, g151_9, g151_10, g151_13, g151_14, g151_15, g151_18, g151_19, g151_20, g151_20r, g151_20n, g151_23, g151_25, g151_26, g151_27, g151_30, g151_31, g151_34, g151_37, g151_38, g151_41, g151_44, Option.toList, List.nil_append, List.cons_append, va_rf, x_noCellN hc, nI_ltI, nI_leI, nI_eq, nI_add, nI_sub, nI_lt0, nI_e0, nI_m1, m1_nI, Nat.reduceEqDiff, Nat.reduceLT, Nat.reduceLeDiff, Nat.reduceAdd, Nat.reduceSub, Nat.reduceMul, ↓reduceIte, eq_self, z1, r2, x1 _, y1]
      · simp (disch := first | with_reducible assumption | omega | exact Or.inl rfl | exact Or.inr rfl | exact bI_01 | exact c_cat | exact vt_ref | exact vt_null | rfl | with_reducible repeat (first | assumption | omega | apply S_I | apply S_L | apply S_D | apply ob_I | apply ob_L | apply ob_D | apply ob_R | apply ax_I | apply ax_L | apply ax_D | apply ax_R | apply o303 | apply o307 | apply o302 | apply o301 | apply ax304 | apply ax305 | apply ax306 | apply ax308 | apply ax309 | apply ax310 | apply lt_S | apply ar305 | apply ar308 | apply ar309)) only [g174_0, g174_1, g174_4, g174_7, g174_8, g174_9, g174_10, g174_13, g174_14, g174_15, g174_16, g174_19, g174_21, g174_22, g174_23, g174_24, g174_27, g174_28, g174_29, g174_32, g174_33, g174_34, g174_35, g174_37, g174_38, g174_39, g174_42, g174_43, g174_46, g174_47, g174_48, g174_49, g174_52, g174_53, g174_56, Option.toList, List.nil_append, List.cons_append, va_rf, m_isCell1 hc, nI_ltI, nI_leI, nI_eq, nI_add, nI_sub, nI_lt0, nI_e0, nI_m1, m1_nI, Nat.reduceEqDiff, Nat.reduceLT, Nat.reduceLeDiff, Nat.reduceAdd, Nat.reduceSub, Nat.reduceMul, ↓reduceIte, eq_self, nI_div, hI_I, hI_L, hI_D, hI_R, hL_I, hL_L, hL_D, hL_R, hD_I, hD_L, hD_D, hD_R, hR_I, hR_L, hR_D, ↓reduceIte, Nat.reduceEqDiff, z2g, erg, x2 _, l2]
      · rw [W2.1.2.1 k (by omega), rI_k (by omega)]
      · exact ⟨by rw [F2.1, F1.1]; exact M.1, by rw [F2.2.1, F1.2.1]; exact M.2⟩
      · have hi := (List.getElem?_eq_some_iff.mp hy).1
        rw [fr_rdI F2 (by decide), y3 i, if_pos hi]
        exact vE i y hy
      · have := W2.1.2.2.2.2 i y hy
        rwa [Nat.zero_add] at this
  · refine ⟨-1, h, h, fun Q => ?_, fun Q => ?_, I⟩
    · simp (disch := first | with_reducible assumption | omega | exact Or.inl rfl | exact Or.inr rfl | exact bI_01 | exact c_cat | exact vt_ref | exact vt_null | rfl | with_reducible repeat (first | assumption | omega | apply S_I | apply S_L | apply S_D | apply ob_I | apply ob_L | apply ob_D | apply ob_R | apply ax_I | apply ax_L | apply ax_D | apply ax_R | apply o303 | apply o307 | apply o302 | apply o301 | apply ax304 | apply ax305 | apply ax306 | apply ax308 | apply ax309 | apply ax310 | apply lt_S | apply ar305 | apply ar308 | apply ar309)) only [g151_0, g151_1, g151_4, g151_7, g151_8, g151_9, g151_10, g151_13, g151_14, g151_15, g151_18, g151_19, g151_20, g151_20r, g151_20n, g151_23, g151_25, g151_26, g151_27, g151_30, g151_31, g151_34, g151_37, g151_38, g151_41, g151_44, Option.toList, List.nil_append, List.cons_append, va_rf, x_noCell1 hx, nI_ltI, nI_leI, nI_eq, nI_add, nI_sub, nI_lt0, nI_e0, nI_m1, m1_nI, Nat.reduceEqDiff, Nat.reduceLT, Nat.reduceLeDiff, Nat.reduceAdd, Nat.reduceSub, Nat.reduceMul, ↓reduceIte, eq_self]
    · simp (disch := first | with_reducible assumption | omega | exact Or.inl rfl | exact Or.inr rfl | exact bI_01 | exact c_cat | exact vt_ref | exact vt_null | rfl | with_reducible repeat (first | assumption | omega | apply S_I | apply S_L | apply S_D | apply ob_I | apply ob_L | apply ob_D | apply ob_R | apply ax_I | apply ax_L | apply ax_D | apply ax_R | apply o303 | apply o307 | apply o302 | apply o301 | apply ax304 | apply ax305 | apply ax306 | apply ax308 | apply ax309 | apply ax310 | apply lt_S | apply ar305 | apply ar308 | apply ar309)) only [g174_0, g174_1, g174_4, g174_7, g174_8, g174_9, g174_10, g174_13, g174_14, g174_15, g174_16, g174_19, g174_21, g174_22, g174_23, g174_24, g174_27, g174_28, g174_29, g174_32, g174_33, g174_34, g174_35, g174_37, g174_38, g174_39, g174_42, g174_43, g174_46, g174_47, g174_48, g174_49, g174_52, g174_53, g174_56, Option.toList, List.nil_append, List.cons_append, va_rf, m_isCell0 hx, nI_ltI, nI_leI, nI_eq, nI_add, nI_sub, nI_lt0, nI_e0, nI_m1, m1_nI, Nat.reduceEqDiff, Nat.reduceLT, Nat.reduceLeDiff, Nat.reduceAdd, Nat.reduceSub, Nat.reduceMul, ↓reduceIte, eq_self]
end OPR

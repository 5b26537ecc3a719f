/-! THE OPERATIONS needs and neededBy -/
/-- what the class keeps as the needs of a code -/
def CN (h : am_H) (e : Nat) (N : List Nat) : Prop := 402 ≤ e ∧ e + 7 ≤ h.1 ∧ am_tg h e = (1, 0) ∧ am_R h e 3 = some (e + 6) ∧ am_I h e 6 = nI N.length ∧ am_tg h (e + 6) = (100, N.length) ∧ (∀ i c, N[i]? = some c → am_I h (e + 6) i = nI c) ∧ am_R h e 4 = some (e + 1) ∧ am_tg h (e + 1) = (101, 4) ∧ (∀ c, c < 256 → (am_L h (e + 1) (c / 64)).toBitVec.getLsbD (c % 64) = decide (c ∈ N)) ∧ N.length ≤ 256
/-- the needs of cell c, on both sides -/
def Nds (h : am_H) (c : Nat) (N : List Nat) : Prop := MNd h c N ∧ ((am_R h (22 + c) 3 = none ∧ am_I h 369 c = -1 ∧ N = []) ∨ ∃ e s, am_R h (22 + c) 3 = some e ∧ s < 48 ∧ am_I h 369 c = nI s ∧ CN h e N)
/-- the i-th of the cells of which p holds -/
def sN (p : Nat → Bool) : Nat → Nat → Nat → Int32
  | _, 0, _ => -1
  | l, r + 1, c => if p c = true then (if l = 0 then nI c else sN p (l - 1) r (c + 1)) else sN p l r (c + 1)
theorem ge0_neg {y : Int32} (h : y < 0) : ((0 : Int32) ≤ y) = False := eq_false (fun q => by
  rw [Int32.lt_iff_toInt_lt] at h
  rw [Int32.le_iff_toInt_le] at q
  omega)
theorem ge0_nI {w : Nat} (h : w < 2 ^ 31) : ((0 : Int32) ≤ nI w) = True := eq_true (by
  rw [Int32.le_iff_toInt_le, nI_toInt h]
  show (0 : Int) ≤ _
  omega)
section OND
variable {d q : Nat} {h g : am_H} {x y : Int32} {nf : Nat} {fM : Nat → Int64} {fA : Nat → Nat} {nc : Nat → Nat} {cM : Nat → Nat → Int64} {cd : Nat → Option (Nat × Nat)} {lab : Nat → Option Nat}
theorem nds_of {c : Nat} (E : iE h c nf fM fA nc cM cd lab) : ∃ N, Nds h c N := by
  obtain ⟨st, -, -, -, -, -, -, -, -, aN, aS⟩ := E
  match hcd : cd c with
  | none =>
    obtain ⟨n1, n2, -⟩ := aN hcd
    exact ⟨[], Or.inl ⟨n2, rfl⟩, Or.inl ⟨n1, n2, rfl⟩⟩
  | some (e, s) =>
    obtain ⟨z1, z2, z3, -, -, -, -, -, L, G', D, E, k, m, r, k40, mk, rm, hR, -, C, er, em⟩ := aS e s hcd
    obtain ⟨q1, q2, t0, t1, t2, t3, t4, t5, t6, r4, r0, r1, r2, r5, r3, i5, i1, i6, i7, i8, v1, v2, v3, v4, b1, b2, b3⟩ := C
    exact ⟨L.foldl nadd [], Or.inr ⟨s, r, k + 410, _, m, _, _, _, D, E, L, G', by omega, by omega, by omega, z2, er, hR, rfl⟩, Or.inr ⟨e, s, z1, z3, z2, q1, q2, t0, r3, i6, t6, v3, r4, t1, v4, b3⟩⟩
/-- only the list of needs has changed -/
theorem Inv_N (I : Inv q h) (K : kp (fun a k => (a = 349 ∧ k = 83) ∨ a = 390 ∨ a = 398) h g) (S : am_S g) (G : am_Gv g) (M : iM q g) : Inv q g := by
  obtain ⟨a1, a2, a3, a4, a5, a6, a7⟩ := Inv_iff.mp I
  have h4 := a1.1
  refine Inv_iff.mpr ⟨S, G, iT_kp K h4 (fun a k hf => by omega) a3, iO_kp K h4 (fun a k hf => by omega) a4, iF_kp K h4 (fun a k hf => by omega) a5, M, iK_kp K h4 (fun a k hf => ?_) a7⟩
  unfold ffK ffG at hf
  omega
theorem NL_Inv {N : List Nat} (I : Inv q h) (A : NL h g N) : Inv q g := by
  have F := A.1
  refine Inv_N I (kp_349 F (fun a k _ ha => by omega) (fun k hk => A.2.1 k (by omega))) (fr_S F I.1) (Gv_fr F (by decide) (by decide) (by decide) I.2.1) ?_
  obtain ⟨-, -, -, -, -, -, -, -, M, -⟩ := I
  exact ⟨by rw [F.1]; exact M.1, by rw [F.2.1]; exact M.2⟩
theorem Nds_fr {P : Nat → Prop} {c : Nat} {N : List Nat} (F : am_fr P h g) (hc : c < 256) (h0 : ∀ a, P a → 349 ≤ a ∧ a < 402 ∧ ¬ (352 ≤ a ∧ a ≤ 357) ∧ a ≠ 369) (A : Nds h c N) : Nds g c N := by
  have np : ∀ a, (a < 349 ∨ 402 ≤ a ∨ (352 ≤ a ∧ a ≤ 357) ∨ a = 369) → ¬ P a := fun a ha q => by
    have := h0 a q
    omega
  obtain ⟨a1, a2⟩ := A
  refine ⟨MNd_fr F (np _ (by omega)) (np _ (by omega)) (np _ (by omega)) (np _ (by omega)) (np _ (by omega)) (np _ (by omega)) (np _ (by omega)) a1, ?_⟩
  rcases a2 with ⟨b1, b2, b3⟩ | ⟨e, s, b1, b2, b3, c0, c1, c2, c3, c4, c5, c6, c7, c8, c9, c10⟩
  · exact Or.inl ⟨(fr_rdR F).trans b1, (fr_rdI F (np _ (by omega))).trans b2, b3⟩
  · exact Or.inr ⟨e, s, (fr_rdR F).trans b1, b2, (fr_rdI F (np _ (by omega))).trans b3, c0, by rw [F.1]; exact c1, (fr_tg F).trans c2, (fr_rdR F).trans c3, (fr_rdI F (np _ (by omega))).trans c4, (fr_tg F).trans c5, fun i x hx => (fr_rdI F (np _ (by omega))).trans (c6 i x hx), (fr_rdR F).trans c7, (fr_tg F).trans c8, fun x hx => by rw [fr_rdL F (np _ (by omega))]; exact c9 x hx, c10⟩
theorem o_needs (I : Inv q h) : ∃ r h1 h2, am_run (d + 1) 163 [some (.ref 4), some (.int x), some (.int y), none] h (some (.int r)) h1 ∧ am_run (d + 461) 272 [some (.ref 349), some (.int x), some (.int y)] h1 (some (.int r)) h2 ∧ Inv q h2 := by
  obtain ⟨S, G, -, -, -, -, -, -, M, nf, fe, fX, fM, fA, nc, ce, cX, cM, cd, lab, -, -, E_, -, -⟩ := id I
  by_cases hx : isCl x
  · obtain ⟨c, hc, rfl⟩ := hx
    have O := o22 S hc
    obtain ⟨N, A, B⟩ := nds_of (E_ c hc)
    rcases i_cases y with hn | ⟨w, hw, rfl⟩
    · refine ⟨-1, h, h, fun Q => ?_, fun Q => ?_, I⟩
      · rcases B with ⟨b1, b2, b3⟩ | ⟨e, s, b1, b2, b3, c0, c1, c2, c3, c4, c5, c6, -⟩
        · simp (disch := first | with_reducible assumption | omega | exact Or.inl rfl | exact Or.inr rfl | exact bI_01 | exact c_cat | exact vt_ref | exact vt_null | rfl | with_reducible repeat (first | assumption | omega | apply S_I | apply S_L | apply S_D | apply ob_I | apply ob_L | apply ob_D | apply ob_R | apply ax_I | apply ax_L | apply ax_D | apply ax_R | apply o303 | apply o307 | apply o302 | apply o301 | apply ax304 | apply ax305 | apply ax306 | apply ax308 | apply ax309 | apply ax310 | apply lt_S | apply ar305 | apply ar308 | apply ar309)) only [g163_0, g163_1, g163_4, g163_7, g163_8, g163_9, g163_10, g163_13, g163_14, g163_15, g163_18, g163_19, g163_20, g163_20r, g163_20n, g163_23, g163_24, g163_27, g163_28, g163_29, g163_32, g163_35, g163_36, g163_37, g163_38, g163_41, g163_42, g163_43, Option.toList, List.nil_append, List.cons_append, va_rf, x_noCellN hc, nI_ltI, nI_leI, nI_eq, nI_add, nI_sub, nI_lt0, nI_e0, nI_m1, m1_nI, Nat.reduceEqDiff, Nat.reduceLT, Nat.reduceLeDiff, Nat.reduceAdd, Nat.reduceSub, Nat.reduceMul, ↓reduceIte, eq_self, b1]
        · have Oe : am_ob h e 1 := ⟨by omega, by rw [c2]⟩
          simp (disch := first | with_reducible assumption | omega | exact Or.inl rfl | exact Or.inr rfl | exact bI_01 | exact c_cat | exact vt_ref | exact vt_null | rfl | with_reducible repeat (first | assumption | omega | apply S_I | apply S_L | apply S_D | apply ob_I | apply ob_L | apply ob_D | apply ob_R | apply ax_I | apply ax_L | apply ax_D | apply ax_R | apply o303 | apply o307 | apply o302 | apply o301 | apply ax304 | apply ax305 | apply ax306 | apply ax308 | apply ax309 | apply ax310 | apply lt_S | apply ar305 | apply ar308 | apply ar309)) only [g163_0, g163_1, g163_4, g163_7, g163_8, g163_9, g163_10, g163_13, g163_14, g163_15, g163_18, g163_19, g163_20, g163_20r, g163_20n, g163_23, g163_24, g163_27, g163_28, g163_29, g163_32, g163_35, g163_36, g163_37, g163_38, g163_41, g163_42, g163_43, Option.toList, List.nil_append, List.cons_append, va_rf, x_noCellN hc, nI_ltI, nI_leI, nI_eq, nI_add, nI_sub, nI_lt0, nI_e0, nI_m1, m1_nI, Nat.reduceEqDiff, Nat.reduceLT, Nat.reduceLeDiff, Nat.reduceAdd, Nat.reduceSub, Nat.reduceMul, ↓reduceIte, eq_self, b1, hn]
      · simp (disch := first | with_reducible assumption | omega | exact Or.inl rfl | exact Or.inr rfl | exact bI_01 | exact c_cat | exact vt_ref | exact vt_null | rfl | with_reducible repeat (first | assumption | omega | apply S_I | apply S_L | apply S_D | apply ob_I | apply ob_L | apply ob_D | apply ob_R | apply ax_I | apply ax_L | apply ax_D | apply ax_R | apply o303 | apply o307 | apply o302 | apply o301 | apply ax304 | apply ax305 | apply ax306 | apply ax308 | apply ax309 | apply ax310 | apply lt_S | apply ar305 | apply ar308 | apply ar309)) only [g272_0, g272_1, g272_4, g272_7, g272_8, g272_11, g272_12, g272_13, g272_14, g272_15, g272_18, g272_19, g272_20, g272_23, g272_26, g272_27, g272_30, g272_31, g272_32, g272_35, g272_36, Option.toList, List.nil_append, List.cons_append, va_rf, m_isCell1 hc, nI_ltI, nI_leI, nI_eq, nI_add, nI_sub, nI_lt0, nI_e0, nI_m1, m1_nI, Nat.reduceEqDiff, Nat.reduceLT, Nat.reduceLeDiff, Nat.reduceAdd, Nat.reduceSub, Nat.reduceMul, ↓reduceIte, eq_self, ge0_neg hn]
    · obtain ⟨g, r1, K⟩ := m_listNeeds (d := d) S hc A
      have Sg := fr_S K.1 S
      have e1 := K.2.2.1
      by_cases cw : w < N.length
      · have cN := K.2.2.2.1 w N[w] (List.getElem?_eq_getElem cw)
        refine ⟨nI N[w], h, g, fun Q => ?_, fun Q => ?_, NL_Inv I K⟩
        · rcases B with ⟨b1, b2, b3⟩ | ⟨e, s, b1, b2, b3, c0, c1, c2, c3, c4, c5, c6, -, -, -, c10⟩
          · subst b3; exact absurd cw (Nat.not_lt_zero _)
          · have Oe : am_ob h e 1 := ⟨by omega, by rw [c2]⟩
            have X : am_ax h (e + 6) 100 w := ax_of (by omega) c5 cw (by omega)
            have c6' := c6 w N[w] (List.getElem?_eq_getElem cw)
            simp (disch := first | with_reducible assumption | omega | exact Or.inl rfl | exact Or.inr rfl | exact bI_01 | exact c_cat | exact vt_ref | exact vt_null | rfl | with_reducible repeat (first | assumption | omega | apply S_I | apply S_L | apply S_D | apply ob_I | apply ob_L | apply ob_D | apply ob_R | apply ax_I | apply ax_L | apply ax_D | apply ax_R | apply o303 | apply o307 | apply o302 | apply o301 | apply ax304 | apply ax305 | apply ax306 | apply ax308 | apply ax309 | apply ax310 | apply lt_S | apply ar305 | apply ar308 | apply ar309)) only [g163_0, g163_1, g163_4, g163_7, g163_8, g163_9, g163_10, g163_13, g163_14, g163_15, g163_18, g163_19, g163_20, g163_20r, g163_20n, g163_23, g163_24, g163_27, g163_28, g163_29, g163_32, g163_35, g163_36, g163_37, g163_38, g163_41, g163_42, g163_43, Option.toList, List.nil_append, List.cons_append, va_rf, x_noCellN hc, nI_ltI, nI_leI, nI_eq, nI_add, nI_sub, nI_lt0, nI_e0, nI_m1, m1_nI, Nat.reduceEqDiff, Nat.reduceLT, Nat.reduceLeDiff, Nat.reduceAdd, Nat.reduceSub, Nat.reduceMul, ↓reduceIte, eq_self, b1, c3, c4, cw, c6']
        · have l256 := nodup_le 256 N K.2.2.2.2.2.1 K.2.2.2.2.2.2
          simp (disch := first | with_reducible assumption | omega | exact Or.inl rfl | exact Or.inr rfl | exact bI_01 | exact c_cat | exact vt_ref | exact vt_null | rfl | with_reducible repeat (first | assumption | omega | apply S_I | apply S_L | apply S_D | apply ob_I | apply ob_L | apply ob_D | apply ob_R | apply ax_I | apply ax_L | apply ax_D | apply ax_R | apply o303 | apply o307 | apply o302 | apply o301 | apply ax304 | apply ax305 | apply ax306 | apply ax308 | apply ax309 | apply ax310 | apply lt_S | apply ar305 | apply ar308 | apply ar309)) only [g272_0, g272_1, g272_4, g272_7, g272_8, g272_11, g272_12, g272_13, g272_14, g272_15, g272_18, g272_19, g272_20, g272_23, g272_26, g272_27, g272_30, g272_31, g272_32, g272_35, g272_36, Option.toList, List.nil_append, List.cons_append, va_rf, m_isCell1 hc, nI_ltI, nI_leI, nI_eq, nI_add, nI_sub, nI_lt0, nI_e0, nI_m1, m1_nI, Nat.reduceEqDiff, Nat.reduceLT, Nat.reduceLeDiff, Nat.reduceAdd, Nat.reduceSub, Nat.reduceMul, ↓reduceIte, eq_self, ge0_nI hw, r1 _, e1, show ¬ N.length ≤ w by omega, cN]
      · refine ⟨-1, h, g, fun Q => ?_, fun Q => ?_, NL_Inv I K⟩
        · rcases B with ⟨b1, b2, b3⟩ | ⟨e, s, b1, b2, b3, c0, c1, c2, c3, c4, c5, c6, -, -, -, c10⟩
          · simp (disch := first | with_reducible assumption | omega | exact Or.inl rfl | exact Or.inr rfl | exact bI_01 | exact c_cat | exact vt_ref | exact vt_null | rfl | with_reducible repeat (first | assumption | omega | apply S_I | apply S_L | apply S_D | apply ob_I | apply ob_L | apply ob_D | apply ob_R | apply ax_I | apply ax_L | apply ax_D | apply ax_R | apply o303 | apply o307 | apply o302 | apply o301 | apply ax304 | apply ax305 | apply ax306 | apply ax308 | apply ax309 | apply ax310 | apply lt_S | apply ar305 | apply ar308 | apply ar309)) only [g163_0, g163_1, g163_4, g163_7, g163_8, g163_9, g163_10, g163_13, g163_14, g163_15, g163_18, g163_19, g163_20, g163_20r, g163_20n, g163_23, g163_24, g163_27, g163_28, g163_29, g163_32, g163_35, g163_36, g163_37, g163_38, g163_41, g163_42, g163_43, Option.toList, List.nil_append, List.cons_append, va_rf, x_noCellN hc, nI_ltI, nI_leI, nI_eq, nI_add, nI_sub, nI_lt0, nI_e0, nI_m1, m1_nI, Nat.reduceEqDiff, Nat.reduceLT, Nat.reduceLeDiff, Nat.reduceAdd, Nat.reduceSub, Nat.reduceMul, ↓reduceIte, eq_self, b1]
          · have Oe : am_ob h e 1 := ⟨by omega, by rw [c2]⟩
            simp (disch := first | with_reducible assumption | omega | exact Or.inl rfl | exact Or.inr rfl | exact bI_01 | exact c_cat | exact vt_ref | exact vt_null | rfl | with_reducible repeat (first | assumption | omega | apply S_I | apply S_L | apply S_D | apply ob_I | apply ob_L | apply ob_D | apply ob_R | apply ax_I | apply ax_L | apply ax_D | apply ax_R | apply o303 | apply o307 | apply o302 | apply o301 | apply ax304 | apply ax305 | apply ax306 | apply ax308 | apply ax309 | apply ax310 | apply lt_S | apply ar305 | apply ar308 | apply ar309)) only [g163_0, g163_1, g163_4, g163_7, g163_8, g163_9, g163_10, g163_13, g163_14, g163_15, g163_18, g163_19, g163_20, g163_20r, g163_20n, g163_23, g163_24, g163_27, g163_28, g163_29, g163_32, g163_35, g163_36, g163_37, g163_38, g163_41, g163_42, g163_43, Option.toList, List.nil_append, List.cons_append, va_rf, x_noCellN hc, nI_ltI, nI_leI, nI_eq, nI_add, nI_sub, nI_lt0, nI_e0, nI_m1, m1_nI, Nat.reduceEqDiff, Nat.reduceLT, Nat.reduceLeDiff, Nat.reduceAdd, Nat.reduceSub, Nat.reduceMul, ↓reduceIte, eq_self, b1, c3, c4, cw]
        · have l256 := nodup_le 256 N K.2.2.2.2.2.1 K.2.2.2.2.2.2
          simp (disch := first | with_reducible assumption | omega | exact Or.inl rfl | exact Or.inr rfl | exact bI_01 | exact c_cat | exact vt_ref | exact vt_null | rfl | with_reducible repeat (first | assumption | omega | apply S_I | apply S_L | apply S_D | apply ob_I | apply ob_L | apply ob_D | apply ob_R | apply ax_I | apply ax_L | apply ax_D | apply ax_R | apply o303 | apply o307 | apply o302 | apply o301 | apply ax304 | apply ax305 | apply ax306 | apply ax308 | apply ax309 | apply ax310 | apply lt_S | apply ar305 | apply ar308 | apply ar309)) only [g272_0, g272_1, g272_4, g272_7, g272_8, g272_11, g272_12, g272_13, g272_14, g272_15, g272_18, g272_19, g272_20, g272_23, g272_26, g272_27, g272_30, g272_31, g272_32, g272_35, g272_36, Option.toList, List.nil_append, List.cons_append, va_rf, m_isCell1 hc, nI_ltI, nI_leI, nI_eq, nI_add, nI_sub, nI_lt0, nI_e0, nI_m1, m1_nI, Nat.reduceEqDiff, Nat.reduceLT, Nat.reduceLeDiff, Nat.reduceAdd, Nat.reduceSub, Nat.reduceMul, ↓reduceIte, eq_self, ge0_nI hw, r1 _, e1, show N.length ≤ w by omega]
  · refine ⟨-1, h, h, fun Q => ?_, fun Q => ?_, I⟩
    · simp (disch := first | with_reducible assumption | omega | exact Or.inl rfl | exact Or.inr rfl | exact bI_01 | exact c_cat | exact vt_ref | exact vt_null | rfl | with_reducible repeat (first | assumption | omega | apply S_I | apply S_L | apply S_D | apply ob_I | apply ob_L | apply ob_D | apply ob_R | apply ax_I | apply ax_L | apply ax_D | apply ax_R | apply o303 | apply o307 | apply o302 | apply o301 | apply ax304 | apply ax305 | apply ax306 | apply ax308 | apply ax309 | apply ax310 | apply lt_S | apply ar305 | apply ar308 | apply ar309)) only [g163_0, g163_1, g163_4, g163_7, g163_8, g163_9, g163_10, g163_13, g163_14, g163_15, g163_18, g163_19, g163_20, g163_20r, g163_20n, g163_23, g163_24, g163_27, g163_28, g163_29, g163_32, g163_35, g163_36, g163_37, g163_38, g163_41, g163_42, g163_43, Option.toList, List.nil_append, List.cons_append, va_rf, x_noCell1 hx, nI_ltI, nI_leI, nI_eq, nI_add, nI_sub, nI_lt0, nI_e0, nI_m1, m1_nI, Nat.reduceEqDiff, Nat.reduceLT, Nat.reduceLeDiff, Nat.reduceAdd, Nat.reduceSub, Nat.reduceMul, ↓reduceIte, eq_self]
    · simp (disch := first | with_reducible assumption | omega | exact Or.inl rfl | exact Or.inr rfl | exact bI_01 | exact c_cat | exact vt_ref | exact vt_null | rfl | with_reducible repeat (first | assumption | omega | apply S_I | apply S_L | apply S_D | apply ob_I | apply ob_L | apply ob_D | apply ob_R | apply ax_I | apply ax_L | apply ax_D | apply ax_R | apply o303 | apply o307 | apply o302 | apply o301 | apply ax304 | apply ax305 | apply ax306 | apply ax308 | apply ax309 | apply ax310 | apply lt_S | apply ar305 | apply ar308 | apply ar309)) only [g272_0, g272_1, g272_4, g272_7, g272_8, g272_11, g272_12, g272_13, g272_14, g272_15, g272_18, g272_19, g272_20, g272_23, g272_26, g272_27, g272_30, g272_31, g272_32, g272_35, g272_36, Option.toList, List.nil_append, List.cons_append, va_rf, m_isCell0 hx, nI_ltI, nI_leI, nI_eq, nI_add, nI_sub, nI_lt0, nI_e0, nI_m1, m1_nI, Nat.reduceEqDiff, Nat.reduceLT, Nat.reduceLeDiff, Nat.reduceAdd, Nat.reduceSub, Nat.reduceMul, ↓reduceIte, eq_self]
theorem x_neededLoop (S : am_S h) {Nd : Nat → List Nat} (hN : ∀ c, c < 256 → Nds h c (Nd c)) {w : Nat} (hw : w < 256) : ∀ r c l v, 256 - c = r → c ≤ 256 → l < 2 ^ 31 → ∀ Q, am_J (d + 2) 164 18 [some (.ref 4), some (.int (nI w)), some (.int y), some (.int (nI l)), some (.int (nI c)), v] [] h Q ↔ Q (some (.int (sN (fun c => decide (w ∈ Nd c)) l r c))) h := by
  intro r
  induction r with
  | zero =>
    intro c l v hr hc hl Q
    obtain rfl : c = 256 := by omega
    rw [g164_18]
    simp (disch := first | with_reducible assumption | omega | exact Or.inl rfl | exact Or.inr rfl | exact bI_01 | exact c_cat | exact vt_ref | exact vt_null | rfl | with_reducible repeat (first | assumption | omega | apply S_I | apply S_L | apply S_D | apply ob_I | apply ob_L | apply ob_D | apply ob_R | apply ax_I | apply ax_L | apply ax_D | apply ax_R | apply o303 | apply o307 | apply o302 | apply o301 | apply ax304 | apply ax305 | apply ax306 | apply ax308 | apply ax309 | apply ax310 | apply lt_S | apply ar305 | apply ar308 | apply ar309)) only [g164_20, g164_23, g164_26, g164_27, g164_30, g164_32, g164_33, g164_36, g164_38, g164_40, g164_40r, g164_40n, g164_43, g164_45, g164_46, g164_49, g164_52, g164_53, g164_56, g164_58, g164_59, g164_62, g164_65, g164_68, g164_69, nI_ltI, nI_leI, nI_eq, nI_add, nI_sub, nI_lt0, nI_e0, nI_m1, m1_nI, Nat.reduceEqDiff, Nat.reduceLT, Nat.reduceLeDiff, Nat.reduceAdd, Nat.reduceSub, Nat.reduceMul, ↓reduceIte, eq_self, sN]
  | succ r ih =>
    intro c l v hr hc hl Q
    have hc2 : c < 256 := by omega
    have O := o22 S hc2
    rw [g164_18]
    rcases (hN c hc2).2 with ⟨b1, b2, b3⟩ | ⟨e, s, b1, b2, b3, c0, c1, c2, c3, c4, c5, c6, c7, c8, c9, c10⟩
    · have es : sN (fun c => decide (w ∈ Nd c)) l (r + 1) c = sN (fun c => decide (w ∈ Nd c)) l r (c + 1) := if_neg (by show ¬ decide (w ∈ Nd c) = true; rw [b3]; simp)
      rw [es]
      simp (disch := first | with_reducible assumption | omega | exact Or.inl rfl | exact Or.inr rfl | exact bI_01 | exact c_cat | exact vt_ref | exact vt_null | rfl | with_reducible repeat (first | assumption | omega | apply S_I | apply S_L | apply S_D | apply ob_I | apply ob_L | apply ob_D | apply ob_R | apply ax_I | apply ax_L | apply ax_D | apply ax_R | apply o303 | apply o307 | apply o302 | apply o301 | apply ax304 | apply ax305 | apply ax306 | apply ax308 | apply ax309 | apply ax310 | apply lt_S | apply ar305 | apply ar308 | apply ar309)) only [g164_20, g164_23, g164_26, g164_27, g164_30, g164_32, g164_33, g164_36, g164_38, g164_40, g164_40r, g164_40n, g164_43, g164_45, g164_46, g164_49, g164_52, g164_53, g164_56, g164_58, g164_59, g164_62, g164_65, Option.toList, List.nil_append, List.cons_append, va_rf, nI_ltI, nI_leI, nI_eq, nI_add, nI_sub, nI_lt0, nI_e0, nI_m1, m1_nI, Nat.reduceEqDiff, Nat.reduceLT, Nat.reduceLeDiff, Nat.reduceAdd, Nat.reduceSub, Nat.reduceMul, ↓reduceIte, eq_self, show ¬ 256 ≤ c by omega, b1]
      exact ih (c + 1) l _ (by omega) (by omega) hl Q
    · have Oe : am_ob h e 1 := ⟨by omega, by rw [c2]⟩
      have hx := fun Q => x_hasNeed (d := d) (h := h) (Q := Q) Oe c7 (fun q hq => ax_of (by omega) c8 hq (by omega)) hw
      rw [c9 w hw] at hx
      by_cases cm : w ∈ Nd c
      · rw [decide_eq_true cm] at hx
        by_cases l0 : l = 0
        · subst l0
          have es : sN (fun c => decide (w ∈ Nd c)) 0 (r + 1) c = nI c := by
            show (if decide (w ∈ Nd c) = true then (if 0 = 0 then nI c else _) else _) = nI c
            rw [if_pos (decide_eq_true cm), if_pos rfl]
          rw [es]
          simp (disch := first | with_reducible assumption | omega | exact Or.inl rfl | exact Or.inr rfl | exact bI_01 | exact c_cat | exact vt_ref | exact vt_null | rfl | with_reducible repeat (first | assumption | omega | apply S_I | apply S_L | apply S_D | apply ob_I | apply ob_L | apply ob_D | apply ob_R | apply ax_I | apply ax_L | apply ax_D | apply ax_R | apply o303 | apply o307 | apply o302 | apply o301 | apply ax304 | apply ax305 | apply ax306 | apply ax308 | apply ax309 | apply ax310 | apply lt_S | apply ar305 | apply ar308 | apply ar309)) only [g164_20, g164_23, g164_26, g164_27, g164_30, g164_32, g164_33, g164_36, g164_38, g164_40, g164_40r, g164_40n, g164_43, g164_45, g164_46, g164_49, g164_52, g164_53, g164_56, g164_58, g164_59, g164_62, g164_65, Option.toList, List.nil_append, List.cons_append, va_rf, nI_ltI, nI_leI, nI_eq, nI_add, nI_sub, nI_lt0, nI_e0, nI_m1, m1_nI, Nat.reduceEqDiff, Nat.reduceLT, Nat.reduceLeDiff, Nat.reduceAdd, Nat.reduceSub, Nat.reduceMul, ↓reduceIte, eq_self, show ¬ 256 ≤ c by omega, b1, hx _, bI_t]
        · have es : sN (fun c => decide (w ∈ Nd c)) l (r + 1) c = sN (fun c => decide (w ∈ Nd c)) (l - 1) r (c + 1) := by
            show (if decide (w ∈ Nd c) = true then (if l = 0 then nI c else sN (fun c => decide (w ∈ Nd c)) (l - 1) r (c + 1)) else _) = _
            rw [if_pos (decide_eq_true cm), if_neg l0]
          rw [es]
          simp (disch := first | with_reducible assumption | omega | exact Or.inl rfl | exact Or.inr rfl | exact bI_01 | exact c_cat | exact vt_ref | exact vt_null | rfl | with_reducible repeat (first | assumption | omega | apply S_I | apply S_L | apply S_D | apply ob_I | apply ob_L | apply ob_D | apply ob_R | apply ax_I | apply ax_L | apply ax_D | apply ax_R | apply o303 | apply o307 | apply o302 | apply o301 | apply ax304 | apply ax305 | apply ax306 | apply ax308 | apply ax309 | apply ax310 | apply lt_S | apply ar305 | apply ar308 | apply ar309)) only [g164_20, g164_23, g164_26, g164_27, g164_30, g164_32, g164_33, g164_36, g164_38, g164_40, g164_40r, g164_40n, g164_43, g164_45, g164_46, g164_49, g164_52, g164_53, g164_56, g164_58, g164_59, g164_62, g164_65, Option.toList, List.nil_append, List.cons_append, va_rf, nI_ltI, nI_leI, nI_eq, nI_add, nI_sub, nI_lt0, nI_e0, nI_m1, m1_nI, Nat.reduceEqDiff, Nat.reduceLT, Nat.reduceLeDiff, Nat.reduceAdd, Nat.reduceSub, Nat.reduceMul, ↓reduceIte, eq_self, show ¬ 256 ≤ c by omega, b1, hx _, bI_t, l0, nI_dec]
          exact ih (c + 1) (l - 1) _ (by omega) (by omega) (by omega) Q
      · rw [decide_eq_false cm] at hx
        have es : sN (fun c => decide (w ∈ Nd c)) l (r + 1) c = sN (fun c => decide (w ∈ Nd c)) l r (c + 1) := if_neg (by show ¬ decide (w ∈ Nd c) = true; rw [decide_eq_false cm]; exact Bool.false_ne_true)
        rw [es]
        simp (disch := first | with_reducible assumption | omega | exact Or.inl rfl | exact Or.inr rfl | exact bI_01 | exact c_cat | exact vt_ref | exact vt_null | rfl | with_reducible repeat (first | assumption | omega | apply S_I | apply S_L | apply S_D | apply ob_I | apply ob_L | apply ob_D | apply ob_R | apply ax_I | apply ax_L | apply ax_D | apply ax_R | apply o303 | apply o307 | apply o302 | apply o301 | apply ax304 | apply ax305 | apply ax306 | apply ax308 | apply ax309 | apply ax310 | apply lt_S | apply ar305 | apply ar308 | apply ar309)) only [g164_20, g164_23, g164_26, g164_27, g164_30, g164_32, g164_33, g164_36, g164_38, g164_40, g164_40r, g164_40n, g164_43, g164_45, g164_46, g164_49, g164_52, g164_53, g164_56, g164_58, g164_59, g164_62, g164_65, Option.toList, List.nil_append, List.cons_append, va_rf, nI_ltI, nI_leI, nI_eq, nI_add, nI_sub, nI_lt0, nI_e0, nI_m1, m1_nI, Nat.reduceEqDiff, Nat.reduceLT, Nat.reduceLeDiff, Nat.reduceAdd, Nat.reduceSub, Nat.reduceMul, ↓reduceIte, eq_self, show ¬ 256 ≤ c by omega, b1, hx _, bI_f]
        exact ih (c + 1) l _ (by omega) (by omega) hl Q
theorem m_neededLoop {Nd : Nat → List Nat} {w : Nat} (hw : w < 256) {i : Nat} (hi : i < 2 ^ 31) : ∀ r c n h, Inv q h → (∀ c, c < 256 → Nds h c (Nd c)) → 256 - c = r → c ≤ 256 → n ≤ i → n ≤ c → ∃ g, (∀ Q, am_J (d + 461) 273 18 [some (.ref 349), some (.int (nI w)), some (.int (nI i)), some (.int (nI n)), some (.int (nI c))] [] h Q ↔ Q (some (.int (sN (fun c => decide (w ∈ Nd c)) (i - n) r c))) g) ∧ Inv q g := by
  intro r
  induction r with
  | zero =>
    intro c n h I hN hr hc hn hnc
    obtain rfl : c = 256 := by omega
    refine ⟨h, fun Q => ?_, I⟩
    rw [g273_18]
    simp (disch := first | with_reducible assumption | omega | exact Or.inl rfl | exact Or.inr rfl | exact bI_01 | exact c_cat | exact vt_ref | exact vt_null | rfl | with_reducible repeat (first | assumption | omega | apply S_I | apply S_L | apply S_D | apply ob_I | apply ob_L | apply ob_D | apply ob_R | apply ax_I | apply ax_L | apply ax_D | apply ax_R | apply o303 | apply o307 | apply o302 | apply o301 | apply ax304 | apply ax305 | apply ax306 | apply ax308 | apply ax309 | apply ax310 | apply lt_S | apply ar305 | apply ar308 | apply ar309)) only [g273_20, g273_23, g273_26, g273_27, g273_30, g273_32, g273_33, g273_34, g273_37, g273_40, g273_41, g273_43, g273_46, g273_47, g273_50, g273_51, g273_52, g273_55, g273_58, g273_59, g273_60, g273_63, g273_65, g273_66, g273_69, g273_72, g273_75, g273_76, nI_ltI, nI_leI, nI_eq, nI_add, nI_sub, nI_lt0, nI_e0, nI_m1, m1_nI, Nat.reduceEqDiff, Nat.reduceLT, Nat.reduceLeDiff, Nat.reduceAdd, Nat.reduceSub, Nat.reduceMul, ↓reduceIte, eq_self, sN]
  | succ r ih =>
    intro c n h I hN hr hc hn hnc
    have S := I.1
    have hc2 : c < 256 := by omega
    rcases (hN c hc2).2 with ⟨b1, b2, b3⟩ | ⟨e, s, b1, b2, b3, -⟩
    · have es : sN (fun c => decide (w ∈ Nd c)) (i - n) (r + 1) c = sN (fun c => decide (w ∈ Nd c)) (i - n) r (c + 1) := if_neg (by show ¬ decide (w ∈ Nd c) = true; rw [b3]; simp)
      obtain ⟨g, r', I'⟩ := ih (c + 1) n h I hN (by omega) (by omega) hn (by omega)
      refine ⟨g, fun Q => ?_, I'⟩
      rw [es, ← r' Q, g273_18]
      simp (disch := first | with_reducible assumption | omega | exact Or.inl rfl | exact Or.inr rfl | exact bI_01 | exact c_cat | exact vt_ref | exact vt_null | rfl | with_reducible repeat (first | assumption | omega | apply S_I | apply S_L | apply S_D | apply ob_I | apply ob_L | apply ob_D | apply ob_R | apply ax_I | apply ax_L | apply ax_D | apply ax_R | apply o303 | apply o307 | apply o302 | apply o301 | apply ax304 | apply ax305 | apply ax306 | apply ax308 | apply ax309 | apply ax310 | apply lt_S | apply ar305 | apply ar308 | apply ar309)) only [g273_20, g273_23, g273_26, g273_27, g273_30, g273_32, g273_33, g273_34, g273_37, g273_40, g273_41, g273_43, g273_46, g273_47, g273_50, g273_51, g273_52, g273_55, g273_58, g273_59, g273_60, g273_63, g273_65, g273_66, g273_69, g273_72, g273_75, g273_76, Option.toList, List.nil_append, List.cons_append, va_rf, nI_ltI, nI_leI, nI_eq, nI_add, nI_sub, nI_lt0, nI_e0, nI_m1, m1_nI, Nat.reduceEqDiff, Nat.reduceLT, Nat.reduceLeDiff, Nat.reduceAdd, Nat.reduceSub, Nat.reduceMul, ↓reduceIte, eq_self, show ¬ 256 ≤ c by omega, b2]
    · obtain ⟨g1, r1, K⟩ := m_listNeeds (d := d) S hc2 (hN c hc2).1
      have I1 := NL_Inv I K
      have S1 := I1.1
      have hN1 : ∀ c, c < 256 → Nds g1 c (Nd c) := fun c hc => Nds_fr K.1 hc (fun a ha => by omega) (hN c hc)
      have k4 := K.2.2.2.2.1 w hw
      by_cases cm : w ∈ Nd c
      · rw [if_pos cm] at k4
        by_cases l0 : n = i
        · subst l0
          have es : sN (fun c => decide (w ∈ Nd c)) (n - n) (r + 1) c = nI c := by
            rw [Nat.sub_self]
            show (if decide (w ∈ Nd c) = true then (if 0 = 0 then nI c else _) else _) = nI c
            rw [if_pos (decide_eq_true cm), if_pos rfl]
          refine ⟨g1, fun Q => ?_, I1⟩
          rw [es, g273_18]
          simp (disch := first | with_reducible assumption | omega | exact Or.inl rfl | exact Or.inr rfl | exact bI_01 | exact c_cat | exact vt_ref | exact vt_null | rfl | with_reducible repeat (first | assumption | omega | apply S_I | apply S_L | apply S_D | apply ob_I | apply ob_L | apply ob_D | apply ob_R | apply ax_I | apply ax_L | apply ax_D | apply ax_R | apply o303 | apply o307 | apply o302 | apply o301 | apply ax304 | apply ax305 | apply ax306 | apply ax308 | apply ax309 | apply ax310 | apply lt_S | apply ar305 | apply ar308 | apply ar309)) only [g273_20, g273_23, g273_26, g273_27, g273_30, g273_32, g273_33, g273_34, g273_37, g273_40, g273_41, g273_43, g273_46, g273_47, g273_50, g273_51, g273_52, g273_55, g273_58, g273_59, g273_60, g273_63, g273_65, g273_66, g273_69, g273_72, g273_75, g273_76, Option.toList, List.nil_append, List.cons_append, va_rf, nI_ltI, nI_leI, nI_eq, nI_add, nI_sub, nI_lt0, nI_e0, nI_m1, m1_nI, Nat.reduceEqDiff, Nat.reduceLT, Nat.reduceLeDiff, Nat.reduceAdd, Nat.reduceSub, Nat.reduceMul, ↓reduceIte, eq_self, show ¬ 256 ≤ c by omega, b3, r1 _, k4]
        · have es : sN (fun c => decide (w ∈ Nd c)) (i - n) (r + 1) c = sN (fun c => decide (w ∈ Nd c)) (i - (n + 1)) r (c + 1) := by
            show (if decide (w ∈ Nd c) = true then (if i - n = 0 then nI c else sN (fun c => decide (w ∈ Nd c)) (i - n - 1) r (c + 1)) else _) = _
            rw [if_pos (decide_eq_true cm), if_neg (by omega)]; rfl
          obtain ⟨g, r', I'⟩ := ih (c + 1) (n + 1) g1 I1 hN1 (by omega) (by omega) (by omega) (by omega)
          refine ⟨g, fun Q => ?_, I'⟩
          rw [es, ← r' Q, g273_18]
          simp (disch := first | with_reducible assumption | omega | exact Or.inl rfl | exact Or.inr rfl | exact bI_01 | exact c_cat | exact vt_ref | exact vt_null | rfl | with_reducible repeat (first | assumption | omega | apply S_I | apply S_L | apply S_D | apply ob_I | apply ob_L | apply ob_D | apply ob_R | apply ax_I | apply ax_L | apply ax_D | apply ax_R | apply o303 | apply o307 | apply o302 | apply o301 | apply ax304 | apply ax305 | apply ax306 | apply ax308 | apply ax309 | apply ax310 | apply lt_S | apply ar305 | apply ar308 | apply ar309)) only [g273_20, g273_23, g273_26, g273_27, g273_30, g273_32, g273_33, g273_34, g273_37, g273_40, g273_41, g273_43, g273_46, g273_47, g273_50, g273_51, g273_52, g273_55, g273_58, g273_59, g273_60, g273_63, g273_65, g273_66, g273_69, g273_72, g273_75, g273_76, Option.toList, List.nil_append, List.cons_append, va_rf, nI_ltI, nI_leI, nI_eq, nI_add, nI_sub, nI_lt0, nI_e0, nI_m1, m1_nI, Nat.reduceEqDiff, Nat.reduceLT, Nat.reduceLeDiff, Nat.reduceAdd, Nat.reduceSub, Nat.reduceMul, ↓reduceIte, eq_self, show ¬ 256 ≤ c by omega, b3, r1 _, k4, l0]
      · rw [if_neg cm] at k4
        have es : sN (fun c => decide (w ∈ Nd c)) (i - n) (r + 1) c = sN (fun c => decide (w ∈ Nd c)) (i - n) r (c + 1) := if_neg (by show ¬ decide (w ∈ Nd c) = true; rw [decide_eq_false cm]; exact Bool.false_ne_true)
        obtain ⟨g, r', I'⟩ := ih (c + 1) n g1 I1 hN1 (by omega) (by omega) hn (by omega)
        refine ⟨g, fun Q => ?_, I'⟩
        rw [es, ← r' Q, g273_18]
        simp (disch := first | with_reducible assumption | omega | exact Or.inl rfl | exact Or.inr rfl | exact bI_01 | exact c_cat | exact vt_ref | exact vt_null | rfl | with_reducible repeat (first | assumption | omega | apply S_I | apply S_L | apply S_D | apply ob_I | apply ob_L | apply ob_D | apply ob_R | apply ax_I | apply ax_L | apply ax_D | apply ax_R | apply o303 | apply o307 | apply o302 | apply o301 | apply ax304 | apply ax305 | apply ax306 | apply ax308 | apply ax309 | apply ax310 | apply lt_S | apply ar305 | apply ar308 | apply ar309)) only [g273_20, g273_23, g273_26, g273_27, g273_30, g273_32, g273_33, g273_34, g273_37, g273_40, g273_41, g273_43, g273_46, g273_47, g273_50, g273_51, g273_52, g273_55, g273_58, g273_59, g273_60, g273_63, g273_65, g273_66, g273_69, g273_72, g273_75, g273_76, Option.toList, List.nil_append, List.cons_append, va_rf, nI_ltI, nI_leI, nI_eq, nI_add, nI_sub, nI_lt0, nI_e0, nI_m1, m1_nI, Nat.reduceEqDiff, Nat.reduceLT, Nat.reduceLeDiff, Nat.reduceAdd, Nat.reduceSub, Nat.reduceMul, ↓reduceIte, eq_self, show ¬ 256 ≤ c by omega, b3, r1 _, k4]
theorem nds_all (I : Inv q h) : ∃ Nd : Nat → List Nat, ∀ c, c < 256 → Nds h c (Nd c) := by
  obtain ⟨S, G, -, -, -, -, -, -, M, nf, fe, fX, fM, fA, nc, ce, cX, cM, cd, lab, -, -, E_, -, -⟩ := id I
  refine Classical.axiomOfChoice (r := fun c N => c < 256 → Nds h c N) (fun c => ?_)
  by_cases hc : c < 256
  · obtain ⟨N, hN⟩ := nds_of (E_ c hc)
    exact ⟨N, fun _ => hN⟩
  · exact ⟨[], fun q => absurd q hc⟩
theorem o_neededBy (I : Inv q h) : ∃ r h1 h2, am_run (d + 2) 164 [some (.ref 4), some (.int x), some (.int y), none, none, none] h (some (.int r)) h1 ∧ am_run (d + 461) 273 [some (.ref 349), some (.int x), some (.int y), none, none] h1 (some (.int r)) h2 ∧ Inv q h2 := by
  have S := I.1
  by_cases hx : isCl x
  · obtain ⟨c, hc, rfl⟩ := hx
    obtain ⟨Nd, hN⟩ := nds_all I
    rcases i_cases y with hn | ⟨w, hw, rfl⟩
    · refine ⟨-1, h, h, fun Q => ?_, fun Q => ?_, I⟩
      · simp (disch := first | with_reducible assumption | omega | exact Or.inl rfl | exact Or.inr rfl | exact bI_01 | exact c_cat | exact vt_ref | exact vt_null | rfl | with_reducible repeat (first | assumption | omega | apply S_I | apply S_L | apply S_D | apply ob_I | apply ob_L | apply ob_D | apply ob_R | apply ax_I | apply ax_L | apply ax_D | apply ax_R | apply o303 | apply o307 | apply o302 | apply o301 | apply ax304 | apply ax305 | apply ax306 | apply ax308 | apply ax309 | apply ax310 | apply lt_S | apply ar305 | apply ar308 | apply ar309)) only [g164_0, g164_1, g164_4, g164_7, g164_8, g164_11, g164_12, g164_13, g164_14, g164_15, g164_16, Option.toList, List.nil_append, List.cons_append, va_rf, x_noCellN hc, nI_ltI, nI_leI, nI_eq, nI_add, nI_sub, nI_lt0, nI_e0, nI_m1, m1_nI, Nat.reduceEqDiff, Nat.reduceLT, Nat.reduceLeDiff, Nat.reduceAdd, Nat.reduceSub, Nat.reduceMul, ↓reduceIte, eq_self, ge0_neg hn]
      · simp (disch := first | with_reducible assumption | omega | exact Or.inl rfl | exact Or.inr rfl | exact bI_01 | exact c_cat | exact vt_ref | exact vt_null | rfl | with_reducible repeat (first | assumption | omega | apply S_I | apply S_L | apply S_D | apply ob_I | apply ob_L | apply ob_D | apply ob_R | apply ax_I | apply ax_L | apply ax_D | apply ax_R | apply o303 | apply o307 | apply o302 | apply o301 | apply ax304 | apply ax305 | apply ax306 | apply ax308 | apply ax309 | apply ax310 | apply lt_S | apply ar305 | apply ar308 | apply ar309)) only [g273_0, g273_1, g273_4, g273_7, g273_8, g273_11, g273_12, g273_13, g273_14, g273_15, g273_16, Option.toList, List.nil_append, List.cons_append, va_rf, m_isCell1 hc, nI_ltI, nI_leI, nI_eq, nI_add, nI_sub, nI_lt0, nI_e0, nI_m1, m1_nI, Nat.reduceEqDiff, Nat.reduceLT, Nat.reduceLeDiff, Nat.reduceAdd, Nat.reduceSub, Nat.reduceMul, ↓reduceIte, eq_self, ge0_neg hn]
    · obtain ⟨g, r', I'⟩ := m_neededLoop (d := d) hc hw 256 0 0 h I hN rfl (by decide) (Nat.zero_le _) (Nat.le_refl _)
      refine ⟨sN (fun z => decide (c ∈ Nd z)) w 256 0, h, g, fun Q => ?_, fun Q => ?_, I'⟩
      · rw [← x_neededLoop (d := d) (y := nI w) S hN hc 256 0 w none rfl (by decide) hw Q]
        simp (disch := first | with_reducible assumption | omega | exact Or.inl rfl | exact Or.inr rfl | exact bI_01 | exact c_cat | exact vt_ref | exact vt_null | rfl | with_reducible repeat (first | assumption | omega | apply S_I | apply S_L | apply S_D | apply ob_I | apply ob_L | apply ob_D | apply ob_R | apply ax_I | apply ax_L | apply ax_D | apply ax_R | apply o303 | apply o307 | apply o302 | apply o301 | apply ax304 | apply ax305 | apply ax306 | apply ax308 | apply ax309 | apply ax310 | apply lt_S | apply ar305 | apply ar308 | apply ar309)) only [g164_0, g164_1, g164_4, g164_7, g164_8, g164_11, g164_12, g164_13, g164_14, g164_15, g164_16, Option.toList, List.nil_append, List.cons_append, va_rf, x_noCellN hc, nI_ltI, nI_leI, nI_eq, nI_add, nI_sub, nI_lt0, nI_e0, nI_m1, m1_nI, Nat.reduceEqDiff, Nat.reduceLT, Nat.reduceLeDiff, Nat.reduceAdd, Nat.reduceSub, Nat.reduceMul, ↓reduceIte, eq_self, ge0_nI hw]
      · rw [Nat.sub_zero] at r'
        rw [← r' Q]
        simp (disch := first | with_reducible assumption | omega | exact Or.inl rfl | exact Or.inr rfl | exact bI_01 | exact c_cat | exact vt_ref | exact vt_null | rfl | with_reducible repeat (first | assumption | omega | apply S_I | apply S_L | apply S_D | apply ob_I | apply ob_L | apply ob_D | apply ob_R | apply ax_I | apply ax_L | apply ax_D | apply ax_R | apply o303 | apply o307 | apply o302 | apply o301 | apply ax304 | apply ax305 | apply ax306 | apply ax308 | apply ax309 | apply ax310 | apply lt_S | apply ar305 | apply ar308 | apply ar309)) only [g273_0, g273_1, g273_4, g273_7, g273_8, g273_11, g273_12, g273_13, g273_14, g273_15, g273_16, Option.toList, List.nil_append, List.cons_append, va_rf, m_isCell1 hc, nI_ltI, nI_leI, nI_eq, nI_add, nI_sub, nI_lt0, nI_e0, nI_m1, m1_nI, Nat.reduceEqDiff, Nat.reduceLT, Nat.reduceLeDiff, Nat.reduceAdd, Nat.reduceSub, Nat.reduceMul, ↓reduceIte, eq_self, ge0_nI hw]
  · refine ⟨-1, h, h, fun Q => ?_, fun Q => ?_, I⟩
    · simp (disch := first | with_reducible assumption | omega | exact Or.inl rfl | exact Or.inr rfl | exact bI_01 | exact c_cat | exact vt_ref | exact vt_null | rfl | with_reducible repeat (first | assumption | omega | apply S_I | apply S_L | apply S_D | apply ob_I | apply ob_L | apply ob_D | apply ob_R | apply ax_I | apply ax_L | apply ax_D | apply ax_R | apply o303 | apply o307 | apply o302 | apply o301 | apply ax304 | apply ax305 | apply ax306 | apply ax308 | apply ax309 | apply ax310 | apply lt_S | apply ar305 | apply ar308 | apply ar309)) only [g164_0, g164_1, g164_4, g164_7, g164_8, g164_11, g164_12, g164_13, g164_14, g164_15, g164_16, Option.toList, List.nil_append, List.cons_append, va_rf, x_noCell1 hx, nI_ltI, nI_leI, nI_eq, nI_add, nI_sub, nI_lt0, nI_e0, nI_m1, m1_nI, Nat.reduceEqDiff, Nat.reduceLT, Nat.reduceLeDiff, Nat.reduceAdd, Nat.reduceSub, Nat.reduceMul, ↓reduceIte, eq_self]
    · simp (disch := first | with_reducible assumption | omega | exact Or.inl rfl | exact Or.inr rfl | exact bI_01 | exact c_cat | exact vt_ref | exact vt_null | rfl | with_reducible repeat (first | assumption | omega | apply S_I | apply S_L | apply S_D | apply ob_I | apply ob_L | apply ob_D | apply ob_R | apply ax_I | apply ax_L | apply ax_D | apply ax_R | apply o303 | apply o307 | apply o302 | apply o301 | apply ax304 | apply ax305 | apply ax306 | apply ax308 | apply ax309 | apply ax310 | apply lt_S | apply ar305 | apply ar308 | apply ar309)) only [g273_0, g273_1, g273_4, g273_7, g273_8, g273_11, g273_12, g273_13, g273_14, g273_15, g273_16, Option.toList, List.nil_append, List.cons_append, va_rf, m_isCell0 hx, nI_ltI, nI_leI, nI_eq, nI_add, nI_sub, nI_lt0, nI_e0, nI_m1, m1_nI, Nat.reduceEqDiff, Nat.reduceLT, Nat.reduceLeDiff, Nat.reduceAdd, Nat.reduceSub, Nat.reduceMul, ↓reduceIte, eq_self]
end OND

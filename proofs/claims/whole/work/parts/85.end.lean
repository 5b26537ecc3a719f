/-! BOTH PARSERS: how reading a text ends -/
/-- what the class has read -/
def PXd (h : am_H) (C : List (Int32 × Int64)) (P : List Int32) (N : List Nat) (F k : Int32) : Prop := XC h C ∧ XP h P ∧ XN h N ∧ am_I h 303 8 = F ∧ am_I h 303 7 = k
section EN1
variable {d : Nat} {h g : am_H} {Q : Option Value → am_H → Prop} {v0 v1 v2 v3 v4 : Option Value} {t : Nat → Nat} {n : Nat} {md : Nat ⊕ (Nat × Nat)} {C : List (Int32 × Int64)} {P : List Int32} {N : List Nat} {F k o ln lp : Int32} {W : Option (Nat × Nat)}
theorem PXd_302 (Fr : am_fr (fun a => a = 302) h g) (X : PXd h C P N F k) : PXd g C P N F k := by
  obtain ⟨⟨c1, c2, c3⟩, ⟨p1, p2, p3⟩, ⟨n1, n2, n3, n4, n5⟩, e1, e2⟩ := X
  refine ⟨⟨?_, c2, fun i x hx => ?_⟩, ⟨?_, p2, fun i x hx => ?_⟩, ⟨?_, fun i c hc => ?_, n3, n4, fun c hc => ?_⟩, ?_, ?_⟩ <;> simp only [fr_rdI Fr (show ¬ (303 = 302) by decide), fr_rdI Fr (show ¬ (305 = 302) by decide), fr_rdL Fr (show ¬ (306 = 302) by decide), fr_rdI Fr (show ¬ (307 = 302) by decide), fr_rdI Fr (show ¬ (308 = 302) by decide), fr_rdI Fr (show ¬ (309 = 302) by decide), fr_rdL Fr (show ¬ (304 = 302) by decide)]
  · exact c1
  · exact c3 i x hx
  · exact p1
  · exact p3 i x hx
  · exact n1
  · exact n2 i c hc
  · exact n5 c hc
  · exact e1
  · exact e2
theorem PX_d (X : PX h t n md C P N F k o ln lp) : PXd h C P N F k := ⟨X.2.2.2.1, X.2.2.2.2.1, X.2.2.2.2.2.1, X.2.2.2.2.2.2.1, X.2.2.2.2.2.2.2.1⟩
theorem LT_base (L : LT ln lp (mgO (some (0, 2000)) W)) (hW : ∀ z, W = some z → z.2 ≤ 240) : ln = foI W ∧ lp = fpI W ∧ ∀ z, W = some z → z.1 ≠ 0 ∧ z.1 < 100 := by
  cases W with
  | none =>
    obtain ⟨h1, ⟨-, h3, -⟩ | ⟨h2, -⟩⟩ := L
    · exact absurd h3 (by decide)
    · exact ⟨h1, h2, fun z e => by cases e⟩
  | some z =>
    have hz := hW z rfl
    have e : mgO (some (0, 2000)) (some z) = some z := by
      show mg (some (0, 2000)) z.1 z.2 = some z
      unfold mg; simp only
      rw [if_pos (by omega)]
    rw [e] at L
    obtain ⟨h1, ⟨h2, h3, h4⟩ | ⟨h2, h3⟩⟩ := L
    · exact ⟨h1, h2, fun y e => by cases e; exact h4⟩
    · omega
theorem LT_baseM (L : LT ln lp W) (hW : ∀ z, W = some z → z.2 ≤ 240) : lp = fpI W ∧ ∀ z, W = some z → ln = nI z.1 ∧ z.1 ≠ 0 ∧ z.1 < 100 := by
  cases W with
  | none => exact ⟨L, fun z e => by cases e⟩
  | some z =>
    have hz := hW z rfl
    obtain ⟨h1, ⟨h2, h3, h4⟩ | ⟨h2, h3⟩⟩ := L
    · exact ⟨h2, fun y e => by cases e; exact ⟨h1, h4⟩⟩
    · omega
theorem x_end (X : PX h t n md C P N F k o ln lp) (L : ∀ q, md = .inl q → LT ln lp (mgO (some (0, 2000)) W)) (hW : ∀ z, W = some z → z.2 ≤ 240) : ∃ h', am_run (d + 1) 107 [some (.ref 301)] h (some (.int (foI (fin t n md W)))) h' ∧ XF h h' ∧ am_I h' 302 9 = fpI (fin t n md W) ∧ (∃ c, c < 256 ∧ am_I h' 302 7 = nI c) ∧ (∀ z, fin t n md W = some z → z.1 ≠ 0 ∧ z.1 < 100) ∧ PXd h' C P N F k := by
  have S := X.1
  have tk := x_tok X
  have hk3 := mdK_lt X
  have D := PX_d X
  have bad : ∀ y, mdR 2 md = .inr y → ¬ mdK t n md = 262 → fin t n md W = some y → ∃ h', am_run (d + 1) 107 [some (.ref 301)] h (some (.int (foI (fin t n md W)))) h' ∧ XF h h' ∧ am_I h' 302 9 = fpI (fin t n md W) ∧ (∃ c, c < 256 ∧ am_I h' 302 7 = nI c) ∧ (∀ z, fin t n md W = some z → z.1 ≠ 0 ∧ z.1 < 100) ∧ PXd h' C P N F k := by
    intro y ey hK ef
    obtain ⟨h1, r1, X1, F1⟩ := x_ref (d := d) X (f := 2) (by decide) (by decide)
    rw [ey] at X1
    have S1 := X1.1
    obtain ⟨⟨b1, b2, b3, b4, b5⟩, y0, y1, y2, c7⟩ := X1.2.2.1
    rw [ef]
    refine ⟨h1, fun Q => ?_, F1, b3, c7, fun z ez => by cases ez; exact ⟨y0, y1⟩, PX_d X1⟩
    simp (disch := first | with_reducible assumption | omega | exact Or.inl rfl | exact Or.inr rfl | exact bI_01 | exact c_cat | exact vt_ref | exact vt_null | rfl | with_reducible repeat (first | assumption | omega | apply S_I | apply S_L | apply S_D | apply ob_I | apply ob_L | apply ob_D | apply ob_R | apply ax_I | apply ax_L | apply ax_D | apply ax_R | apply o303 | apply o307 | apply o302 | apply o301 | apply ax304 | apply ax305 | apply ax306 | apply ax308 | apply ax309 | apply ax310 | apply lt_S | apply ar305 | apply ar308 | apply ar309)) only [g107_0, g107_1, g107_4, g107_7, g107_10, g107_13, g107_14, g107_17, g107_18, g107_21, g107_22, g107_25, g107_28, g107_31, g107_32, g107_35, g107_36, g107_39, g107_42, g107_43, g107_46, g107_47, g107_50, g107_53, g107_54, g107_57, g107_60, Option.toList, List.nil_append, List.cons_append, va_rf, nI_ltI, nI_leI, nI_eq, nI_add, nI_sub, nI_lt0, nI_e0, nI_m1, m1_nI, Nat.reduceEqDiff, Nat.reduceLT, Nat.reduceLeDiff, Nat.reduceAdd, Nat.reduceSub, Nat.reduceMul, ↓reduceIte, eq_self, tk, hK, r1 _, b2, y0, foI]
  match md, X, bad, tk, hk3, L with
  | .inr y, X, bad, tk, hk3, L => exact bad y rfl (show ¬ 263 = 262 by decide) rfl
  | .inl q, X, bad, tk, hk3, L =>
    by_cases c : lx_K t n q = 262
    · obtain ⟨⟨l1, l2, l3, l4, l5⟩, lk, lq, f8, f9, c7⟩ := X.2.2.1
      obtain ⟨e1, e2, e3⟩ := LT_base (L q rfl) hW
      rw [c] at l2
      have eln := X.2.2.2.2.2.2.2.2.2.1
      have elp := X.2.2.2.2.2.2.2.2.2.2
      rw [show fin t n (.inl q) W = W from if_pos c]
      have Fr : am_fr (fun a => a = 302) h (am_setI (am_setI h 302 8 ln) 302 9 lp) := fr_I (fr_I fr_refl rfl) rfl
      refine ⟨am_setI (am_setI h 302 8 ln) 302 9 lp, fun Q => ?_, XF_302 Fr, ?_, ?_, e3, PXd_302 Fr D⟩
      · simp (disch := first | with_reducible assumption | omega | exact Or.inl rfl | exact Or.inr rfl | exact bI_01 | exact c_cat | exact vt_ref | exact vt_null | rfl | with_reducible repeat (first | assumption | omega | apply S_I | apply S_L | apply S_D | apply ob_I | apply ob_L | apply ob_D | apply ob_R | apply ax_I | apply ax_L | apply ax_D | apply ax_R | apply o303 | apply o307 | apply o302 | apply o301 | apply ax304 | apply ax305 | apply ax306 | apply ax308 | apply ax309 | apply ax310 | apply lt_S | apply ar305 | apply ar308 | apply ar309)) only [g107_0, g107_1, g107_4, g107_7, g107_10, g107_13, g107_14, g107_17, g107_18, g107_21, g107_22, g107_25, g107_28, g107_31, g107_32, g107_35, g107_36, g107_39, g107_42, g107_43, g107_46, g107_47, g107_50, g107_53, g107_54, g107_57, g107_60, Option.toList, List.nil_append, List.cons_append, va_rf, nI_ltI, nI_leI, nI_eq, nI_add, nI_sub, nI_lt0, nI_e0, nI_m1, m1_nI, Nat.reduceEqDiff, Nat.reduceLT, Nat.reduceLeDiff, Nat.reduceAdd, Nat.reduceSub, Nat.reduceMul, ↓reduceIte, eq_self, hI_I, hI_L, hI_D, hI_R, hL_I, hL_L, hL_D, hL_R, hD_I, hD_L, hD_D, hD_R, hR_I, hR_L, hR_D, ↓reduceIte, Nat.reduceEqDiff, l2, f8, eln, elp, e1]
      · simp only [hI_I, hI_L, hI_D, hI_R, hL_I, hL_L, hL_D, hL_R, hD_I, hD_L, hD_D, hD_R, hR_I, hR_L, hR_D, ↓reduceIte, Nat.reduceEqDiff]; exact e2
      · obtain ⟨cc, hcc, e7⟩ := c7
        exact ⟨cc, hcc, by simp only [hI_I, hI_L, hI_D, hI_R, hL_I, hL_L, hL_D, hL_R, hD_I, hD_L, hD_D, hD_R, hR_I, hR_L, hR_D, ↓reduceIte, Nat.reduceEqDiff]; exact e7⟩
    · exact bad (2, q) rfl c (if_neg c)
end EN1

/-! THE CLASS: readConstant, up to its E -/
section CBG
variable {d : Nat} {h g : am_H} {t : Nat → Nat} {n : Nat} {md : Nat ⊕ (Nat × Nat)} {C : List (Int32 × Int64)} {P : List Int32} {N : List Nat} {F k o ln lp : Int32}
/-- does a plain name stand here? -/
def isNm (t : Nat → Nat) (n : Nat) (md : Nat ⊕ (Nat × Nat)) : Prop := match md with
  | .inl q => lx_K t n q = 258 ∧ lx_wd t n q = 12
  | .inr _ => False
/-- behind a plain name, and the name -/
def mdN (t : Nat → Nat) (n : Nat) (md : Nat ⊕ (Nat × Nat)) (md' : Nat ⊕ (Nat × Nat)) (x : Int64) : Prop := (∃ q, md = .inl q ∧ lx_K t n q = 258 ∧ lx_wd t n q = 12 ∧ md' = mdA t n md ∧ x = lN (lx_w 256 0 t q (lx_E t n q - q))) ∨ (¬ isNm t n md ∧ md' = mdR 2 md ∧ x = lN 0)
theorem x_plain (X : PX h t n md C P N F k o ln lp) (G : am_Gv h) : ∃ h' md' x, am_run (d + 3) 104 [some (.ref 301), none, none] h (some (.long x)) h' ∧ PX h' t n md' C P N F k o ln lp ∧ XF h h' ∧ mdN t n md md' x := by
  have S := X.1
  have hk3 := mdK_lt X
  have tk := x_tok X
  obtain ⟨h1, r1, X1, F1⟩ := x_ref (d := d + 2) X (f := 2) (by decide) (by decide)
  match md, X, X1, tk, hk3 with
  | .inr y, X, X1, tk, hk3 =>
    have tk' : am_I h 302 2 = nI 263 := tk
    refine ⟨h1, _, _, fun Q => ?_, X1, F1, Or.inr ⟨fun e => e, rfl, rfl⟩⟩
    simp (disch := first | with_reducible assumption | omega | exact Or.inl rfl | exact Or.inr rfl | exact bI_01 | exact c_cat | exact vt_ref | exact vt_null | rfl | with_reducible repeat (first | assumption | omega | apply S_I | apply S_L | apply S_D | apply ob_I | apply ob_L | apply ob_D | apply ob_R | apply ax_I | apply ax_L | apply ax_D | apply ax_R | apply o303 | apply o307 | apply o302 | apply o301 | apply ax304 | apply ax305 | apply ax306 | apply ax308 | apply ax309 | apply ax310 | apply lt_S | apply ar305 | apply ar308 | apply ar309)) only [g104_0, g104_1, g104_4, g104_7, g104_10, g104_13, g104_14, g104_17, g104_20, g104_23, g104_24, g104_27, g104_28, g104_31, g104_32, g104_35, g104_36, g104_37, g104_38, g104_41, g104_44, g104_45, g104_46, g104_49, g104_52, g104_53, tk', nI_ltI, nI_leI, nI_eq, nI_add, nI_sub, nI_lt0, nI_e0, nI_m1, m1_nI, Nat.reduceEqDiff, Nat.reduceLT, Nat.reduceLeDiff, Nat.reduceAdd, Nat.reduceSub, Nat.reduceMul, ↓reduceIte, eq_self, Option.toList, List.nil_append, List.cons_append, va_rf, r1 _]
  | .inl q, X, X1, tk, hk3 =>
    by_cases c : lx_K t n q = 258 ∧ lx_wd t n q = 12
    · obtain ⟨h2, r2, X2, F2⟩ := x_plainGood (d := d) X G c.1 c.2
      exact ⟨h2, _, _, r2, X2, F2, Or.inl ⟨q, rfl, c.1, c.2, rfl, rfl⟩⟩
    · obtain ⟨⟨l1, l2, l3, l4, l5⟩, lk, lq, f8, f9, cc, hcc, f7⟩ := X.2.2.1
      refine ⟨h1, _, _, fun Q => ?_, X1, F1, Or.inr ⟨c, rfl, rfl⟩⟩
      by_cases c1 : lx_K t n q = 258
      · rw [c1] at l2
        have l4' := l4 c1
        have hw : lx_wd t n q < 12 := by
          have : lx_wd t n q ≤ 12 := scan_le (by decide)
          have : lx_wd t n q ≠ 12 := fun e => c ⟨c1, e⟩
          omega
        have w0 : ∀ Q, am_J (d + 2) 90 0 [some (.long (lN (lx_w 256 0 t q (lx_E t n q - q)))), none, none] [] h Q ↔ Q (some (.int (nI (lx_wd t n q)))) h := fun Q => by
          rw [x_wordOf S G, show xI 12 (xwd (lN (lx_w 256 0 t q (lx_E t n q - q)))) = nI (lx_wd t n q) from if_pos hw]
        simp (disch := first | with_reducible assumption | omega | exact Or.inl rfl | exact Or.inr rfl | exact bI_01 | exact c_cat | exact vt_ref | exact vt_null | rfl | with_reducible repeat (first | assumption | omega | apply S_I | apply S_L | apply S_D | apply ob_I | apply ob_L | apply ob_D | apply ob_R | apply ax_I | apply ax_L | apply ax_D | apply ax_R | apply o303 | apply o307 | apply o302 | apply o301 | apply ax304 | apply ax305 | apply ax306 | apply ax308 | apply ax309 | apply ax310 | apply lt_S | apply ar305 | apply ar308 | apply ar309)) only [g104_0, g104_1, g104_4, g104_7, g104_10, g104_13, g104_14, g104_17, g104_20, g104_23, g104_24, g104_27, g104_28, g104_31, g104_32, g104_35, g104_36, g104_37, g104_38, g104_41, g104_44, g104_45, g104_46, g104_49, g104_52, g104_53, l2, l4', nI_ltI, nI_leI, nI_eq, nI_add, nI_sub, nI_lt0, nI_e0, nI_m1, m1_nI, Nat.reduceEqDiff, Nat.reduceLT, Nat.reduceLeDiff, Nat.reduceAdd, Nat.reduceSub, Nat.reduceMul, ↓reduceIte, eq_self, Option.toList, List.nil_append, List.cons_append, va_rf, w0 _, r1 _]
      · have hk4 : lx_K t n q ≤ 263 := hk3
        simp (disch := first | with_reducible assumption | omega | exact Or.inl rfl | exact Or.inr rfl | exact bI_01 | exact c_cat | exact vt_ref | exact vt_null | rfl | with_reducible repeat (first | assumption | omega | apply S_I | apply S_L | apply S_D | apply ob_I | apply ob_L | apply ob_D | apply ob_R | apply ax_I | apply ax_L | apply ax_D | apply ax_R | apply o303 | apply o307 | apply o302 | apply o301 | apply ax304 | apply ax305 | apply ax306 | apply ax308 | apply ax309 | apply ax310 | apply lt_S | apply ar305 | apply ar308 | apply ar309)) only [g104_0, g104_1, g104_4, g104_7, g104_10, g104_13, g104_14, g104_17, g104_20, g104_23, g104_24, g104_27, g104_28, g104_31, g104_32, g104_35, g104_36, g104_37, g104_38, g104_41, g104_44, g104_45, g104_46, g104_49, g104_52, g104_53, l2, c1, nI_ltI, nI_leI, nI_eq, nI_add, nI_sub, nI_lt0, nI_e0, nI_m1, m1_nI, Nat.reduceEqDiff, Nat.reduceLT, Nat.reduceLeDiff, Nat.reduceAdd, Nat.reduceSub, Nat.reduceMul, ↓reduceIte, eq_self, Option.toList, List.nil_append, List.cons_append, va_rf, r1 _]
end CBG

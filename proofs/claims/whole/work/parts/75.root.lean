/-! BOTH PARSERS: names as text; root -/
theorem ltN_w {t : Nat → Nat} {q : Nat} : ∀ k f, k ≤ f → (∀ i, i < k → isL (t (q + i)) = true) → ltN 32 96 f (lx_w 32 96 t q k) = tx t q k := by
  intro k
  induction k with
  | zero =>
    intro f _ _
    cases f <;> rfl
  | succ k ih =>
    intro f hf hl
    obtain ⟨f, rfl⟩ : ∃ g, f = g + 1 := ⟨f - 1, by omega⟩
    have h1 := isL_of (hl k (by omega))
    have e : lx_w 32 96 t q (k + 1) = lx_w 32 96 t q k * 32 + (t (q + k) - 96) := rfl
    rw [e, show tx t q (k + 1) = tx t q k ++ tx t (q + k) 1 from tx_app k q 1]
    show (if _ = 0 then [] else _) = _
    rw [if_neg (by omega), show (lx_w 32 96 t q k * 32 + (t (q + k) - 96)) / 32 = lx_w 32 96 t q k by omega, ih f (by omega) (fun i hi => hl i (by omega)), show (lx_w 32 96 t q k * 32 + (t (q + k) - 96)) % 32 + 96 = t (q + k) by omega]
    rfl
theorem lx32_lt {t : Nat → Nat} {q : Nat} : ∀ k, (∀ i, i < k → isL (t (q + i)) = true) → lx_w 32 96 t q k < 32 ^ k := by
  intro k
  induction k with
  | zero => intro _; exact Nat.one_pos
  | succ k ih =>
    intro hl
    have h1 := isL_of (hl k (by omega))
    have h2 := ih (fun i hi => hl i (by omega))
    have e : lx_w 32 96 t q (k + 1) = lx_w 32 96 t q k * 32 + (t (q + k) - 96) := rfl
    rw [e, Nat.pow_succ]
    omega
theorem ltM_w {t : Nat → Nat} {q k : Nat} (hk : k ≤ 8) (hl : ∀ i, i < k → isL (t (q + i)) = true) : ltM (lN (lx_w 32 96 t q k)) = tx t q k := by
  unfold ltM
  have h1 := lx32_lt k hl
  have h2 : (32 : Nat) ^ k ≤ 32 ^ 8 := Nat.pow_le_pow_right (by decide) hk
  rw [lN_bv', BitVec.toNat_ofNat, Nat.mod_eq_of_lt (by omega)]
  exact ltN_w k 8 hk hl
theorem ltM_tok {t : Nat → Nat} {n q : Nat} (hK : lx_K t n q = 258) : ltM (lN (lx_w 32 96 t q (lx_E t n q - q))) = tx t q (lx_E t n q - q) := by
  obtain ⟨a1, a2, a3, a4, a5⟩ := lx_name hK
  exact ltM_w a4 (fun i hi => a5 _ (by omega) (by omega))
/-- a function that is found, and how it is printed -/
theorem fnF_some {so on na nf : Nat} {oM : Int64} {fnM : Nat → Int64} {fnA : Nat → Nat} {y : Int64} {gv : Nat} (h1 : nf ≤ 8) (h2 : on ≤ 8) (HO : FE so on na nf oM fnM fnA) (h : fnF so on na nf oM fnM fnA y gv ≠ -1) : ∃ g, g ≤ 8 ∧ fnF so on na nf oM fnM fnA y gv = nI g ∧ pFm so on oM fnM (4 * g + gv) = ltM y := by
  unfold fnF at h ⊢
  by_cases c : so = 2 ∧ y = oM
  · rw [if_pos c] at h ⊢
    by_cases c2 : gv = na
    · rw [if_pos c2]
      refine ⟨on, h2, rfl, ?_⟩
      unfold pFm
      rw [c2, HO.2 c.1, c.2]
    · rw [if_neg c2] at h; exact absurd rfl h
  · rw [if_neg c] at h ⊢
    unfold fnR at h ⊢
    by_cases c2 : fdI fnM y nf < nf ∧ fnA (fdI fnM y nf) = gv
    · rw [if_pos c2]
      refine ⟨fdI fnM y nf, by omega, rfl, ?_⟩
      have e := fdI_at c2.1
      unfold pFm
      rw [HO.1 _ _ c2.1 c2.2 (fun c3 => c ⟨c3.1, by rw [← e]; exact c3.2⟩), e]
    · rw [if_neg c2] at h; exact absurd rfl h
/-- a name is not empty -/
theorem tx_ne {t : Nat → Nat} {n q : Nat} (hK : lx_K t n q = 258) : tx t q (lx_E t n q - q) ≠ [] := by
  obtain ⟨a1, a2, a3, a4, a5⟩ := lx_name hK
  intro e
  have := congrArg List.length e
  simp [tx] at this
  omega
section PLN
variable {d : Nat} {h : am_H} {t : Nat → Nat} {n q : Nat} {C : List (Int32 × Int64)} {P : List Int32} {N : List Nat} {F k o ln lp : Int32}
theorem x_plainGood (X : PX h t n (.inl q) C P N F k o ln lp) (G : am_Gv h) (hK : lx_K t n q = 258) (hw : lx_wd t n q = 12) : ∃ h', am_run (d + 3) 104 [some (.ref 301), none, none] h (some (.long (lN (lx_w 256 0 t q (lx_E t n q - q))))) h' ∧ PX h' t n (mdA t n (.inl q)) C P N F k o ln lp ∧ XF h h' := by
  have S := X.1
  obtain ⟨⟨l1, l2, l3, l4, l5⟩, lk, lq, f8, f9, cc, hcc, f7⟩ := X.2.2.1
  rw [hK] at l2
  have l4' := l4 hK
  obtain ⟨h1, r1, X1, F1⟩ := x_adv (d := d) (v1 := none) X
  have w0 : ∀ Q, am_J (d + 2) 90 0 [some (.long (lN (lx_w 256 0 t q (lx_E t n q - q)))), none, none] [] h Q ↔ Q (some (.int (-1))) h := fun Q => by
    rw [x_wordOf S G, show xwd (lN (lx_w 256 0 t q (lx_E t n q - q))) = 12 from hw]; rfl
  refine ⟨h1, fun Q => ?_, X1, F1⟩
  simp (disch := first | with_reducible assumption | omega | exact Or.inl rfl | exact Or.inr rfl | exact bI_01 | exact c_cat | exact vt_ref | exact vt_null | rfl | with_reducible repeat (first | assumption | omega | apply S_I | apply S_L | apply S_D | apply ob_I | apply ob_L | apply ob_D | apply ob_R | apply ax_I | apply ax_L | apply ax_D | apply ax_R | apply o303 | apply o307 | apply o302 | apply o301 | apply ax304 | apply ax305 | apply ax306 | apply ax308 | apply ax309 | apply ax310 | apply lt_S | apply ar305 | apply ar308 | apply ar309)) only [g104_0, g104_1, g104_4, g104_7, g104_10, g104_13, g104_14, g104_17, g104_20, g104_23, g104_24, g104_27, g104_28, g104_31, g104_32, g104_35, g104_36, g104_37, g104_38, g104_41, g104_44, g104_45, g104_46, g104_49, g104_52, g104_53, l2, l4', nI_ltI, nI_leI, nI_eq, nI_add, nI_sub, nI_lt0, nI_e0, nI_m1, m1_nI, Nat.reduceEqDiff, Nat.reduceLT, Nat.reduceLeDiff, Nat.reduceAdd, Nat.reduceSub, Nat.reduceMul, ↓reduceIte, eq_self, Option.toList, List.nil_append, List.cons_append, va_rf, w0 _, r1 _]
theorem x_plainBad (X : PX h t n (.inl q) C P N F k o ln lp) (G : am_Gv h) (hb : ¬ (lx_K t n q = 258 ∧ lx_wd t n q = 12)) : ∃ h', am_run (d + 3) 104 [some (.ref 301), none, none] h (some (.long (lN 0))) h' ∧ BX h' t n (2, q) ∧ XF h h' := by
  have S := X.1
  have hk3 := mdK_lt X
  obtain ⟨⟨l1, l2, l3, l4, l5⟩, lk, lq, f8, f9, cc, hcc, f7⟩ := X.2.2.1
  obtain ⟨h1, r1, X1, F1⟩ := x_ref (d := d + 2) X (f := 2) (by decide) (by decide)
  refine ⟨h1, fun Q => ?_, BX_of X1, F1⟩
  by_cases c : lx_K t n q = 258
  · rw [c] at l2
    have l4' := l4 c
    have hw : lx_wd t n q < 12 := by
      have : lx_wd t n q ≤ 12 := scan_le (by decide)
      have : lx_wd t n q ≠ 12 := fun e => hb ⟨c, e⟩
      omega
    have w0 : ∀ Q, am_J (d + 2) 90 0 [some (.long (lN (lx_w 256 0 t q (lx_E t n q - q)))), none, none] [] h Q ↔ Q (some (.int (nI (lx_wd t n q)))) h := fun Q => by
      rw [x_wordOf S G, show xI 12 (xwd (lN (lx_w 256 0 t q (lx_E t n q - q)))) = nI (lx_wd t n q) from if_pos hw]
    simp (disch := first | with_reducible assumption | omega | exact Or.inl rfl | exact Or.inr rfl | exact bI_01 | exact c_cat | exact vt_ref | exact vt_null | rfl | with_reducible repeat (first | assumption | omega | apply S_I | apply S_L | apply S_D | apply ob_I | apply ob_L | apply ob_D | apply ob_R | apply ax_I | apply ax_L | apply ax_D | apply ax_R | apply o303 | apply o307 | apply o302 | apply o301 | apply ax304 | apply ax305 | apply ax306 | apply ax308 | apply ax309 | apply ax310 | apply lt_S | apply ar305 | apply ar308 | apply ar309)) only [g104_0, g104_1, g104_4, g104_7, g104_10, g104_13, g104_14, g104_17, g104_20, g104_23, g104_24, g104_27, g104_28, g104_31, g104_32, g104_35, g104_36, g104_37, g104_38, g104_41, g104_44, g104_45, g104_46, g104_49, g104_52, g104_53, l2, l4', nI_ltI, nI_leI, nI_eq, nI_add, nI_sub, nI_lt0, nI_e0, nI_m1, m1_nI, Nat.reduceEqDiff, Nat.reduceLT, Nat.reduceLeDiff, Nat.reduceAdd, Nat.reduceSub, Nat.reduceMul, ↓reduceIte, eq_self, Option.toList, List.nil_append, List.cons_append, va_rf, w0 _, r1 _]
  · have hk4 : lx_K t n q ≤ 263 := hk3
    simp (disch := first | with_reducible assumption | omega | exact Or.inl rfl | exact Or.inr rfl | exact bI_01 | exact c_cat | exact vt_ref | exact vt_null | rfl | with_reducible repeat (first | assumption | omega | apply S_I | apply S_L | apply S_D | apply ob_I | apply ob_L | apply ob_D | apply ob_R | apply ax_I | apply ax_L | apply ax_D | apply ax_R | apply o303 | apply o307 | apply o302 | apply o301 | apply ax304 | apply ax305 | apply ax306 | apply ax308 | apply ax309 | apply ax310 | apply lt_S | apply ar305 | apply ar308 | apply ar309)) only [g104_0, g104_1, g104_4, g104_7, g104_10, g104_13, g104_14, g104_17, g104_20, g104_23, g104_24, g104_27, g104_28, g104_31, g104_32, g104_35, g104_36, g104_37, g104_38, g104_41, g104_44, g104_45, g104_46, g104_49, g104_52, g104_53, l2, c, nI_ltI, nI_leI, nI_eq, nI_add, nI_sub, nI_lt0, nI_e0, nI_m1, m1_nI, Nat.reduceEqDiff, Nat.reduceLT, Nat.reduceLeDiff, Nat.reduceAdd, Nat.reduceSub, Nat.reduceMul, ↓reduceIte, eq_self, Option.toList, List.nil_append, List.cons_append, va_rf, r1 _]
end PLN

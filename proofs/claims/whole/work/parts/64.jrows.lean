/-! BOTH PARSERS: references and ranges -/
def rEnd (t : Nat → Nat) (n : Nat) (md : Nat ⊕ (Nat × Nat)) : Nat ⊕ (Nat × Nat) := if mdK t n md = 259 then mdA t n md else mdR 2 md
theorem nrng_eq (a b : Nat) : ∀ m j (N : List Nat), nrng a b N j m = ((List.range m).map fun i => rgC a b (j + i)).foldl nadd N := by
  intro m
  induction m with
  | zero => intro j N; rfl
  | succ m ih =>
    intro j N
    show nrng a b (nadd N (rgC a b j)) (j + 1) m = _
    rw [ih, List.range_succ_eq_map, List.map_cons, List.foldl_cons, List.map_map]
    congr 1
    apply List.map_congr_left
    intro i _
    show rgC a b (j + 1 + i) = rgC a b (j + (i + 1))
    congr 1; omega
theorem nrng_L (a b : Nat) (N : List Nat) : nrng a b N 0 (rgN a b) = (rgL a b).foldl nadd N := by
  rw [nrng_eq]; unfold rgL
  congr 1
  apply List.map_congr_left
  intro i _
  rw [Nat.zero_add]
theorem ref_text {t : Nat → Nat} {n q : Nat} (hK : lx_K t n q = 259) : tx t q 3 = clN (lx_c t q) ∧ lx_E t n q = q + 3 ∧ (∀ i, i < 3 → t (q + i) < 128) ∧ q + 3 ≤ n := by
  obtain ⟨r0, r1, r2, r3, r4, r5⟩ := lx_ref hK
  have hl : isL (t q) = false := by simp [isL]; omega
  have hg : isG (t q) = false := by simp [isG]; omega
  refine ⟨?_, ?_, fun i hi => ?_, by omega⟩
  · rw [tx_succ, tx_succ, tx_succ]
    unfold clN lx_c
    show [t q, t (q + 1), t (q + 1 + 1)] = _
    rw [show q + 1 + 1 = q + 2 by omega]
    congr 1
    · omega
    · congr 1
      · omega
      · congr 1; omega
  · simp only [lx_E, show ¬ n ≤ q by omega, hl, hg, r0, and_self, ↓reduceIte, Bool.false_eq_true]
  · rcases (show i = 0 ∨ i = 1 ∨ i = 2 by omega) with rfl | rfl | rfl
    · rw [Nat.add_zero]; omega
    · omega
    · omega
section JRW
variable {d : Nat} {h hx hm : am_H} {Q : Option Value → am_H → Prop} {v1 v2 v3 : Option Value} {so s vis on na nc nf : Nat} {oX oM : Int64} {agX agM cnX cnM fnX fnM : Nat → Int64} {fnA : Nat → Nat}
variable {t : Nat → Nat} {n q : Nat} {md : Nat ⊕ (Nat × Nat)} {C : List (Int32 × Int64)} {P : List Int32} {N : List Nat} {F ln lp wn wp : Int32} {k o m : Nat} {k' o' : Int32} {ltx ltm : Option (Nat × Nat)}
theorem px_pos (X : PX h t n md C P N F k' o' ln lp) : (∃ e, e ≤ 240 ∧ am_I h 302 1 = nI e) ∧ (∃ e, e ≤ 240 ∧ am_I h 302 3 = nI e) ∧ ∃ c, c < 256 ∧ am_I h 302 7 = nI c := by
  match md, X with
  | .inl q, X =>
    have h240 := X.2.1.2.2.1
    obtain ⟨⟨l1, l2, l3, l4⟩, lk, lq, f8, f9, c⟩ := X.2.2.1
    exact ⟨⟨_, by have := lx_E_le lq lk; omega, l1⟩, ⟨q, by omega, l3⟩, c⟩
  | .inr y, X => exact bx_pos (BX_of X)
/-- rangeEnd -/
theorem x_rangeEnd (X : PX h t n md C P N F k' o' ln lp) : ∃ h' c P', c < 256 ∧ am_run (d + 3) 100 [some (.ref 301), none] h (some (.int (nI c))) h' ∧ PX h' t n (rEnd t n md) C P' N F k' o' ln lp ∧ XF h h' ∧ P'.length ≤ P.length + 240 ∧ (∀ q, md = .inl q → lx_K t n q = 259 → c = lx_c t q ∧ P' = xcop t n P q 3) := by
  have S := X.1
  have tk := x_tok X
  have hk := mdK_lt X
  obtain ⟨⟨e, e1, e2⟩, ⟨a, a1, a2⟩, c, hc, ec⟩ := px_pos X
  by_cases h9 : mdK t n md = 259
  · rw [show rEnd t n md = mdA t n md from if_pos h9]
    obtain ⟨h1, r1, X1, F1⟩ := x_copy (d := d + 1) (e := e) (a := a) (by omega) (by omega) X e2
    have S1 := X1.1
    obtain ⟨h2, r2, X2, F2⟩ := x_adv (d := d) (v1 := none) X1
    refine ⟨h2, c, _, hc, fun Q => ?_, X2, XF_trans (XF_303 F1) F2, by have := xcop_len (t := t) (n := n) (e - a) a P; omega, fun q eq hK => ?_⟩
    · simp (disch := first | with_reducible assumption | omega | exact Or.inl rfl | exact Or.inr rfl | exact bI_01 | exact c_cat | exact vt_ref | exact vt_null | rfl | with_reducible repeat (first | assumption | omega | apply S_I | apply S_L | apply S_D | apply ob_I | apply ob_L | apply ob_D | apply ob_R | apply ax_I | apply ax_L | apply ax_D | apply ax_R | apply o303 | apply o307 | apply o302 | apply o301 | apply ax304 | apply ax305 | apply ax306 | apply ax308 | apply ax309 | apply ax310 | apply lt_S | apply ar305 | apply ar308 | apply ar309)) only [g100_0, g100_1, g100_4, g100_7, g100_8, g100_9, g100_12, g100_15, g100_18, g100_21, g100_22, g100_23, g100_26, g100_29, g100_32, g100_33, g100_36, g100_39, g100_42, g100_43, g100_46, g100_47, g100_50, g100_51, tk, h9, ec, a2, nI_ltI, nI_leI, nI_eq, nI_add, nI_sub, nI_lt0, nI_e0, nI_m1, m1_nI, Nat.reduceEqDiff, Nat.reduceLT, Nat.reduceLeDiff, Nat.reduceAdd, Nat.reduceSub, Nat.reduceMul, ↓reduceIte, eq_self, Option.toList, List.nil_append, List.cons_append, va_rf, r1 _, r2 _]
    · subst eq
      obtain ⟨⟨l1, l2, l3, l4, l5, l6⟩, -⟩ := X.2.2.1
      have h240 := X.2.1.2.2.1
      obtain ⟨rt1, rt2, rt3, rt4⟩ := ref_text hK
      have e3 : e = q + 3 := by rw [l1, rt2] at e2; exact ((nI_eq (by omega) (by omega)).mp e2).symm
      have e4 : a = q := by rw [l3] at a2; exact ((nI_eq (by omega) (by omega)).mp a2).symm
      have e5 : c = lx_c t q := by rw [l6 hK] at ec; exact ((nI_eq (by have := lx_c_lt hK; omega) (by omega)).mp ec).symm
      refine ⟨e5, ?_⟩
      rw [e4, e3, show q + 3 - q = 3 by omega]
  · rw [show rEnd t n md = mdR 2 md from if_neg h9]
    obtain ⟨h1, r1, X1, F1⟩ := x_ref (d := d + 2) X (f := 2) (by decide) (by decide)
    refine ⟨h1, c, P, hc, fun Q => ?_, X1, F1, by omega, fun q eq hK => by subst eq; exact absurd hK h9⟩
    simp (disch := first | with_reducible assumption | omega | exact Or.inl rfl | exact Or.inr rfl | exact bI_01 | exact c_cat | exact vt_ref | exact vt_null | rfl | with_reducible repeat (first | assumption | omega | apply S_I | apply S_L | apply S_D | apply ob_I | apply ob_L | apply ob_D | apply ob_R | apply ax_I | apply ax_L | apply ax_D | apply ax_R | apply o303 | apply o307 | apply o302 | apply o301 | apply ax304 | apply ax305 | apply ax306 | apply ax308 | apply ax309 | apply ax310 | apply lt_S | apply ar305 | apply ar308 | apply ar309)) only [g100_0, g100_1, g100_4, g100_7, g100_8, g100_9, g100_12, g100_15, g100_18, g100_21, g100_22, g100_23, g100_26, g100_29, g100_32, g100_33, g100_36, g100_39, g100_42, g100_43, g100_46, g100_47, g100_50, g100_51, tk, h9, ec, nI_ltI, nI_leI, nI_eq, nI_add, nI_sub, nI_lt0, nI_e0, nI_m1, m1_nI, Nat.reduceEqDiff, Nat.reduceLT, Nat.reduceLeDiff, Nat.reduceAdd, Nat.reduceSub, Nat.reduceMul, ↓reduceIte, eq_self, Option.toList, List.nil_append, List.cons_append, va_rf, r1 _]
/-- the end of range -/
theorem x_rngFin (X : PX h t n md C P N F k' o' ln lp) (hso : am_I h 301 5 = nI so) (hs3 : so < 3) {a c1 c3 : Nat} (hc1 : c1 < 256) (hc3 : c3 < 256) : ∃ h', (∀ Q, am_J (d + 4) 99 49 [some (.ref 301), some (.int (nI a)), some (.int (nI c1)), some (.int (nI c3)), some (.int (nI (c1 + 256 * c3))), none] [] h Q ↔ Q (some (.int (nI (c1 + 256 * c3)))) h') ∧ PX h' t n md C P (if so = 0 ∧ rgS c1 c3 = true then (rgL c1 c3).foldl nadd N else N) F k' o' (if so = 0 ∧ rgS c1 c3 = true then ln else (xlat ln lp (nI 4) (nI a)).1) (if so = 0 ∧ rgS c1 c3 = true then lp else (xlat ln lp (nI 4) (nI a)).2) ∧ XF h h' := by
  have S := X.1
  by_cases h0 : so = 0 ∧ rgS c1 c3 = true
  · obtain ⟨h4, W4, X4, F4⟩ := x_rngLoop (d := d + 1) (p := nI a) (x := nI c1) (y := nI c3) hc1 hc3 h0.2 _ 0 h N rfl (Nat.zero_le _) X
    rw [Nat.sub_zero, nrng_L] at X4
    refine ⟨h4, fun Q => ?_, by rw [if_pos h0, if_pos h0, if_pos h0]; exact X4, XF_303 F4⟩
    rw [← W4 Q]
    simp (disch := first | with_reducible assumption | omega | exact Or.inl rfl | exact Or.inr rfl | exact bI_01 | exact c_cat | exact vt_ref | exact vt_null | rfl | with_reducible repeat (first | assumption | omega | apply S_I | apply S_L | apply S_D | apply ob_I | apply ob_L | apply ob_D | apply ob_R | apply ax_I | apply ax_L | apply ax_D | apply ax_R | apply o303 | apply o307 | apply o302 | apply o301 | apply ax304 | apply ax305 | apply ax306 | apply ax308 | apply ax309 | apply ax310 | apply lt_S | apply ar305 | apply ar308 | apply ar309)) only [g99_49, g99_50, g99_53, g99_56, g99_57, g99_58, g99_61, g99_64, g99_65, hso, h0.1, nI_ltI, nI_leI, nI_eq, nI_add, nI_sub, nI_lt0, nI_e0, nI_m1, m1_nI, Nat.reduceEqDiff, Nat.reduceLT, Nat.reduceLeDiff, Nat.reduceAdd, Nat.reduceSub, Nat.reduceMul, ↓reduceIte, eq_self, Option.toList, List.nil_append, List.cons_append, va_rf, x_isSound, h0.2, bI_t]
  · obtain ⟨h4, r4, X4, F4⟩ := x_later (d := d + 3) X (f := nI 4) (p := nI a)
    refine ⟨h4, fun Q => ?_, by rw [if_neg h0, if_neg h0, if_neg h0]; exact X4, F4⟩
    by_cases c : so = 0
    · have hS : rgS c1 c3 = false := by
        cases e : rgS c1 c3 with
        | false => rfl
        | true => exact absurd ⟨c, e⟩ h0
      simp (disch := first | with_reducible assumption | omega | exact Or.inl rfl | exact Or.inr rfl | exact bI_01 | exact c_cat | exact vt_ref | exact vt_null | rfl | with_reducible repeat (first | assumption | omega | apply S_I | apply S_L | apply S_D | apply ob_I | apply ob_L | apply ob_D | apply ob_R | apply ax_I | apply ax_L | apply ax_D | apply ax_R | apply o303 | apply o307 | apply o302 | apply o301 | apply ax304 | apply ax305 | apply ax306 | apply ax308 | apply ax309 | apply ax310 | apply lt_S | apply ar305 | apply ar308 | apply ar309)) only [g99_49, g99_50, g99_53, g99_56, g99_57, g99_58, g99_61, g99_64, g99_65, g99_100, g99_101, g99_102, g99_103, g99_106, g99_108, hso, c, nI_ltI, nI_leI, nI_eq, nI_add, nI_sub, nI_lt0, nI_e0, nI_m1, m1_nI, Nat.reduceEqDiff, Nat.reduceLT, Nat.reduceLeDiff, Nat.reduceAdd, Nat.reduceSub, Nat.reduceMul, ↓reduceIte, eq_self, Option.toList, List.nil_append, List.cons_append, va_rf, x_isSound, hS, bI_f, r4 _]
    · simp (disch := first | with_reducible assumption | omega | exact Or.inl rfl | exact Or.inr rfl | exact bI_01 | exact c_cat | exact vt_ref | exact vt_null | rfl | with_reducible repeat (first | assumption | omega | apply S_I | apply S_L | apply S_D | apply ob_I | apply ob_L | apply ob_D | apply ob_R | apply ax_I | apply ax_L | apply ax_D | apply ax_R | apply o303 | apply o307 | apply o302 | apply o301 | apply ax304 | apply ax305 | apply ax306 | apply ax308 | apply ax309 | apply ax310 | apply lt_S | apply ar305 | apply ar308 | apply ar309)) only [g99_49, g99_50, g99_53, g99_56, g99_57, g99_58, g99_61, g99_64, g99_65, g99_100, g99_101, g99_102, g99_103, g99_106, g99_108, hso, c, nI_ltI, nI_leI, nI_eq, nI_add, nI_sub, nI_lt0, nI_e0, nI_m1, m1_nI, Nat.reduceEqDiff, Nat.reduceLT, Nat.reduceLeDiff, Nat.reduceAdd, Nat.reduceSub, Nat.reduceMul, ↓reduceIte, eq_self, Option.toList, List.nil_append, List.cons_append, va_rf, r4 _]
/-- where range stands behind its three tokens -/
def rMd (t : Nat → Nat) (n q k : Nat) : Nat ⊕ (Nat × Nat) := rEnd t n (mpass t n (rEnd t n (if lx_K t n q = 259 then (xpart (.inl q) (nI k)).1 else .inl q)) 58)
theorem x_range (X : PX h t n (.inl q) C P N F (nI k) o' ln lp) (hk : k ≤ 40) (hso : am_I h 301 5 = nI so) (hs3 : so < 3) : ∃ h' c1 c3 P' N' ln' lp' kk, c1 < 256 ∧ c3 < 256 ∧ am_run (d + 8) 99 [some (.ref 301), none, none, none, none, none] h (some (.int (nI (c1 + 256 * c3)))) h' ∧ XF h h' ∧ PX h' t n (rMd t n q k) C P' N' F kk o' ln' lp' ∧
    (∀ q1 q2, lx_K t n q = 259 → k < 40 → mdA t n (.inl q) = .inl q1 → lx_K t n q1 = 58 → mdA t n (.inl q1) = .inl q2 → lx_K t n q2 = 259 → kk = nI (k + 1) ∧ c1 = lx_c t q ∧ c3 = lx_c t q2 ∧ P' = xcop t n (xpad (xcop t n P q 3) (nI 58)) q2 3 ∧ N' = (if so = 0 ∧ rgS c1 c3 = true then (rgL c1 c3).foldl nadd N else N) ∧ ln' = (if so = 0 ∧ rgS c1 c3 = true then ln else (xlat ln lp (nI 4) (nI q)).1) ∧ lp' = (if so = 0 ∧ rgS c1 c3 = true then lp else (xlat ln lp (nI 4) (nI q)).2)) := by
  have S := X.1
  have tk : am_I h 302 2 = nI (lx_K t n q) := x_tok X
  have hkk : lx_K t n q ≤ 263 := mdK_lt X
  obtain ⟨⟨l1, l2, l3, l4⟩, -⟩ := X.2.2.1
  have hqn := X.2.2.1.2.2.1
  have h240 := X.2.1.2.2.1
  have H : ∀ h0 (md0 : Nat ⊕ (Nat × Nat)) (kk : Int32), XF h h0 → PX h0 t n md0 C P N F kk o' ln lp → (∀ Q, am_J (d + 8) 99 0 [some (.ref 301), none, none, none, none, none] [] h Q ↔ am_J (d + 8) 99 25 [some (.ref 301), some (.int (nI q)), none, none, none, none] [] h0 Q) → ∃ h' c1 c3 P' N' ln' lp', c1 < 256 ∧ c3 < 256 ∧ am_run (d + 8) 99 [some (.ref 301), none, none, none, none, none] h (some (.int (nI (c1 + 256 * c3)))) h' ∧ XF h h' ∧ PX h' t n (rEnd t n (mpass t n (rEnd t n md0) 58)) C P' N' F kk o' ln' lp' ∧
    (∀ q1 q2, md0 = .inl q → lx_K t n q = 259 → mdA t n (.inl q) = .inl q1 → lx_K t n q1 = 58 → mdA t n (.inl q1) = .inl q2 → lx_K t n q2 = 259 → c1 = lx_c t q ∧ c3 = lx_c t q2 ∧ P' = xcop t n (xpad (xcop t n P q 3) (nI 58)) q2 3 ∧ N' = (if so = 0 ∧ rgS c1 c3 = true then (rgL c1 c3).foldl nadd N else N) ∧ ln' = (if so = 0 ∧ rgS c1 c3 = true then ln else (xlat ln lp (nI 4) (nI q)).1) ∧ lp' = (if so = 0 ∧ rgS c1 c3 = true then lp else (xlat ln lp (nI 4) (nI q)).2)) := by
    intro h0 md0 kk F0 X0 W0
    have S0 := X0.1
    obtain ⟨h1, c1, P1, hc1, r1, X1, F1, -, i1⟩ := x_rangeEnd (d := d + 4) X0
    have S1 := X1.1
    obtain ⟨h2, r2, X2, F2⟩ := x_pass (d := d + 4) X1 (c := 58) (by decide)
    have S2 := X2.1
    obtain ⟨h3, c3, P3, hc3, r3, X3, F3, -, i3⟩ := x_rangeEnd (d := d + 4) X2
    have S3 := X3.1
    have F03 := XF_trans F0 (XF_trans F1 (XF_trans F2 F3))
    obtain ⟨h4, W4, X4, F4⟩ := x_rngFin (d := d + 4) X3 ((F03.2.1 5 (by decide)).trans hso) hs3 hc1 hc3 (a := q)
    refine ⟨h4, c1, c3, P3, _, _, _, hc1, hc3, fun Q => ?_, XF_trans F03 F4, X4, fun q1 q2 e0 k0 e1 k1 e2 k2 => ?_⟩
    · rw [W0, ← W4 Q]
      simp (disch := first | with_reducible assumption | omega | exact Or.inl rfl | exact Or.inr rfl | exact bI_01 | exact c_cat | exact vt_ref | exact vt_null | rfl | with_reducible repeat (first | assumption | omega | apply S_I | apply S_L | apply S_D | apply ob_I | apply ob_L | apply ob_D | apply ob_R | apply ax_I | apply ax_L | apply ax_D | apply ax_R | apply o303 | apply o307 | apply o302 | apply o301 | apply ax304 | apply ax305 | apply ax306 | apply ax308 | apply ax309 | apply ax310 | apply lt_S | apply ar305 | apply ar308 | apply ar309)) only [g99_25, g99_26, g99_29, g99_30, g99_31, g99_33, g99_36, g99_37, g99_40, g99_41, g99_42, g99_43, g99_45, g99_46, g99_47, nI_ltI, nI_leI, nI_eq, nI_add, nI_sub, nI_lt0, nI_e0, nI_m1, m1_nI, Nat.reduceEqDiff, Nat.reduceLT, Nat.reduceLeDiff, Nat.reduceAdd, Nat.reduceSub, Nat.reduceMul, ↓reduceIte, eq_self, Option.toList, List.nil_append, List.cons_append, va_rf, r1 _, r2 _, r3 _, or8]
    · subst e0
      obtain ⟨a1, a2⟩ := i1 q rfl k0
      have m1 : rEnd t n (.inl q) = .inl q1 := (if_pos (show mdK t n (.inl q) = 259 from k0)).trans e1
      have m2 : mpass t n (.inl q1) 58 = .inl q2 := (if_pos (show mdK t n (.inl q1) = 58 from k1)).trans e2
      obtain ⟨a3, a4⟩ := i3 q2 (by rw [m1, m2]) k2
      refine ⟨a1, a3, ?_, rfl, rfl, rfl⟩
      rw [a4, a2, m1, show mdK t n (.inl q1) = 58 from k1, if_pos rfl]
  by_cases h9 : lx_K t n q = 259
  · obtain ⟨h0, r0, X0, F0⟩ := x_tellPart (d := d + 6) X
    obtain ⟨h', c1, c3, P', N', ln', lp', a1, a2, a3, a4, a5, a6⟩ := H h0 _ _ F0 X0 (fun Q => by simp (disch := first | with_reducible assumption | omega | exact Or.inl rfl | exact Or.inr rfl | exact bI_01 | exact c_cat | exact vt_ref | exact vt_null | rfl | with_reducible repeat (first | assumption | omega | apply S_I | apply S_L | apply S_D | apply ob_I | apply ob_L | apply ob_D | apply ob_R | apply ax_I | apply ax_L | apply ax_D | apply ax_R | apply o303 | apply o307 | apply o302 | apply o301 | apply ax304 | apply ax305 | apply ax306 | apply ax308 | apply ax309 | apply ax310 | apply lt_S | apply ar305 | apply ar308 | apply ar309)) only [g99_0, g99_1, g99_4, g99_7, g99_8, g99_9, g99_12, g99_15, g99_18, g99_21, g99_22, tk, h9, l3, nI_ltI, nI_leI, nI_eq, nI_add, nI_sub, nI_lt0, nI_e0, nI_m1, m1_nI, Nat.reduceEqDiff, Nat.reduceLT, Nat.reduceLeDiff, Nat.reduceAdd, Nat.reduceSub, Nat.reduceMul, ↓reduceIte, eq_self, Option.toList, List.nil_append, List.cons_append, va_rf, r0 _])
    refine ⟨h', c1, c3, P', N', ln', lp', (xpart (.inl q) (nI k)).2, a1, a2, a3, a4, ?_, fun q1 q2 e0 hk e1 k1 e2 k2 => ?_⟩
    · unfold rMd; rw [if_pos h9]; exact a5
    · rw [xpart_good hk] at a6 ⊢
      exact ⟨rfl, a6 q1 q2 rfl h9 e1 k1 e2 k2⟩
  · obtain ⟨h', c1, c3, P', N', ln', lp', a1, a2, a3, a4, a5, a6⟩ := H h _ _ XF_refl X (fun Q => by simp (disch := first | with_reducible assumption | omega | exact Or.inl rfl | exact Or.inr rfl | exact bI_01 | exact c_cat | exact vt_ref | exact vt_null | rfl | with_reducible repeat (first | assumption | omega | apply S_I | apply S_L | apply S_D | apply ob_I | apply ob_L | apply ob_D | apply ob_R | apply ax_I | apply ax_L | apply ax_D | apply ax_R | apply o303 | apply o307 | apply o302 | apply o301 | apply ax304 | apply ax305 | apply ax306 | apply ax308 | apply ax309 | apply ax310 | apply lt_S | apply ar305 | apply ar308 | apply ar309)) only [g99_0, g99_1, g99_4, g99_7, g99_8, g99_9, g99_12, g99_15, g99_18, g99_21, g99_22, tk, h9, l3, nI_ltI, nI_leI, nI_eq, nI_add, nI_sub, nI_lt0, nI_e0, nI_m1, m1_nI, Nat.reduceEqDiff, Nat.reduceLT, Nat.reduceLeDiff, Nat.reduceAdd, Nat.reduceSub, Nat.reduceMul, ↓reduceIte, eq_self, Option.toList, List.nil_append, List.cons_append, va_rf])
    refine ⟨h', c1, c3, P', N', ln', lp', nI k, a1, a2, a3, a4, ?_, fun q1 q2 e0 => absurd e0 h9⟩
    unfold rMd; rw [if_neg h9]; exact a5
/-- cellHere, as long as the text stands -/
theorem m_cellR (S : am_S h) (T : mT h t n) (l3 : am_I h 349 19 = nI q) (hK : lx_K t n q = 259) : am_J d 218 0 [some (.ref 349)] [] h Q ↔ Q (some (.int (nI (lx_c t q)))) h := by
  have h240 := T.2.1
  obtain ⟨r0, r1, r2, r3, r4, r5⟩ := lx_ref hK
  have t0 := (T.2.2 q (by omega)).2.2
  have t1 := (T.2.2 (q + 1) (by omega)).2.2
  have t2 := (T.2.2 (q + 2) (by omega)).2.2
  simp (disch := first | with_reducible assumption | omega | exact Or.inl rfl | exact Or.inr rfl | exact bI_01 | exact c_cat | exact vt_ref | exact vt_null | rfl | with_reducible repeat (first | assumption | omega | apply S_I | apply S_L | apply S_D | apply ob_I | apply ob_L | apply ob_D | apply ob_R | apply ax_I | apply ax_L | apply ax_D | apply ax_R | apply o303 | apply o307 | apply o302 | apply o301 | apply ax304 | apply ax305 | apply ax306 | apply ax308 | apply ax309 | apply ax310 | apply lt_S | apply ar305 | apply ar308 | apply ar309)) only [g218_0, g218_2, g218_3, g218_6, g218_7, g218_10, g218_11, g218_13, g218_14, g218_15, g218_17, g218_18, g218_21, g218_22, g218_25, g218_26, g218_27, g218_28, g218_30, g218_31, g218_32, g218_33, g218_34, g218_37, g218_38, g218_41, g218_42, g218_43, g218_44, g218_45, g218_47, g218_48, l3, t0, t1, t2, nI_sub, nI_add, nI_mul]
  have : 64 * (t q - 65) + 8 * (t (q + 2) - 48) + t (q + 1) - 97 = lx_c t q := by unfold lx_c; omega
  rw [this]
theorem mtok_2 {K : Nat} (hK : K ∈ [37, 40, 41, 42, 43, 44, 45, 47, 58, 60, 61, 256, 257, 258, 259, 260, 261, 262, 263]) : mtok K ≤ 5 ∧ (mtok K = 2 ↔ K = 259) := by
  have : ∀ K, K ∈ [37, 40, 41, 42, 43, 44, 45, 47, 58, 60, 61, 256, 257, 258, 259, 260, 261, 262, 263] → mtok K ≤ 5 ∧ (mtok K = 2 ↔ K = 259) := by decide +kernel
  exact this K hK
/-- the rest of rows, behind its first cell: in a fault -/
theorem bm_rowsR {y : Nat × Nat} (B : BM h t n y m) {a c : Int32} : ∃ h', (∀ Q, am_J (d + 5) 222 48 [some (.ref 349), some (.int a), some (.int c), none] [] h Q ↔ Q (some (.int (nI 0))) h') ∧ BM h' t n y m ∧ MF h h' m := by
  obtain ⟨S, -⟩ := bm_S B
  obtain ⟨h1, r1, B1, F1⟩ := bm_pass (d := d) B (v := 58) (by decide)
  obtain ⟨S1, -⟩ := bm_S B1
  by_cases e : am_I h1 349 18 = nI 2
  · obtain ⟨h', r, B', F'⟩ := bm_need (d := d + 3) B1 true
    obtain ⟨S', f', h0', h1', h2'⟩ := bm_S B'
    rw [bI_t] at r
    refine ⟨h', fun Q => ?_, B', MF_trans F1 F' (Nat.le_refl _)⟩
    simp (disch := first | with_reducible assumption | omega | exact Or.inl rfl | exact Or.inr rfl | exact bI_01 | exact c_cat | exact vt_ref | exact vt_null | rfl | with_reducible repeat (first | assumption | omega | apply S_I | apply S_L | apply S_D | apply ob_I | apply ob_L | apply ob_D | apply ob_R | apply ax_I | apply ax_L | apply ax_D | apply ax_R | apply o303 | apply o307 | apply o302 | apply o301 | apply ax304 | apply ax305 | apply ax306 | apply ax308 | apply ax309 | apply ax310 | apply lt_S | apply ar305 | apply ar308 | apply ar309)) only [g222_48, g222_49, g222_51, g222_54, g222_55, g222_56, g222_59, g222_60, g222_63, g222_64, g222_67, g222_68, g222_71, g222_72, g222_75, g222_78, g222_79, e, nI_ltI, nI_leI, nI_eq, nI_add, nI_sub, nI_lt0, nI_e0, nI_m1, m1_nI, Nat.reduceEqDiff, Nat.reduceLT, Nat.reduceLeDiff, Nat.reduceAdd, Nat.reduceSub, Nat.reduceMul, ↓reduceIte, eq_self, Option.toList, List.nil_append, List.cons_append, va_rf, r1 _, r _, h2', h0']
  · obtain ⟨h', r, B', F'⟩ := bm_need (d := d + 3) B1 false
    obtain ⟨S', f', h0', h1', h2'⟩ := bm_S B'
    rw [bI_f] at r
    refine ⟨h', fun Q => ?_, B', MF_trans F1 F' (Nat.le_refl _)⟩
    simp (disch := first | with_reducible assumption | omega | exact Or.inl rfl | exact Or.inr rfl | exact bI_01 | exact c_cat | exact vt_ref | exact vt_null | rfl | with_reducible repeat (first | assumption | omega | apply S_I | apply S_L | apply S_D | apply ob_I | apply ob_L | apply ob_D | apply ob_R | apply ax_I | apply ax_L | apply ax_D | apply ax_R | apply o303 | apply o307 | apply o302 | apply o301 | apply ax304 | apply ax305 | apply ax306 | apply ax308 | apply ax309 | apply ax310 | apply lt_S | apply ar305 | apply ar308 | apply ar309)) only [g222_48, g222_49, g222_51, g222_54, g222_55, g222_56, g222_59, g222_60, g222_63, g222_64, g222_67, g222_68, g222_71, g222_72, g222_75, g222_78, g222_79, e, nI_ltI, nI_leI, nI_eq, nI_add, nI_sub, nI_lt0, nI_e0, nI_m1, m1_nI, Nat.reduceEqDiff, Nat.reduceLT, Nat.reduceLeDiff, Nat.reduceAdd, Nat.reduceSub, Nat.reduceMul, ↓reduceIte, eq_self, Option.toList, List.nil_append, List.cons_append, va_rf, r1 _, r _, h2', h0']
theorem J_rows (J : JS t n so s vis on na nc nf oX oM agX agM cnX cnM fnX fnM fnA hx hm q C P N F k o m ltx ltm) : ∃ hx' hm' zx mr, am_run (d + 8) 99 [some (.ref 301), none, none, none, none, none] hx (some (.int zx)) hx' ∧ am_run (d + 8) 222 [some (.ref 349), none, none, none] hm (some (.int mr)) hm' ∧ XF hx hx' ∧ MF hm hm' m ∧
    ((∃ y, BX hx' t n y ∧ BM hm' t n y m) ∨ ∃ q' P' N' W a b lnx lpx lnm lpm, q < q' ∧ k < 40 ∧ P'.length ≤ P.length + (q' - q) ∧ P.length ≤ P'.length ∧ a < 256 ∧ b < 256 ∧ zx = nI (a + 256 * b) ∧ mr = nI m ∧ PX hx' t n (.inl q') C P' N' F (nI (k + 1)) (nI o) lnx lpx ∧ LT lnx lpx (mgO ltx W) ∧ MX hm' t n (.inl q') (nI (k + 1)) (nI o) (m + 1) lnm lpm ∧ LT lnm lpm (mgO ltm W) ∧ tb hm' 3648 m = (nI 10, nI a, nI b, nI 0, lN 0) ∧ (∀ z, W = some z → q ≤ z.2 ∧ z.2 < q') ∧ (W = none → so = 0 ∧ rgS a b = true ∧ P' = P ++ (clN a ++ 58 :: clN b).map nI ∧ N' = (rgL a b).foldl nadd N)) := by
  obtain ⟨⟨lnx, lpx, X, LX0⟩, ⟨lnm, lpm, Y, LM0⟩, Gv, KX, KM, KR, hC, hP, hmk, hk, ho, hq, hn⟩ := J
  obtain ⟨hx', c1, c3, P', N', ln', lp', kk, hc1, hc3, rx, Fx, X', inf⟩ := x_range (d := d) X hk KX.2.2.2.2.2.2.2.1 KX.1
  obtain ⟨S, G, T, ⟨⟨l1, l2, l3, l4⟩, lk, lq, f22, f4⟩, e1, e2, e3, e4, e5, e6⟩ := id Y
  have tk2 := mtok_2 (lx_K_mem t n q)
  have fin : ∀ hm' mr, am_run (d + 8) 222 [some (.ref 349), none, none, none] hm (some (.int mr)) hm' → MF hm hm' m → ∀ y, rMd t n q k = .inr y → BM hm' t n y m → ∃ hx' hm' zx mr, am_run (d + 8) 99 [some (.ref 301), none, none, none, none, none] hx (some (.int zx)) hx' ∧ am_run (d + 8) 222 [some (.ref 349), none, none, none] hm (some (.int mr)) hm' ∧ XF hx hx' ∧ MF hm hm' m ∧
    ((∃ y, BX hx' t n y ∧ BM hm' t n y m) ∨ ∃ q' P' N' W a b lnx lpx lnm lpm, q < q' ∧ k < 40 ∧ P'.length ≤ P.length + (q' - q) ∧ P.length ≤ P'.length ∧ a < 256 ∧ b < 256 ∧ zx = nI (a + 256 * b) ∧ mr = nI m ∧ PX hx' t n (.inl q') C P' N' F (nI (k + 1)) (nI o) lnx lpx ∧ LT lnx lpx (mgO ltx W) ∧ MX hm' t n (.inl q') (nI (k + 1)) (nI o) (m + 1) lnm lpm ∧ LT lnm lpm (mgO ltm W) ∧ tb hm' 3648 m = (nI 10, nI a, nI b, nI 0, lN 0) ∧ (∀ z, W = some z → q ≤ z.2 ∧ z.2 < q') ∧ (W = none → so = 0 ∧ rgS a b = true ∧ P' = P ++ (clN a ++ 58 :: clN b).map nI ∧ N' = (rgL a b).foldl nadd N)) := by
    intro hm' mr rm Fm y e B
    rw [e] at X'
    exact ⟨hx', hm', _, mr, rx, rm, Fx, Fm, Or.inl ⟨y, BX_of X', B⟩⟩
  by_cases h9 : lx_K t n q = 259
  · have l2' := l2
    rw [tk2.2.mpr h9] at l2'
    obtain ⟨h1, r1, Y1, F1⟩ := m_part (d := d + 6) Y (p := nI q) (fun q' e => by cases e; rfl)
    rw [nI_add] at Y1
    have S1 := Y1.1
    have T1 := Y1.2.2.1
    have L19 : am_I h1 349 19 = nI q := (m_part_keep S r1 19 (by decide) (by decide)).trans l3
    have nt : ∀ Q, am_J (d + 7) 203 0 [some (.ref 349), some (.int (nI 1))] [] hm Q ↔ Q none hm := fun Q => m_needT S
    have W0 : ∀ Q, am_J (d + 8) 222 0 [some (.ref 349), none, none, none] [] hm Q ↔ am_J (d + 8) 222 44 [some (.ref 349), some (.int (nI q)), some (.int (nI (lx_c t q))), none] [] h1 Q := by
      intro Q
      simp (disch := first | with_reducible assumption | omega | exact Or.inl rfl | exact Or.inr rfl | exact bI_01 | exact c_cat | exact vt_ref | exact vt_null | rfl | with_reducible repeat (first | assumption | omega | apply S_I | apply S_L | apply S_D | apply ob_I | apply ob_L | apply ob_D | apply ob_R | apply ax_I | apply ax_L | apply ax_D | apply ax_R | apply o303 | apply o307 | apply o302 | apply o301 | apply ax304 | apply ax305 | apply ax306 | apply ax308 | apply ax309 | apply ax310 | apply lt_S | apply ar305 | apply ar308 | apply ar309)) only [g222_0, g222_1, g222_2, g222_5, g222_6, g222_9, g222_10, g222_13, g222_14, g222_17, g222_18, g222_21, g222_24, g222_25, g222_26, g222_27, g222_30, g222_31, g222_32, g222_33, g222_36, g222_39, g222_40, g222_43, l2', l3, nI_ltI, nI_leI, nI_eq, nI_add, nI_sub, nI_lt0, nI_e0, nI_m1, m1_nI, Nat.reduceEqDiff, Nat.reduceLT, Nat.reduceLeDiff, Nat.reduceAdd, Nat.reduceSub, Nat.reduceMul, ↓reduceIte, eq_self, Option.toList, List.nil_append, List.cons_append, va_rf, nt, f22, r1 _, m_cellR S1 T1 L19 h9]
    by_cases c40 : k < 40
    · rw [mpart_good c40] at Y1
      obtain ⟨h2, r2, Y2, F2⟩ := m_nx (d := d + 4) (v1 := none) Y1
      have S2 := Y2.1
      have F02 := MF_trans F1 F2 (Nat.le_refl _)
      have W1 : ∀ Q, am_J (d + 8) 222 0 [some (.ref 349), none, none, none] [] hm Q ↔ am_J (d + 8) 222 48 [some (.ref 349), some (.int (nI q)), some (.int (nI (lx_c t q))), none] [] h2 Q := by
        intro Q
        rw [W0]
        simp (disch := first | with_reducible assumption | omega | exact Or.inl rfl | exact Or.inr rfl | exact bI_01 | exact c_cat | exact vt_ref | exact vt_null | rfl | with_reducible repeat (first | assumption | omega | apply S_I | apply S_L | apply S_D | apply ob_I | apply ob_L | apply ob_D | apply ob_R | apply ax_I | apply ax_L | apply ax_D | apply ax_R | apply o303 | apply o307 | apply o302 | apply o301 | apply ax304 | apply ax305 | apply ax306 | apply ax308 | apply ax309 | apply ax310 | apply lt_S | apply ar305 | apply ar308 | apply ar309)) only [g222_44, g222_45, Option.toList, List.nil_append, List.cons_append, va_rf, r2 _]
      match hA : mdA t n (.inl q) with
      | .inr y =>
        rw [hA] at Y2
        obtain ⟨h3, W3, B3, F3⟩ := bm_rowsR (d := d + 3) (a := nI q) (c := nI (lx_c t q)) (BM_of Y2 (Nat.le_refl _))
        refine fin h3 (nI 0) (fun Q => by rw [W1, W3]) (MF_trans F02 F3 (Nat.le_refl _)) y ?_ B3
        unfold rMd; rw [if_pos h9, xpart_good c40]
        show rEnd t n (mpass t n (rEnd t n (.inl q)) 58) = _
        rw [show rEnd t n (.inl q) = .inr y from (if_pos (show mdK t n (.inl q) = 259 from h9)).trans hA]
        rfl
      | .inl q1 =>
        rw [hA] at Y2
        obtain ⟨g1, g2, g3⟩ := mdA_gt (by have := (lx_ref h9).2.1; omega) hA
        obtain ⟨h3, r3, Y3, F3⟩ := m_pass (d := d + 3) Y2 (v := 58) (by decide)
        have S3 := Y3.1
        have F03 := MF_trans F02 F3 (Nat.le_refl _)
        have hR1 : rEnd t n (.inl q) = .inl q1 := (if_pos (show mdK t n (.inl q) = 259 from h9)).trans hA
        match hB : mpass t n (.inl q1) 58 with
        | .inr y =>
          rw [hB] at Y3
          have B3 := BM_of Y3 (Nat.le_refl _)
          obtain ⟨-, f3, hf0, hf1, hf2⟩ := bm_S B3
          have e : ∃ h4, (∀ Q, am_J (d + 8) 222 48 [some (.ref 349), some (.int (nI q)), some (.int (nI (lx_c t q))), none] [] h2 Q ↔ Q (some (.int (nI 0))) h4) ∧ BM h4 t n y m ∧ MF h3 h4 m := by
            by_cases e2 : am_I h3 349 18 = nI 2
            · obtain ⟨h', r, B', F'⟩ := bm_need (d := d + 6) B3 true
              obtain ⟨S', f', h0', h1', h2'⟩ := bm_S B'
              rw [bI_t] at r
              refine ⟨h', fun Q => ?_, B', F'⟩
              simp (disch := first | with_reducible assumption | omega | exact Or.inl rfl | exact Or.inr rfl | exact bI_01 | exact c_cat | exact vt_ref | exact vt_null | rfl | with_reducible repeat (first | assumption | omega | apply S_I | apply S_L | apply S_D | apply ob_I | apply ob_L | apply ob_D | apply ob_R | apply ax_I | apply ax_L | apply ax_D | apply ax_R | apply o303 | apply o307 | apply o302 | apply o301 | apply ax304 | apply ax305 | apply ax306 | apply ax308 | apply ax309 | apply ax310 | apply lt_S | apply ar305 | apply ar308 | apply ar309)) only [g222_48, g222_49, g222_51, g222_54, g222_55, g222_56, g222_59, g222_60, g222_63, g222_64, g222_67, g222_68, g222_71, g222_72, g222_75, g222_78, g222_79, e2, nI_ltI, nI_leI, nI_eq, nI_add, nI_sub, nI_lt0, nI_e0, nI_m1, m1_nI, Nat.reduceEqDiff, Nat.reduceLT, Nat.reduceLeDiff, Nat.reduceAdd, Nat.reduceSub, Nat.reduceMul, ↓reduceIte, eq_self, Option.toList, List.nil_append, List.cons_append, va_rf, r3 _, r _, h2', h0']
            · obtain ⟨h', r, B', F'⟩ := bm_need (d := d + 6) B3 false
              obtain ⟨S', f', h0', h1', h2'⟩ := bm_S B'
              rw [bI_f] at r
              refine ⟨h', fun Q => ?_, B', F'⟩
              simp (disch := first | with_reducible assumption | omega | exact Or.inl rfl | exact Or.inr rfl | exact bI_01 | exact c_cat | exact vt_ref | exact vt_null | rfl | with_reducible repeat (first | assumption | omega | apply S_I | apply S_L | apply S_D | apply ob_I | apply ob_L | apply ob_D | apply ob_R | apply ax_I | apply ax_L | apply ax_D | apply ax_R | apply o303 | apply o307 | apply o302 | apply o301 | apply ax304 | apply ax305 | apply ax306 | apply ax308 | apply ax309 | apply ax310 | apply lt_S | apply ar305 | apply ar308 | apply ar309)) only [g222_48, g222_49, g222_51, g222_54, g222_55, g222_56, g222_59, g222_60, g222_63, g222_64, g222_67, g222_68, g222_71, g222_72, g222_75, g222_78, g222_79, e2, nI_ltI, nI_leI, nI_eq, nI_add, nI_sub, nI_lt0, nI_e0, nI_m1, m1_nI, Nat.reduceEqDiff, Nat.reduceLT, Nat.reduceLeDiff, Nat.reduceAdd, Nat.reduceSub, Nat.reduceMul, ↓reduceIte, eq_self, Option.toList, List.nil_append, List.cons_append, va_rf, r3 _, r _, h2', h0']
          obtain ⟨h4, W4, B4, F4⟩ := e
          refine fin h4 (nI 0) (fun Q => by rw [W1, W4]) (MF_trans F03 F4 (Nat.le_refl _)) y ?_ B4
          unfold rMd; rw [if_pos h9, xpart_good c40, hR1, hB]; rfl
        | .inl q2 =>
          rw [hB] at Y3
          have k1 : lx_K t n q1 = 58 := by
            rcases Nat.decEq (lx_K t n q1) 58 with e | e
            · have hB2 := hB; unfold mpass at hB2; rw [if_neg (show ¬ mdK t n (.inl q1) = 58 from e)] at hB2; cases hB2
            · exact e
          have hA1 : mdA t n (.inl q1) = .inl q2 := by
            have hB2 := hB; unfold mpass at hB2; rw [if_pos (show mdK t n (.inl q1) = 58 from k1)] at hB2; exact hB2
          obtain ⟨g4, g5, g6⟩ := mdA_gt (lx_K_lt (by rw [k1]; decide)) hA1
          obtain ⟨S3', G3, T3, ⟨⟨p1, p2, p3, p4⟩, pk, pq, p22, p44⟩, -⟩ := id Y3
          have tk3 := mtok_2 (lx_K_mem t n q2)
          by_cases k2 : lx_K t n q2 = 259
          · have p2' := p2
            rw [tk3.2.mpr k2] at p2'
            obtain ⟨i0, i1, i2, i3, i4, i5, i6⟩ := inf q1 q2 h9 c40 hA k1 hA1 k2
            subst i0 i1 i2
            have nt3 : ∀ Q, am_J (d + 7) 203 0 [some (.ref 349), some (.int (nI 1))] [] h3 Q ↔ Q none h3 := fun Q => m_needT S3
            have hR2 : rMd t n q k = mdA t n (.inl q2) := by
              unfold rMd; rw [if_pos h9, xpart_good c40]
              show rEnd t n (mpass t n (rEnd t n (.inl q)) 58) = _
              rw [hR1, hB]
              exact if_pos (show mdK t n (.inl q2) = 259 from k2)
            have KM3 := cfM_MF F03 KM
            obtain ⟨m1, m2, m3, m4, m5, m6, m7, n1, -⟩ := id KM3
            obtain ⟨w1, w2, w3, w4⟩ := cwh_1 m1
            have l0 := lx_c_lt h9
            have l9 := lx_c_lt k2
            have z64 : ¬ nI 64 = 0 := by decide
            have z8 : ¬ nI 8 = 0 := by decide
            have WW : ∃ h4 lnm' lpm', (∀ Q, am_J (d + 8) 222 48 [some (.ref 349), some (.int (nI q)), some (.int (nI (lx_c t q))), none] [] h2 Q ↔ am_J (d + 8) 222 137 [some (.ref 349), some (.int (nI q)), some (.int (nI (lx_c t q))), some (.int (nI (lx_c t q2)))] [] h4 Q) ∧ MX h4 t n (.inl q2) (nI (k + 1)) (nI o) m lnm' lpm' ∧ MF h3 h4 m ∧ LT lnm' lpm' (mgO ltm (if so = 0 ∧ rgS (lx_c t q) (lx_c t q2) = true then none else some (4, q))) := by
              have Wp : ∀ Q, am_J (d + 8) 222 48 [some (.ref 349), some (.int (nI q)), some (.int (nI (lx_c t q))), none] [] h2 Q ↔ am_J (d + 8) 222 85 [some (.ref 349), some (.int (nI q)), some (.int (nI (lx_c t q))), some (.int (nI (lx_c t q2)))] [] h3 Q := by
                intro Q
                simp (disch := first | with_reducible assumption | omega | exact Or.inl rfl | exact Or.inr rfl | exact bI_01 | exact c_cat | exact vt_ref | exact vt_null | rfl | with_reducible repeat (first | assumption | omega | apply S_I | apply S_L | apply S_D | apply ob_I | apply ob_L | apply ob_D | apply ob_R | apply ax_I | apply ax_L | apply ax_D | apply ax_R | apply o303 | apply o307 | apply o302 | apply o301 | apply ax304 | apply ax305 | apply ax306 | apply ax308 | apply ax309 | apply ax310 | apply lt_S | apply ar305 | apply ar308 | apply ar309)) only [g222_48, g222_49, g222_51, g222_54, g222_55, g222_56, g222_59, g222_60, g222_63, g222_64, g222_67, g222_68, g222_71, g222_72, g222_75, g222_78, g222_79, g222_80, g222_81, g222_84, p2', nI_ltI, nI_leI, nI_eq, nI_add, nI_sub, nI_lt0, nI_e0, nI_m1, m1_nI, Nat.reduceEqDiff, Nat.reduceLT, Nat.reduceLeDiff, Nat.reduceAdd, Nat.reduceSub, Nat.reduceMul, ↓reduceIte, eq_self, Option.toList, List.nil_append, List.cons_append, va_rf, r3 _, nt3, p22, m_cellR S3 T3 p3 k2]
              by_cases c0 : so = 0 ∧ rgS (lx_c t q) (lx_c t q2) = true
              · refine ⟨h3, lnm, lpm, fun Q => ?_, Y3, MF_refl, by rw [if_pos c0]; exact LM0⟩
                rw [Wp]
                obtain ⟨s1, s2, s3⟩ := rgS_of c0.2
                have s4 : lx_c t q / 8 % 8 ≤ lx_c t q2 / 8 % 8 := by
                  have := c0.2; simp only [rgS, Bool.and_eq_true, decide_eq_true_eq] at this; exact this.1.2
                simp (disch := first | with_reducible assumption | omega | exact Or.inl rfl | exact Or.inr rfl | exact bI_01 | exact c_cat | exact vt_ref | exact vt_null | rfl | with_reducible repeat (first | assumption | omega | apply S_I | apply S_L | apply S_D | apply ob_I | apply ob_L | apply ob_D | apply ob_R | apply ax_I | apply ax_L | apply ax_D | apply ax_R | apply o303 | apply o307 | apply o302 | apply o301 | apply ax304 | apply ax305 | apply ax306 | apply ax308 | apply ax309 | apply ax310 | apply lt_S | apply ar305 | apply ar308 | apply ar309)) only [g222_85, g222_86, g222_89, g222_92, g222_93, g222_95, g222_96, g222_97, g222_99, g222_100, g222_103, g222_104, g222_106, g222_107, g222_109, g222_110, g222_111, g222_113, g222_114, g222_116, g222_117, g222_120, g222_121, g222_123, g222_124, g222_125, g222_127, g222_128, g222_131, n1, w3.mpr c0.1, nI_ltI, nI_leI, nI_eq, nI_add, nI_lt0, nI_e0, nI_m1, m1_nI, Nat.reduceEqDiff, Nat.reduceLT, Nat.reduceLeDiff, Nat.reduceAdd, Nat.reduceSub, Nat.reduceMul, ↓reduceIte, eq_self, nI_div, nI_rem2, nI_mul, show lx_c t q / 64 = lx_c t q2 / 64 from s1, show ¬ lx_c t q2 / 8 % 8 < lx_c t q / 8 % 8 by omega, s3]
              · obtain ⟨h4, r4, Y4, F4⟩ := m_wrong (d := d + 7) Y3 (f := nI 4) (p := nI q)
                refine ⟨h4, _, _, fun Q => ?_, Y4, F4, by rw [if_neg c0]; exact LT_mg LM0 (by omega)⟩
                rw [Wp]
                by_cases c00 : so = 0
                · have hS : ¬ rgS (lx_c t q) (lx_c t q2) = true := fun e => c0 ⟨c00, e⟩
                  simp only [rgS, Bool.and_eq_true, decide_eq_true_eq] at hS
                  by_cases q1' : lx_c t q / 64 = lx_c t q2 / 64
                  · by_cases q2' : lx_c t q2 / 8 % 8 < lx_c t q / 8 % 8
                    · simp (disch := first | with_reducible assumption | omega | exact Or.inl rfl | exact Or.inr rfl | exact bI_01 | exact c_cat | exact vt_ref | exact vt_null | rfl | with_reducible repeat (first | assumption | omega | apply S_I | apply S_L | apply S_D | apply ob_I | apply ob_L | apply ob_D | apply ob_R | apply ax_I | apply ax_L | apply ax_D | apply ax_R | apply o303 | apply o307 | apply o302 | apply o301 | apply ax304 | apply ax305 | apply ax306 | apply ax308 | apply ax309 | apply ax310 | apply lt_S | apply ar305 | apply ar308 | apply ar309)) only [g222_85, g222_86, g222_89, g222_92, g222_93, g222_95, g222_96, g222_97, g222_99, g222_100, g222_103, g222_104, g222_106, g222_107, g222_109, g222_110, g222_111, g222_113, g222_114, g222_116, g222_117, g222_120, g222_121, g222_123, g222_124, g222_125, g222_127, g222_128, g222_131, g222_132, g222_133, g222_134, n1, w3.mpr c00, nI_ltI, nI_leI, nI_eq, nI_add, nI_lt0, nI_e0, nI_m1, m1_nI, Nat.reduceEqDiff, Nat.reduceLT, Nat.reduceLeDiff, Nat.reduceAdd, Nat.reduceSub, Nat.reduceMul, ↓reduceIte, eq_self, nI_div, nI_rem2, nI_mul, q1', q2', Option.toList, List.nil_append, List.cons_append, va_rf, r4 _]
                    · simp (disch := first | with_reducible assumption | omega | exact Or.inl rfl | exact Or.inr rfl | exact bI_01 | exact c_cat | exact vt_ref | exact vt_null | rfl | with_reducible repeat (first | assumption | omega | apply S_I | apply S_L | apply S_D | apply ob_I | apply ob_L | apply ob_D | apply ob_R | apply ax_I | apply ax_L | apply ax_D | apply ax_R | apply o303 | apply o307 | apply o302 | apply o301 | apply ax304 | apply ax305 | apply ax306 | apply ax308 | apply ax309 | apply ax310 | apply lt_S | apply ar305 | apply ar308 | apply ar309)) only [g222_85, g222_86, g222_89, g222_92, g222_93, g222_95, g222_96, g222_97, g222_99, g222_100, g222_103, g222_104, g222_106, g222_107, g222_109, g222_110, g222_111, g222_113, g222_114, g222_116, g222_117, g222_120, g222_121, g222_123, g222_124, g222_125, g222_127, g222_128, g222_131, g222_132, g222_133, g222_134, n1, w3.mpr c00, nI_ltI, nI_leI, nI_eq, nI_add, nI_lt0, nI_e0, nI_m1, m1_nI, Nat.reduceEqDiff, Nat.reduceLT, Nat.reduceLeDiff, Nat.reduceAdd, Nat.reduceSub, Nat.reduceMul, ↓reduceIte, eq_self, nI_div, nI_rem2, nI_mul, q1', q2', show ¬ lx_c t q % 8 ≤ lx_c t q2 % 8 by omega, Option.toList, List.nil_append, List.cons_append, va_rf, r4 _]
                  · simp (disch := first | with_reducible assumption | omega | exact Or.inl rfl | exact Or.inr rfl | exact bI_01 | exact c_cat | exact vt_ref | exact vt_null | rfl | with_reducible repeat (first | assumption | omega | apply S_I | apply S_L | apply S_D | apply ob_I | apply ob_L | apply ob_D | apply ob_R | apply ax_I | apply ax_L | apply ax_D | apply ax_R | apply o303 | apply o307 | apply o302 | apply o301 | apply ax304 | apply ax305 | apply ax306 | apply ax308 | apply ax309 | apply ax310 | apply lt_S | apply ar305 | apply ar308 | apply ar309)) only [g222_85, g222_86, g222_89, g222_92, g222_93, g222_95, g222_96, g222_97, g222_99, g222_100, g222_103, g222_104, g222_106, g222_107, g222_109, g222_110, g222_111, g222_113, g222_114, g222_116, g222_117, g222_120, g222_121, g222_123, g222_124, g222_125, g222_127, g222_128, g222_131, g222_132, g222_133, g222_134, n1, w3.mpr c00, nI_ltI, nI_leI, nI_eq, nI_add, nI_lt0, nI_e0, nI_m1, m1_nI, Nat.reduceEqDiff, Nat.reduceLT, Nat.reduceLeDiff, Nat.reduceAdd, Nat.reduceSub, Nat.reduceMul, ↓reduceIte, eq_self, nI_div, nI_rem2, nI_mul, q1', Option.toList, List.nil_append, List.cons_append, va_rf, r4 _]
                · simp (disch := first | with_reducible assumption | omega | exact Or.inl rfl | exact Or.inr rfl | exact bI_01 | exact c_cat | exact vt_ref | exact vt_null | rfl | with_reducible repeat (first | assumption | omega | apply S_I | apply S_L | apply S_D | apply ob_I | apply ob_L | apply ob_D | apply ob_R | apply ax_I | apply ax_L | apply ax_D | apply ax_R | apply o303 | apply o307 | apply o302 | apply o301 | apply ax304 | apply ax305 | apply ax306 | apply ax308 | apply ax309 | apply ax310 | apply lt_S | apply ar305 | apply ar308 | apply ar309)) only [g222_85, g222_86, g222_89, g222_92, g222_93, g222_95, g222_96, g222_97, g222_99, g222_100, g222_103, g222_104, g222_106, g222_107, g222_109, g222_110, g222_111, g222_113, g222_114, g222_116, g222_117, g222_120, g222_121, g222_123, g222_124, g222_125, g222_127, g222_128, g222_131, g222_132, g222_133, g222_134, n1, show ¬ cwh so = 0 from fun e => c00 (w3.mp e), nI_ltI, nI_leI, nI_eq, nI_add, nI_sub, nI_lt0, nI_e0, nI_m1, m1_nI, Nat.reduceEqDiff, Nat.reduceLT, Nat.reduceLeDiff, Nat.reduceAdd, Nat.reduceSub, Nat.reduceMul, ↓reduceIte, eq_self, Option.toList, List.nil_append, List.cons_append, va_rf, r4 _]
            obtain ⟨h4, lnm', lpm', W4, Y4, F4, LM4⟩ := WW
            have S4 := Y4.1
            have F04 := MF_trans F03 F4 (Nat.le_refl _)
            obtain ⟨h5, r5, Y5, F5⟩ := m_nx (d := d + 4) (v1 := none) Y4
            have S5 := Y5.1
            have F05 := MF_trans F04 F5 (Nat.le_refl _)
            match hC2 : mdA t n (.inl q2) with
            | .inr y =>
              rw [hC2] at Y5
              obtain ⟨h6, w6, r6, -, -, B6, F6⟩ := bm_node (d := d + 7) (v5 := none) (BM_of Y5 (Nat.le_refl m)) (kd := nI 10) (x := nI (lx_c t q)) (y' := nI (lx_c t q2)) (z := nI 0)
              refine fin h6 (nI w6) (fun Q => ?_) (MF_trans F05 F6 (Nat.le_refl _)) y (hR2.trans hC2) B6
              rw [W1, W4]
              simp (disch := first | with_reducible assumption | omega | exact Or.inl rfl | exact Or.inr rfl | exact bI_01 | exact c_cat | exact vt_ref | exact vt_null | rfl | with_reducible repeat (first | assumption | omega | apply S_I | apply S_L | apply S_D | apply ob_I | apply ob_L | apply ob_D | apply ob_R | apply ax_I | apply ax_L | apply ax_D | apply ax_R | apply o303 | apply o307 | apply o302 | apply o301 | apply ax304 | apply ax305 | apply ax306 | apply ax308 | apply ax309 | apply ax310 | apply lt_S | apply ar305 | apply ar308 | apply ar309)) only [g222_137, g222_138, g222_141, g222_142, g222_144, g222_145, g222_146, g222_147, g222_150, Option.toList, List.nil_append, List.cons_append, va_rf, r5 _, r6 _]
            | .inl q3 =>
              rw [hC2] at Y5
              obtain ⟨g7, g8, g9⟩ := mdA_gt (by have := (lx_ref k2).2.1; omega) hC2
              obtain ⟨h6, r6, Y6, F6, tb6⟩ := m_nodeG (d := d + 7) (v5 := none) Y5 (by omega) (kd := nI 10) (x := nI (lx_c t q)) (y := nI (lx_c t q2)) (z := nI 0)
              rw [hR2, hC2] at X'
              obtain ⟨u1, u2, u3, u4⟩ := ref_text h9
              obtain ⟨u5, u6, u7, u8⟩ := ref_text k2
              have x1 := xcop_len (t := t) (n := n) 3 q P
              have x2 := xpad_len (P := xcop t n P q 3) (w := nI 58)
              have x3 := xcop_len (t := t) (n := n) 3 q2 (xpad (xcop t n P q 3) (nI 58))
              have E58 := lx_E_gt (t := t) (n := n) (q := q1) (lx_K_lt (by rw [k1]; decide))
              refine ⟨hx', h6, _, nI m, rx, fun Q => ?_, Fx, MF_trans F05 F6 (Nat.le_refl _), Or.inr ⟨q3, P', N', (if so = 0 ∧ rgS (lx_c t q) (lx_c t q2) = true then none else some (4, q)), lx_c t q, lx_c t q2, ln', lp', lnm', lpm', by omega, c40, by rw [i3]; omega, by rw [i3]; exact Nat.le_trans (xcop_ge _ _ _) (Nat.le_trans xpad_ge (xcop_ge _ _ _)), l0, l9, rfl, rfl, X', ?_, Y6, LM4, tb6, fun z ez => ?_, fun ez => ?_⟩⟩
              · rw [W1, W4]
                simp (disch := first | with_reducible assumption | omega | exact Or.inl rfl | exact Or.inr rfl | exact bI_01 | exact c_cat | exact vt_ref | exact vt_null | rfl | with_reducible repeat (first | assumption | omega | apply S_I | apply S_L | apply S_D | apply ob_I | apply ob_L | apply ob_D | apply ob_R | apply ax_I | apply ax_L | apply ax_D | apply ax_R | apply o303 | apply o307 | apply o302 | apply o301 | apply ax304 | apply ax305 | apply ax306 | apply ax308 | apply ax309 | apply ax310 | apply lt_S | apply ar305 | apply ar308 | apply ar309)) only [g222_137, g222_138, g222_141, g222_142, g222_144, g222_145, g222_146, g222_147, g222_150, Option.toList, List.nil_append, List.cons_append, va_rf, r5 _, r6 _]
              · rw [i5, i6]
                by_cases c0 : so = 0 ∧ rgS (lx_c t q) (lx_c t q2) = true
                · rw [if_pos c0, if_pos c0, if_pos c0]; exact LX0
                · rw [if_neg c0, if_neg c0, if_neg c0]; exact LT_mg LX0 (by omega)
              · by_cases c0 : so = 0 ∧ rgS (lx_c t q) (lx_c t q2) = true
                · rw [if_pos c0] at ez; cases ez
                · rw [if_neg c0] at ez; cases ez; exact ⟨Nat.le_refl _, show q < q3 by omega⟩
              · have c0 : so = 0 ∧ rgS (lx_c t q) (lx_c t q2) = true := by
                  by_cases c0 : so = 0 ∧ rgS (lx_c t q) (lx_c t q2) = true
                  · exact c0
                  · rw [if_neg c0] at ez; cases ez
                refine ⟨c0.1, c0.2, ?_, by rw [i4, if_pos c0]⟩
                rw [i3, xcop_eq 3 q P (by omega) (by omega) u3, u1, xpad_eq (by rw [List.length_append, List.length_map]; simp [clN]; omega) (by decide), xcop_eq 3 q2 _ (by omega) (by simp [clN]; omega) u7, u5]
                simp [clN]
          · have hR2 : rMd t n q k = .inr (2, q2) := by
              unfold rMd; rw [if_pos h9, xpart_good c40]
              show rEnd t n (mpass t n (rEnd t n (.inl q)) 58) = _
              rw [hR1, hB]
              exact if_neg (show ¬ mdK t n (.inl q2) = 259 from k2)
            obtain ⟨h', r, B', F'⟩ := m_needF (d := d + 6) Y3
            have B4 : BM h' t n (2, q2) m := BM_of B' (Nat.le_refl _)
            obtain ⟨S', f', h0', h1', h2'⟩ := bm_S B4
            rw [bI_f] at r
            refine fin h' (nI 0) (fun Q => ?_) (MF_trans F03 F' (Nat.le_refl _)) (2, q2) hR2 B4
            rw [W1]
            simp (disch := first | with_reducible assumption | omega | exact Or.inl rfl | exact Or.inr rfl | exact bI_01 | exact c_cat | exact vt_ref | exact vt_null | rfl | with_reducible repeat (first | assumption | omega | apply S_I | apply S_L | apply S_D | apply ob_I | apply ob_L | apply ob_D | apply ob_R | apply ax_I | apply ax_L | apply ax_D | apply ax_R | apply o303 | apply o307 | apply o302 | apply o301 | apply ax304 | apply ax305 | apply ax306 | apply ax308 | apply ax309 | apply ax310 | apply lt_S | apply ar305 | apply ar308 | apply ar309)) only [g222_48, g222_49, g222_51, g222_54, g222_55, g222_56, g222_59, g222_60, g222_63, g222_64, g222_67, g222_68, g222_71, g222_72, g222_75, g222_78, g222_79, p2, show ¬ mtok (lx_K t n q2) = 2 from fun e => k2 (tk3.2.mp e), nI_ltI, nI_leI, nI_eq, nI_add, nI_sub, nI_lt0, nI_e0, nI_m1, m1_nI, Nat.reduceEqDiff, Nat.reduceLT, Nat.reduceLeDiff, Nat.reduceAdd, Nat.reduceSub, Nat.reduceMul, ↓reduceIte, eq_self, Option.toList, List.nil_append, List.cons_append, va_rf, r3 _, r _, h2', h0']
    · obtain rfl : k = 40 := by omega
      rw [mpart_bad] at Y1
      obtain ⟨h2, r2, B2, F2⟩ := bm_nx (d := d + 4) (v1 := none) (BM_of Y1 (Nat.le_refl m))
      have S2 := (bm_S B2).1
      obtain ⟨h3, W3, B3, F3⟩ := bm_rowsR (d := d + 3) (a := nI q) (c := nI (lx_c t q)) B2
      refine fin h3 (nI 0) (fun Q => ?_) (MF_trans F1 (MF_trans F2 F3 (Nat.le_refl _)) (Nat.le_refl _)) (3, q) ?_ B3
      · rw [W0, ← W3 Q]
        simp (disch := first | with_reducible assumption | omega | exact Or.inl rfl | exact Or.inr rfl | exact bI_01 | exact c_cat | exact vt_ref | exact vt_null | rfl | with_reducible repeat (first | assumption | omega | apply S_I | apply S_L | apply S_D | apply ob_I | apply ob_L | apply ob_D | apply ob_R | apply ax_I | apply ax_L | apply ax_D | apply ax_R | apply o303 | apply o307 | apply o302 | apply o301 | apply ax304 | apply ax305 | apply ax306 | apply ax308 | apply ax309 | apply ax310 | apply lt_S | apply ar305 | apply ar308 | apply ar309)) only [g222_44, g222_45, Option.toList, List.nil_append, List.cons_append, va_rf, r2 _]
      · unfold rMd; rw [if_pos h9, xpart_bad]; rfl
  · obtain ⟨h', r, B', F'⟩ := m_needF (d := d + 6) Y
    have B4 : BM h' t n (2, q) m := BM_of B' (Nat.le_refl _)
    obtain ⟨S', f', h0', h1', h2'⟩ := bm_S B4
    rw [bI_f] at r
    refine fin h' (nI 0) (fun Q => ?_) F' (2, q) ?_ B4
    · simp (disch := first | with_reducible assumption | omega | exact Or.inl rfl | exact Or.inr rfl | exact bI_01 | exact c_cat | exact vt_ref | exact vt_null | rfl | with_reducible repeat (first | assumption | omega | apply S_I | apply S_L | apply S_D | apply ob_I | apply ob_L | apply ob_D | apply ob_R | apply ax_I | apply ax_L | apply ax_D | apply ax_R | apply o303 | apply o307 | apply o302 | apply o301 | apply ax304 | apply ax305 | apply ax306 | apply ax308 | apply ax309 | apply ax310 | apply lt_S | apply ar305 | apply ar308 | apply ar309)) only [g222_0, g222_1, g222_2, g222_5, g222_6, g222_9, g222_10, g222_13, g222_14, g222_17, g222_18, g222_21, g222_24, g222_25, l2, show ¬ mtok (lx_K t n q) = 2 from fun e => h9 (tk2.2.mp e), nI_ltI, nI_leI, nI_eq, nI_add, nI_sub, nI_lt0, nI_e0, nI_m1, m1_nI, Nat.reduceEqDiff, Nat.reduceLT, Nat.reduceLeDiff, Nat.reduceAdd, Nat.reduceSub, Nat.reduceMul, ↓reduceIte, eq_self, Option.toList, List.nil_append, List.cons_append, va_rf, r _, h2', h0']
    · unfold rMd; rw [if_neg h9]
      show rEnd t n (mpass t n (rEnd t n (.inl q)) 58) = _
      rw [show rEnd t n (.inl q) = .inr (2, q) from if_neg (show ¬ mdK t n (.inl q) = 259 from h9)]
      rfl
end JRW

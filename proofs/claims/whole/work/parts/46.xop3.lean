/-! THE CLASS'S PARSER: copying, needs, looking up -/
def am_Gv (h : am_H) : Prop := am_tg h 1 = (111, 12) ∧ (∀ j, j < 12 → am_L h 1 j = am_wdl.getD j 0) ∧ am_tg h 2 = (14, 0) ∧ am_R h 2 0 = some 3 ∧ am_I h 2 1 = 0 ∧ am_tg h 3 = (113, 72) ∧ ∀ j, j < 72 → am_I h 3 j = am_txb.getD j 0
theorem Gv_fr {P : Nat → Prop} {h g : am_H} (F : am_fr P h g) (h1 : ¬ P 1) (h2 : ¬ P 2) (h3 : ¬ P 3) (G : am_Gv h) : am_Gv g := by
  obtain ⟨a1, a2, a3, a4, a5, a6, a7⟩ := G
  refine ⟨(fr_tg F).trans a1, fun j hj => (fr_rdL F h1).trans (a2 j hj), (fr_tg F).trans a3, (fr_rdR F).trans a4, (fr_rdI F h2).trans a5, (fr_tg F).trans a6, fun j hj => (fr_rdI F h3).trans (a7 j hj)⟩
/-- an index, or -1 -/
def xI (n i : Nat) : Int32 := if i < n then nI i else -1
def fdI (f : Nat → Int64) (x : Int64) (n : Nat) : Nat := am_scan (fun i => !decide (f i = x)) n 0
def xwd (x : Int64) : Nat := fdI (fun i => am_wdl.getD i 0) x 12
theorem lg_cmp0 {x y : Int64} : lg_cmp x y = 0 ↔ x = y := by
  unfold lg_cmp
  split
  · rename_i h; constructor
    · intro e; exact absurd e (by decide)
    · intro e; subst e; exact absurd h (Int64.lt_irrefl)
  · split
    · rename_i h _; constructor
      · intro _; assumption
      · intro _; rfl
    · rename_i h1 h2; constructor
      · intro e; exact absurd e (by decide)
      · intro e; exact absurd e h2
section XOR
variable {d : Nat} {h g : am_H} {Q : Option Value → am_H → Prop} {v0 v1 v2 v3 v4 : Option Value} {t : Nat → Nat} {n : Nat} {md : Nat ⊕ (Nat × Nat)} {C : List (Int32 × Int64)} {P : List Int32} {N : List Nat} {F k o ln lp : Int32}
theorem x_wordLoop (S : am_S h) (G : am_Gv h) {x : Int64} : ∀ m i, 12 - i = m → i ≤ 12 → (am_J d 90 2 [some (.long x), none, some (.int (nI i))] [] h Q ↔ Q (some (.int (xI 12 (am_scan (fun i => !decide (am_wdl.getD i 0 = x)) 12 i)))) h) := by
  intro m
  induction m with
  | zero =>
    intro i hm hi
    obtain rfl : i = 12 := by omega
    have T1 := G.1
    have L1 : 1 < h.1 := am_S_lt S (by decide)
    have A1 : 100 ≤ (am_tg h 1).1 := by rw [T1]; decide
    rw [scan_stop (fun q => absurd q.1 (by decide)), g90_2]
    simp (disch := first | with_reducible assumption | omega | exact Or.inl rfl | exact Or.inr rfl | exact bI_01 | exact c_cat | rfl | with_reducible repeat (first | assumption | apply S_I | apply S_L | apply S_D | apply ob_I | apply ob_L | apply ob_D | apply ob_R | apply ax_I | apply ax_L | apply ax_D | apply ax_R)) only [g90_3, g90_6, g90_7, g90_10, g90_13, g90_14, g90_15, g90_16, g90_17, g90_20, g90_21, g90_22, g90_25, g90_28, g90_29, T1, nI_ltI, nI_leI, nI_eq, nI_add, nI_sub, nI_lt0, nI_e0, nI_m1, m1_nI, Nat.reduceEqDiff, Nat.reduceLT, Nat.reduceLeDiff, Nat.reduceAdd, Nat.reduceSub, Nat.reduceMul, ↓reduceIte, eq_self, xI]
  | succ m ih =>
    intro i hm hi
    have T1 := G.1
    have L1 : 1 < h.1 := am_S_lt S (by decide)
    have A1 : 100 ≤ (am_tg h 1).1 := by rw [T1]; decide
    have X1 : am_ax h 1 111 i := ⟨L1, by rw [T1], by rw [T1]; show i < 12; omega, by omega⟩
    have V := G.2.1 i (by omega)
    rw [g90_2]
    by_cases e : am_wdl.getD i 0 = x
    · rw [scan_stop (fun q => by rw [e] at q; simp at q)]
      simp (disch := first | with_reducible assumption | omega | exact Or.inl rfl | exact Or.inr rfl | exact bI_01 | exact c_cat | rfl | with_reducible repeat (first | assumption | apply S_I | apply S_L | apply S_D | apply ob_I | apply ob_L | apply ob_D | apply ob_R | apply ax_I | apply ax_L | apply ax_D | apply ax_R)) only [g90_3, g90_6, g90_7, g90_10, g90_13, g90_14, g90_15, g90_16, g90_17, g90_20, g90_21, g90_22, g90_25, g90_28, g90_29, T1, nI_ltI, nI_leI, nI_eq, nI_add, nI_sub, nI_lt0, nI_e0, nI_m1, m1_nI, Nat.reduceEqDiff, Nat.reduceLT, Nat.reduceLeDiff, Nat.reduceAdd, Nat.reduceSub, Nat.reduceMul, ↓reduceIte, eq_self, V, e, lg_cmp0, show ¬ 12 ≤ i by omega, xI, show i < 12 by omega]
    · rw [scan_step (show i < 12 by omega) (by rw [decide_eq_false e]; rfl)]
      simp (disch := first | with_reducible assumption | omega | exact Or.inl rfl | exact Or.inr rfl | exact bI_01 | exact c_cat | rfl | with_reducible repeat (first | assumption | apply S_I | apply S_L | apply S_D | apply ob_I | apply ob_L | apply ob_D | apply ob_R | apply ax_I | apply ax_L | apply ax_D | apply ax_R)) only [g90_3, g90_6, g90_7, g90_10, g90_13, g90_14, g90_15, g90_16, g90_17, g90_20, g90_21, g90_22, g90_25, g90_28, g90_29, T1, nI_ltI, nI_leI, nI_eq, nI_add, nI_sub, nI_lt0, nI_e0, nI_m1, m1_nI, Nat.reduceEqDiff, Nat.reduceLT, Nat.reduceLeDiff, Nat.reduceAdd, Nat.reduceSub, Nat.reduceMul, ↓reduceIte, eq_self, V, e, lg_cmp0, show ¬ 12 ≤ i by omega]
      exact ih (i + 1) (by omega) (by omega)
theorem x_wordOf (S : am_S h) (G : am_Gv h) {x : Int64} : am_J d 90 0 [some (.long x), none, v2] [] h Q ↔ Q (some (.int (xI 12 (xwd x)))) h := by
  rw [g90_0, g90_1, x_wordLoop S G 12 0 rfl (by decide)]
  rfl
/-- copyToken -/
def xcop (t : Nat → Nat) (n : Nat) : List Int32 → Nat → Nat → List Int32
  | P, _, 0 => P
  | P, a, m + 1 => xcop t n (xpad P (tA t n a)) (a + 1) m
theorem x_copyLoop {s : Int32} {e : Nat} (he : e ≤ 1000) : ∀ m a h P, e - a = m → a ≤ 1000 → PX h t n md C P N F k o ln lp → am_I h 302 1 = nI e → ∃ h', (∀ Q, am_J (d + 1) 86 2 [some (.ref 301), some (.int s), some (.int (nI a))] [] h Q ↔ Q none h') ∧ PX h' t n md C (xcop t n P a m) N F k o ln lp ∧ am_fr (fun a => 303 ≤ a ∧ a ≤ 309) h h' := by
  intro m
  induction m with
  | zero =>
    intro a h P hm ha X E
    have S := X.1
    refine ⟨h, fun Q => ?_, X, fr_refl⟩
    rw [g86_2]
    simp (disch := first | with_reducible assumption | omega | exact Or.inl rfl | exact Or.inr rfl | exact bI_01 | exact c_cat | rfl | with_reducible repeat (first | assumption | omega | apply S_I | apply S_L | apply S_D | apply ob_I | apply ob_L | apply ob_D | apply ob_R | apply ax_I | apply ax_L | apply ax_D | apply ax_R | apply o303 | apply o307 | apply o302 | apply o301 | apply ax304 | apply ax305 | apply ax306 | apply ax308 | apply ax309 | apply ax310 | apply lt_S | apply ar305 | apply ar308 | apply ar309)) only [g86_3, g86_4, g86_7, g86_10, g86_13, g86_14, g86_17, g86_20, g86_21, g86_24, g86_27, g86_28, g86_31, g86_34, g86_37, g86_40, E, Option.toList, List.nil_append, List.cons_append, va_rf, nI_ltI, nI_leI, nI_eq, nI_add, nI_sub, nI_lt0, nI_e0, nI_m1, m1_nI, Nat.reduceEqDiff, Nat.reduceLT, Nat.reduceLeDiff, Nat.reduceAdd, Nat.reduceSub, Nat.reduceMul, ↓reduceIte, eq_self, show e ≤ a by omega]
  | succ m ih =>
    intro a h P hm ha X E
    have S := X.1
    have T := X.2.1
    have hR := T.1
    have O5 := am_S_ob (a := 5) (c := 10) S (by decide +kernel)
    obtain ⟨R0, R1, R2, R3, R4, R5⟩ := S303r S
    obtain ⟨h1, r1, X1, F1⟩ := x_padd (d := d) X (w := tA t n a)
    obtain ⟨h2, W, X2, F2⟩ := ih (a + 1) h1 _ (by omega) (by omega) X1 (by rw [← E]; exact fr_rdI F1 (by omega))
    refine ⟨h2, fun Q => ?_, X2, fr_trans F1 F2⟩
    rw [g86_2]
    simp (disch := first | with_reducible assumption | omega | exact Or.inl rfl | exact Or.inr rfl | exact bI_01 | exact c_cat | rfl | with_reducible repeat (first | assumption | omega | apply S_I | apply S_L | apply S_D | apply ob_I | apply ob_L | apply ob_D | apply ob_R | apply ax_I | apply ax_L | apply ax_D | apply ax_R | apply o303 | apply o307 | apply o302 | apply o301 | apply ax304 | apply ax305 | apply ax306 | apply ax308 | apply ax309 | apply ax310 | apply lt_S | apply ar305 | apply ar308 | apply ar309)) only [g86_3, g86_4, g86_7, g86_10, g86_13, g86_14, g86_17, g86_20, g86_21, g86_24, g86_27, g86_28, g86_31, g86_34, g86_37, g86_40, E, hR, R2, Option.toList, List.nil_append, List.cons_append, va_rf, nI_ltI, nI_leI, nI_eq, nI_add, nI_sub, nI_lt0, nI_e0, nI_m1, m1_nI, Nat.reduceEqDiff, Nat.reduceLT, Nat.reduceLeDiff, Nat.reduceAdd, Nat.reduceSub, Nat.reduceMul, ↓reduceIte, eq_self, show ¬ e ≤ a by omega, x_at5, T, r1 _]
    exact W Q
theorem x_copy {e a : Nat} (he : e ≤ 1000) (ha : a ≤ 1000) (X : PX h t n md C P N F k o ln lp) (E : am_I h 302 1 = nI e) : ∃ h', am_run (d + 1) 86 [some (.ref 301), some (.int (nI a)), none] h none h' ∧ PX h' t n md C (xcop t n P a (e - a)) N F k o ln lp ∧ am_fr (fun a => 303 ≤ a ∧ a ≤ 309) h h' := by
  obtain ⟨h', W, X', F'⟩ := x_copyLoop (d := d) (s := nI a) he _ a h P rfl ha X E
  refine ⟨h', fun Q => ?_, X', F'⟩
  rw [g86_0, g86_1]
  exact W Q
/-- copyDigits -/
def lx_Z (t : Nat → Nat) (n e a : Nat) : Nat := am_scan (fun i => decide (i < n) && decide (t i = 48) && decide (i + 1 < n) && isG (t (i + 1))) e a
theorem x_cdLoop {e : Nat} (he : e ≤ 1000) (S : am_S h) (T : xT h t n) (E : am_I h 302 1 = nI e) : ∀ m a, e - a = m → a ≤ 1000 → (am_J (d + 1) 85 8 [some (.ref 301), some (.int (nI a))] [] h Q ↔ am_J (d + 1) 85 60 [some (.ref 301), some (.int (nI (lx_Z t n e a)))] [] h Q) := by
  intro m
  have hR := T.1
  have h240 := T.2.2.1
  have O5 := am_S_ob (a := 5) (c := 10) S (by decide +kernel)
  induction m with
  | zero =>
    intro a hm ha
    rw [show lx_Z t n e a = a from scan_stop (fun q => by omega), g85_8]
    simp (disch := first | with_reducible assumption | omega | exact Or.inl rfl | exact Or.inr rfl | exact bI_01 | exact c_cat | rfl | with_reducible repeat (first | assumption | omega | apply S_I | apply S_L | apply S_D | apply ob_I | apply ob_L | apply ob_D | apply ob_R | apply ax_I | apply ax_L | apply ax_D | apply ax_R | apply o303 | apply o307 | apply o302 | apply o301 | apply ax304 | apply ax305 | apply ax306 | apply ax308 | apply ax309 | apply ax310 | apply lt_S | apply ar305 | apply ar308 | apply ar309)) only [g85_9, g85_10, g85_13, g85_16, g85_19, g85_20, g85_23, g85_26, g85_27, g85_30, g85_32, g85_35, g85_36, g85_39, g85_42, g85_43, g85_44, g85_45, g85_48, g85_51, g85_54, g85_57, E, Option.toList, List.nil_append, List.cons_append, va_rf, nI_ltI, nI_leI, nI_eq, nI_add, nI_sub, nI_lt0, nI_e0, nI_m1, m1_nI, Nat.reduceEqDiff, Nat.reduceLT, Nat.reduceLeDiff, Nat.reduceAdd, Nat.reduceSub, Nat.reduceMul, ↓reduceIte, eq_self, show e ≤ a by omega]
  | succ m ih =>
    intro a hm ha
    rw [g85_8]
    by_cases c1 : a < n
    · have t1 := (T.2.2.2 a c1).2.1
      by_cases c2 : t a = 48
      · by_cases c3 : a + 1 < n
        · have t3 := (T.2.2.2 _ c3).2.1
          cases c4 : isG (t (a + 1)) with
          | true =>
            rw [show lx_Z t n e a = lx_Z t n e (a + 1) from scan_step (by omega) (by simp [c1, c2, c3, c4])]
            simp (disch := first | with_reducible assumption | omega | exact Or.inl rfl | exact Or.inr rfl | exact bI_01 | exact c_cat | rfl | with_reducible repeat (first | assumption | omega | apply S_I | apply S_L | apply S_D | apply ob_I | apply ob_L | apply ob_D | apply ob_R | apply ax_I | apply ax_L | apply ax_D | apply ax_R | apply o303 | apply o307 | apply o302 | apply o301 | apply ax304 | apply ax305 | apply ax306 | apply ax308 | apply ax309 | apply ax310 | apply lt_S | apply ar305 | apply ar308 | apply ar309)) only [g85_9, g85_10, g85_13, g85_16, g85_19, g85_20, g85_23, g85_26, g85_27, g85_30, g85_32, g85_35, g85_36, g85_39, g85_42, g85_43, g85_44, g85_45, g85_48, g85_51, g85_54, g85_57, E, hR, Option.toList, List.nil_append, List.cons_append, va_rf, nI_ltI, nI_leI, nI_eq, nI_add, nI_sub, nI_lt0, nI_e0, nI_m1, m1_nI, Nat.reduceEqDiff, Nat.reduceLT, Nat.reduceLeDiff, Nat.reduceAdd, Nat.reduceSub, Nat.reduceMul, ↓reduceIte, eq_self, show ¬ e ≤ a by omega, x_at5, T, tA_lt, c2, x_isG, c4, bI_t]
            exact ih (a + 1) (by omega) (by omega)
          | false =>
            rw [show lx_Z t n e a = a from scan_stop (fun q => by simp [c4] at q)]
            simp (disch := first | with_reducible assumption | omega | exact Or.inl rfl | exact Or.inr rfl | exact bI_01 | exact c_cat | rfl | with_reducible repeat (first | assumption | omega | apply S_I | apply S_L | apply S_D | apply ob_I | apply ob_L | apply ob_D | apply ob_R | apply ax_I | apply ax_L | apply ax_D | apply ax_R | apply o303 | apply o307 | apply o302 | apply o301 | apply ax304 | apply ax305 | apply ax306 | apply ax308 | apply ax309 | apply ax310 | apply lt_S | apply ar305 | apply ar308 | apply ar309)) only [g85_9, g85_10, g85_13, g85_16, g85_19, g85_20, g85_23, g85_26, g85_27, g85_30, g85_32, g85_35, g85_36, g85_39, g85_42, g85_43, g85_44, g85_45, g85_48, g85_51, g85_54, g85_57, E, hR, Option.toList, List.nil_append, List.cons_append, va_rf, nI_ltI, nI_leI, nI_eq, nI_add, nI_sub, nI_lt0, nI_e0, nI_m1, m1_nI, Nat.reduceEqDiff, Nat.reduceLT, Nat.reduceLeDiff, Nat.reduceAdd, Nat.reduceSub, Nat.reduceMul, ↓reduceIte, eq_self, show ¬ e ≤ a by omega, x_at5, T, tA_lt, c2, x_isG, c4, bI_f]
        · rw [show lx_Z t n e a = a from scan_stop (fun q => by simp [c3] at q)]
          simp (disch := first | with_reducible assumption | omega | exact Or.inl rfl | exact Or.inr rfl | exact bI_01 | exact c_cat | rfl | with_reducible repeat (first | assumption | omega | apply S_I | apply S_L | apply S_D | apply ob_I | apply ob_L | apply ob_D | apply ob_R | apply ax_I | apply ax_L | apply ax_D | apply ax_R | apply o303 | apply o307 | apply o302 | apply o301 | apply ax304 | apply ax305 | apply ax306 | apply ax308 | apply ax309 | apply ax310 | apply lt_S | apply ar305 | apply ar308 | apply ar309)) only [g85_9, g85_10, g85_13, g85_16, g85_19, g85_20, g85_23, g85_26, g85_27, g85_30, g85_32, g85_35, g85_36, g85_39, g85_42, g85_43, g85_44, g85_45, g85_48, g85_51, g85_54, g85_57, E, hR, Option.toList, List.nil_append, List.cons_append, va_rf, nI_ltI, nI_leI, nI_eq, nI_add, nI_sub, nI_lt0, nI_e0, nI_m1, m1_nI, Nat.reduceEqDiff, Nat.reduceLT, Nat.reduceLeDiff, Nat.reduceAdd, Nat.reduceSub, Nat.reduceMul, ↓reduceIte, eq_self, show ¬ e ≤ a by omega, x_at5, T, tA_lt c1, tA_ge (show n ≤ a + 1 by omega), c2, x_isGm]
      · rw [show lx_Z t n e a = a from scan_stop (fun q => by simp [c2] at q)]
        simp (disch := first | with_reducible assumption | omega | exact Or.inl rfl | exact Or.inr rfl | exact bI_01 | exact c_cat | rfl | with_reducible repeat (first | assumption | omega | apply S_I | apply S_L | apply S_D | apply ob_I | apply ob_L | apply ob_D | apply ob_R | apply ax_I | apply ax_L | apply ax_D | apply ax_R | apply o303 | apply o307 | apply o302 | apply o301 | apply ax304 | apply ax305 | apply ax306 | apply ax308 | apply ax309 | apply ax310 | apply lt_S | apply ar305 | apply ar308 | apply ar309)) only [g85_9, g85_10, g85_13, g85_16, g85_19, g85_20, g85_23, g85_26, g85_27, g85_30, g85_32, g85_35, g85_36, g85_39, g85_42, g85_43, g85_44, g85_45, g85_48, g85_51, g85_54, g85_57, E, hR, Option.toList, List.nil_append, List.cons_append, va_rf, nI_ltI, nI_leI, nI_eq, nI_add, nI_sub, nI_lt0, nI_e0, nI_m1, m1_nI, Nat.reduceEqDiff, Nat.reduceLT, Nat.reduceLeDiff, Nat.reduceAdd, Nat.reduceSub, Nat.reduceMul, ↓reduceIte, eq_self, show ¬ e ≤ a by omega, x_at5, T, tA_lt c1, c2]
    · rw [show lx_Z t n e a = a from scan_stop (fun q => by simp [c1] at q)]
      simp (disch := first | with_reducible assumption | omega | exact Or.inl rfl | exact Or.inr rfl | exact bI_01 | exact c_cat | rfl | with_reducible repeat (first | assumption | omega | apply S_I | apply S_L | apply S_D | apply ob_I | apply ob_L | apply ob_D | apply ob_R | apply ax_I | apply ax_L | apply ax_D | apply ax_R | apply o303 | apply o307 | apply o302 | apply o301 | apply ax304 | apply ax305 | apply ax306 | apply ax308 | apply ax309 | apply ax310 | apply lt_S | apply ar305 | apply ar308 | apply ar309)) only [g85_9, g85_10, g85_13, g85_16, g85_19, g85_20, g85_23, g85_26, g85_27, g85_30, g85_32, g85_35, g85_36, g85_39, g85_42, g85_43, g85_44, g85_45, g85_48, g85_51, g85_54, g85_57, E, hR, Option.toList, List.nil_append, List.cons_append, va_rf, nI_ltI, nI_leI, nI_eq, nI_add, nI_sub, nI_lt0, nI_e0, nI_m1, m1_nI, Nat.reduceEqDiff, Nat.reduceLT, Nat.reduceLeDiff, Nat.reduceAdd, Nat.reduceSub, Nat.reduceMul, ↓reduceIte, eq_self, show ¬ e ≤ a by omega, x_at5, T, tA_ge (show n ≤ a by omega), show ¬ ((-1 : Int32) = nI 48) by decide]
theorem x_cdig {e a : Nat} (he : e ≤ 1000) (ha : a ≤ 1000) (X : PX h t n md C P N F k o ln lp) (E : am_I h 302 1 = nI e) (A : am_I h 302 3 = nI a) : ∃ h', am_run (d + 2) 85 [some (.ref 301), none] h none h' ∧ PX h' t n md C (xcop t n P (lx_Z t n e a) (e - lx_Z t n e a)) N F k o ln lp ∧ am_fr (fun a => 303 ≤ a ∧ a ≤ 309) h h' := by
  have S := X.1
  have hz : lx_Z t n e a ≤ 1000 := by
    by_cases c : a ≤ e
    · exact Nat.le_trans (scan_le c) he
    · rw [show lx_Z t n e a = a from scan_stop (fun q => by omega)]; exact ha
  obtain ⟨h', R, X', F'⟩ := x_copy (d := d) he hz X E
  refine ⟨h', fun Q => ?_, X', F'⟩
  have W : am_J (d + 2) 85 0 [some (.ref 301), none] [] h Q ↔ am_J (d + 2) 85 8 [some (.ref 301), some (.int (nI a))] [] h Q := by
    simp (disch := first | with_reducible assumption | omega | exact Or.inl rfl | exact Or.inr rfl | exact bI_01 | exact c_cat | rfl | with_reducible repeat (first | assumption | omega | apply S_I | apply S_L | apply S_D | apply ob_I | apply ob_L | apply ob_D | apply ob_R | apply ax_I | apply ax_L | apply ax_D | apply ax_R | apply o303 | apply o307 | apply o302 | apply o301 | apply ax304 | apply ax305 | apply ax306 | apply ax308 | apply ax309 | apply ax310 | apply lt_S | apply ar305 | apply ar308 | apply ar309)) only [g85_0, g85_1, g85_4, g85_7, A, Option.toList, List.nil_append, List.cons_append, va_rf]
  rw [W, x_cdLoop (d := d + 1) he S X.2.1 E _ a rfl ha]
  simp (disch := first | with_reducible assumption | omega | exact Or.inl rfl | exact Or.inr rfl | exact bI_01 | exact c_cat | rfl | with_reducible repeat (first | assumption | omega | apply S_I | apply S_L | apply S_D | apply ob_I | apply ob_L | apply ob_D | apply ob_R | apply ax_I | apply ax_L | apply ax_D | apply ax_R | apply o303 | apply o307 | apply o302 | apply o301 | apply ax304 | apply ax305 | apply ax306 | apply ax308 | apply ax309 | apply ax310 | apply lt_S | apply ar305 | apply ar308 | apply ar309)) only [g85_60, g85_61, g85_62, g85_65, R _, Option.toList, List.nil_append, List.cons_append, va_rf]
end XOR

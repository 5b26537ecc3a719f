/-! THE OPERATION cycle -/
section CYC
variable {d : Nat} {h : am_H} {x y : Int32}
theorem inc_lt {f : Nat → Nat} {b : Nat} (H : ∀ i, i + 1 < b → f i < f (i + 1)) : ∀ j i, i < j → j < b → f i < f j := by
  intro j
  induction j with
  | zero => intro i hi; omega
  | succ j ih =>
    intro i hi hj
    have := H j hj
    by_cases e : i = j
    · rw [e]; exact this
    · exact Nat.lt_trans (ih i (by omega) (by omega)) this
theorem o_cycle (S : am_S h) (I : iR h) : ∃ r, am_run (d + 1) 165 [some (.ref 4), some (.int x), some (.int y)] h (some (.int r)) h ∧ am_run d 274 [some (.ref 349), some (.int x), some (.int y), none, none, none, none] h (some (.int r)) h := by
  obtain ⟨nr, st, rc, cy, a1, a2, a3, a4, a5, a6, a7, a8, a9, b1, b2, b3, b4⟩ := I
  have stm : ∀ i, i ≤ nr → st i ≤ st nr := fun i hi => by
    have H : ∀ r, i + r ≤ nr → st i ≤ st (i + r) := by
      intro r
      induction r with
      | zero => intro _; exact Nat.le_refl _
      | succ r ih => intro hr; have := a6 (i + r) (by omega); have := ih (by omega); show st i ≤ st (i + r + 1); omega
    have := H (nr - i) (by omega)
    rwa [show i + (nr - i) = nr by omega] at this
  have fst : ∀ i j, i < j → j < nr → rc (st i) < rc (st j) := fun i j => inc_lt (f := fun i => rc (st i)) (b := nr) b2 j i
  have cyF : ∀ f, f < 256 → (cy f = f ↔ ∃ j, j < nr ∧ f = rc (st j)) := fun f hf => by
    constructor
    · intro e
      obtain ⟨j, h1, h2⟩ := b4 f hf (by omega)
      exact ⟨j, h1, by omega⟩
    · rintro ⟨j, h1, h2⟩
      have := (b3 j f h1 hf).mpr ⟨st j, Nat.le_refl _, a6 j h1, h2.symm⟩
      omega
  have rcb : ∀ j, j < nr → rc (st j) < 256 := fun j hj => (a8 (st j) (by have := a6 j hj; have := stm (j + 1) hj; omega)).2
  have cyI : ∀ f, f < 256 → ∀ g, g < 2 ^ 31 → g ≠ 999 → (am_I h 395 f = nI g ↔ cy f = g) := fun f hf g hg hn => by
    rw [a9 f hf]
    by_cases e : cy f = 999
    · rw [if_pos e]
      constructor
      · intro q; exact absurd q.symm (nI_nem1 hg)
      · intro q; omega
    · rw [if_neg e]
      obtain ⟨j, h1, h2⟩ := b4 f hf e
      have := rcb j h1
      exact nI_eq (by omega) hg
  -- the model's first loop: from f on, n rings lie below it
  have L1 : ∀ i, i < 2 ^ 31 → ∀ r f n, 256 - f = r → f ≤ 256 → n ≤ i → n ≤ nr → (∀ j, j < n → rc (st j) < f) → (∀ j, n ≤ j → j < nr → f ≤ rc (st j)) → ∃ n', ∀ Q, (am_J d 274 15 [some (.ref 349), some (.int (nI i)), some (.int y), some (.int (nI n)), some (.int (nI f)), none, none] [] h Q ↔ am_J d 274 66 [some (.ref 349), some (.int (nI i)), some (.int y), some (.int (nI n')), some (.int (nI (if i < nr then rc (st i) else 256))), none, none] [] h Q) := by
    intro i hi31 r
    induction r with
    | zero =>
      intro f n hr hf hn hnr hlo hhi
      obtain rfl : f = 256 := by omega
      have e : ¬ i < nr := fun q => by have := hhi i hn q; have := rcb i q; omega
      rw [if_neg e]
      refine ⟨n, fun Q => ?_⟩
      rw [g274_15]
      simp (disch := first | with_reducible assumption | omega | exact Or.inl rfl | exact Or.inr rfl | exact bI_01 | exact c_cat | exact vt_ref | exact vt_null | rfl | with_reducible repeat (first | assumption | omega | apply S_I | apply S_L | apply S_D | apply ob_I | apply ob_L | apply ob_D | apply ob_R | apply ax_I | apply ax_L | apply ax_D | apply ax_R | apply o303 | apply o307 | apply o302 | apply o301 | apply ax304 | apply ax305 | apply ax306 | apply ax308 | apply ax309 | apply ax310 | apply lt_S | apply ar305 | apply ar308 | apply ar309)) only [g274_17, g274_20, g274_23, g274_24, g274_27, g274_29, g274_30, g274_32, g274_35, g274_36, g274_37, g274_40, g274_41, g274_42, g274_45, g274_47, g274_48, g274_50, g274_53, g274_54, g274_57, g274_58, g274_59, g274_60, g274_63, Option.toList, List.nil_append, List.cons_append, va_rf, nI_ltI, nI_leI, nI_eq, nI_add, nI_sub, nI_lt0, nI_e0, nI_m1, m1_nI, Nat.reduceEqDiff, Nat.reduceLT, Nat.reduceLeDiff, Nat.reduceAdd, Nat.reduceSub, Nat.reduceMul, ↓reduceIte, eq_self, Nat.le_refl]
    | succ r ih =>
      intro f n hr hf hn hnr hlo hhi
      have hf' : f < 256 := by omega
      by_cases e : cy f = f
      · obtain ⟨j, j1, j2⟩ := (cyF f hf').mp e
        have ej : j = n := by
          by_cases q1 : j < n
          · have := hlo j q1; omega
          · by_cases q2 : n < j
            · have := hhi n (Nat.le_refl _) (by omega)
              have := fst n j q2 j1
              omega
            · omega
        subst ej
        have eI : am_I h 395 f = nI f := (cyI f hf' f (by omega) (by omega)).mpr e
        by_cases c : j < i
        · obtain ⟨n', W⟩ := ih (f + 1) (j + 1) (by omega) (by omega) (by omega) (by omega) (fun k hk => by
            by_cases q : k = j
            · rw [q]; omega
            · have := hlo k (by omega); omega) (fun k hk hk2 => by
            have := fst j k (by omega) hk2; omega)
          refine ⟨n', fun Q => ?_⟩
          rw [← W Q, g274_15]
          simp (disch := first | with_reducible assumption | omega | exact Or.inl rfl | exact Or.inr rfl | exact bI_01 | exact c_cat | exact vt_ref | exact vt_null | rfl | with_reducible repeat (first | assumption | omega | apply S_I | apply S_L | apply S_D | apply ob_I | apply ob_L | apply ob_D | apply ob_R | apply ax_I | apply ax_L | apply ax_D | apply ax_R | apply o303 | apply o307 | apply o302 | apply o301 | apply ax304 | apply ax305 | apply ax306 | apply ax308 | apply ax309 | apply ax310 | apply lt_S | apply ar305 | apply ar308 | apply ar309)) only [g274_17, g274_20, g274_23, g274_24, g274_27, g274_29, g274_30, g274_32, g274_35, g274_36, g274_37, g274_40, g274_41, g274_42, g274_45, g274_47, g274_48, g274_50, g274_53, g274_54, g274_57, g274_58, g274_59, g274_60, g274_63, Option.toList, List.nil_append, List.cons_append, va_rf, nI_ltI, nI_leI, nI_eq, nI_add, nI_sub, nI_lt0, nI_e0, nI_m1, m1_nI, Nat.reduceEqDiff, Nat.reduceLT, Nat.reduceLeDiff, Nat.reduceAdd, Nat.reduceSub, Nat.reduceMul, ↓reduceIte, eq_self, show ¬ 256 ≤ f by omega, eI, show ¬ i ≤ j by omega]
        · obtain rfl : j = i := by omega
          rw [if_pos j1, ← j2]
          refine ⟨j, fun Q => ?_⟩
          rw [g274_15]
          simp (disch := first | with_reducible assumption | omega | exact Or.inl rfl | exact Or.inr rfl | exact bI_01 | exact c_cat | exact vt_ref | exact vt_null | rfl | with_reducible repeat (first | assumption | omega | apply S_I | apply S_L | apply S_D | apply ob_I | apply ob_L | apply ob_D | apply ob_R | apply ax_I | apply ax_L | apply ax_D | apply ax_R | apply o303 | apply o307 | apply o302 | apply o301 | apply ax304 | apply ax305 | apply ax306 | apply ax308 | apply ax309 | apply ax310 | apply lt_S | apply ar305 | apply ar308 | apply ar309)) only [g274_17, g274_20, g274_23, g274_24, g274_27, g274_29, g274_30, g274_32, g274_35, g274_36, g274_37, g274_40, g274_41, g274_42, g274_45, g274_47, g274_48, g274_50, g274_53, g274_54, g274_57, g274_58, g274_59, g274_60, g274_63, Option.toList, List.nil_append, List.cons_append, va_rf, nI_ltI, nI_leI, nI_eq, nI_add, nI_sub, nI_lt0, nI_e0, nI_m1, m1_nI, Nat.reduceEqDiff, Nat.reduceLT, Nat.reduceLeDiff, Nat.reduceAdd, Nat.reduceSub, Nat.reduceMul, ↓reduceIte, eq_self, show ¬ 256 ≤ f by omega, eI, Nat.le_refl]
      · have eI : ¬ am_I h 395 f = nI f := fun q => e ((cyI f hf' f (by omega) (by omega)).mp q)
        obtain ⟨n', W⟩ := ih (f + 1) n (by omega) (by omega) hn hnr (fun k hk => by have := hlo k hk; omega) (fun k hk hk2 => by
          have q1 := hhi k hk hk2
          have q2 : f ≠ rc (st k) := fun q => e ((cyF f hf').mpr ⟨k, hk2, q⟩)
          omega)
        refine ⟨n', fun Q => ?_⟩
        rw [← W Q, g274_15]
        simp (disch := first | with_reducible assumption | omega | exact Or.inl rfl | exact Or.inr rfl | exact bI_01 | exact c_cat | exact vt_ref | exact vt_null | rfl | with_reducible repeat (first | assumption | omega | apply S_I | apply S_L | apply S_D | apply ob_I | apply ob_L | apply ob_D | apply ob_R | apply ax_I | apply ax_L | apply ax_D | apply ax_R | apply o303 | apply o307 | apply o302 | apply o301 | apply ax304 | apply ax305 | apply ax306 | apply ax308 | apply ax309 | apply ax310 | apply lt_S | apply ar305 | apply ar308 | apply ar309)) only [g274_17, g274_20, g274_23, g274_24, g274_27, g274_29, g274_30, g274_32, g274_35, g274_36, g274_37, g274_40, g274_41, g274_42, g274_45, g274_47, g274_48, g274_50, g274_53, g274_54, g274_57, g274_58, g274_59, g274_60, g274_63, Option.toList, List.nil_append, List.cons_append, va_rf, nI_ltI, nI_leI, nI_eq, nI_add, nI_sub, nI_lt0, nI_e0, nI_m1, m1_nI, Nat.reduceEqDiff, Nat.reduceLT, Nat.reduceLeDiff, Nat.reduceAdd, Nat.reduceSub, Nat.reduceMul, ↓reduceIte, eq_self, show ¬ 256 ≤ f by omega, eI, Nat.add_zero]
  rcases i_cases x with hx | ⟨i, hi, rfl⟩
  · refine ⟨-1, fun Q => ?_, fun Q => ?_⟩
    · simp (disch := first | with_reducible assumption | omega | exact Or.inl rfl | exact Or.inr rfl | exact bI_01 | exact c_cat | exact vt_ref | exact vt_null | rfl | with_reducible repeat (first | assumption | omega | apply S_I | apply S_L | apply S_D | apply ob_I | apply ob_L | apply ob_D | apply ob_R | apply ax_I | apply ax_L | apply ax_D | apply ax_R | apply o303 | apply o307 | apply o302 | apply o301 | apply ax304 | apply ax305 | apply ax306 | apply ax308 | apply ax309 | apply ax310 | apply lt_S | apply ar305 | apply ar308 | apply ar309)) only [g165_0, g165_1, g165_4, g165_5, g165_6, g165_9, g120_0, g120_1, g120_4, g120_5, g120_6, g120_9, g120_12, g120_13, g120_16, g120_17, g120_18, g120_21, g120_22, g120_23, g120_24, g120_25, g120_26, g120_29, g120_30, g120_31, g120_32, g120_35, g120_36, g120_37, g120_38, g120_41, g120_42, g120_45, g120_46, g120_47, g120_48, g120_49, g120_50, Option.toList, List.nil_append, List.cons_append, va_rf, hx, ↓reduceIte]
    · simp (disch := first | with_reducible assumption | omega | exact Or.inl rfl | exact Or.inr rfl | exact bI_01 | exact c_cat | exact vt_ref | exact vt_null | rfl | with_reducible repeat (first | assumption | omega | apply S_I | apply S_L | apply S_D | apply ob_I | apply ob_L | apply ob_D | apply ob_R | apply ax_I | apply ax_L | apply ax_D | apply ax_R | apply o303 | apply o307 | apply o302 | apply o301 | apply ax304 | apply ax305 | apply ax306 | apply ax308 | apply ax309 | apply ax310 | apply lt_S | apply ar305 | apply ar308 | apply ar309)) only [g274_0, g274_1, g274_4, g274_5, g274_8, g274_9, Option.toList, List.nil_append, List.cons_append, va_rf, hx, ↓reduceIte]
  · rcases i_cases y with hy | ⟨k, hk, rfl⟩
    · have hge : ¬ 0 ≤ y := Int32.not_le.mpr hy
      refine ⟨-1, fun Q => ?_, fun Q => ?_⟩
      · by_cases c : i < nr
        · simp (disch := first | with_reducible assumption | omega | exact Or.inl rfl | exact Or.inr rfl | exact bI_01 | exact c_cat | exact vt_ref | exact vt_null | rfl | with_reducible repeat (first | assumption | omega | apply S_I | apply S_L | apply S_D | apply ob_I | apply ob_L | apply ob_D | apply ob_R | apply ax_I | apply ax_L | apply ax_D | apply ax_R | apply o303 | apply o307 | apply o302 | apply o301 | apply ax304 | apply ax305 | apply ax306 | apply ax308 | apply ax309 | apply ax310 | apply lt_S | apply ar305 | apply ar308 | apply ar309)) only [g165_0, g165_1, g165_4, g165_5, g165_6, g165_9, g120_0, g120_1, g120_4, g120_5, g120_6, g120_9, g120_12, g120_13, g120_16, g120_17, g120_18, g120_21, g120_22, g120_23, g120_24, g120_25, g120_26, g120_29, g120_30, g120_31, g120_32, g120_35, g120_36, g120_37, g120_38, g120_41, g120_42, g120_45, g120_46, g120_47, g120_48, g120_49, g120_50, Option.toList, List.nil_append, List.cons_append, va_rf, nI_ltI, nI_leI, nI_eq, nI_add, nI_sub, nI_lt0, nI_e0, nI_m1, m1_nI, Nat.reduceEqDiff, Nat.reduceLT, Nat.reduceLeDiff, Nat.reduceAdd, Nat.reduceSub, Nat.reduceMul, ↓reduceIte, eq_self, a2, show ¬ nr ≤ i by omega, hy]
        · simp (disch := first | with_reducible assumption | omega | exact Or.inl rfl | exact Or.inr rfl | exact bI_01 | exact c_cat | exact vt_ref | exact vt_null | rfl | with_reducible repeat (first | assumption | omega | apply S_I | apply S_L | apply S_D | apply ob_I | apply ob_L | apply ob_D | apply ob_R | apply ax_I | apply ax_L | apply ax_D | apply ax_R | apply o303 | apply o307 | apply o302 | apply o301 | apply ax304 | apply ax305 | apply ax306 | apply ax308 | apply ax309 | apply ax310 | apply lt_S | apply ar305 | apply ar308 | apply ar309)) only [g165_0, g165_1, g165_4, g165_5, g165_6, g165_9, g120_0, g120_1, g120_4, g120_5, g120_6, g120_9, g120_12, g120_13, g120_16, g120_17, g120_18, g120_21, g120_22, g120_23, g120_24, g120_25, g120_26, g120_29, g120_30, g120_31, g120_32, g120_35, g120_36, g120_37, g120_38, g120_41, g120_42, g120_45, g120_46, g120_47, g120_48, g120_49, g120_50, Option.toList, List.nil_append, List.cons_append, va_rf, nI_ltI, nI_leI, nI_eq, nI_add, nI_sub, nI_lt0, nI_e0, nI_m1, m1_nI, Nat.reduceEqDiff, Nat.reduceLT, Nat.reduceLeDiff, Nat.reduceAdd, Nat.reduceSub, Nat.reduceMul, ↓reduceIte, eq_self, a2, show nr ≤ i by omega]
      · simp (disch := first | with_reducible assumption | omega | exact Or.inl rfl | exact Or.inr rfl | exact bI_01 | exact c_cat | exact vt_ref | exact vt_null | rfl | with_reducible repeat (first | assumption | omega | apply S_I | apply S_L | apply S_D | apply ob_I | apply ob_L | apply ob_D | apply ob_R | apply ax_I | apply ax_L | apply ax_D | apply ax_R | apply o303 | apply o307 | apply o302 | apply o301 | apply ax304 | apply ax305 | apply ax306 | apply ax308 | apply ax309 | apply ax310 | apply lt_S | apply ar305 | apply ar308 | apply ar309)) only [g274_0, g274_1, g274_4, g274_5, g274_8, g274_9, Option.toList, List.nil_append, List.cons_append, va_rf, nI_ltI, nI_leI, nI_eq, nI_add, nI_sub, nI_lt0, nI_e0, nI_m1, m1_nI, Nat.reduceEqDiff, Nat.reduceLT, Nat.reduceLeDiff, Nat.reduceAdd, Nat.reduceSub, Nat.reduceMul, ↓reduceIte, eq_self, hge, ↓reduceIte]
    · obtain ⟨n', W1⟩ := L1 i hi 256 0 0 rfl (by omega) (Nat.zero_le _) (Nat.zero_le _) (fun j hj => absurd hj (Nat.not_lt_zero _)) (fun j _ _ => Nat.zero_le _)
      have hk0 : (0 : Int32) ≤ nI k := Int32.not_lt.mp (nI_pos hk)
      have ini : ∀ Q, am_J d 274 0 [some (.ref 349), some (.int (nI i)), some (.int (nI k)), none, none, none, none] [] h Q ↔ am_J d 274 15 [some (.ref 349), some (.int (nI i)), some (.int (nI k)), some (.int (nI 0)), some (.int (nI 0)), none, none] [] h Q := fun Q => by
        simp (disch := first | with_reducible assumption | omega | exact Or.inl rfl | exact Or.inr rfl | exact bI_01 | exact c_cat | exact vt_ref | exact vt_null | rfl | with_reducible repeat (first | assumption | omega | apply S_I | apply S_L | apply S_D | apply ob_I | apply ob_L | apply ob_D | apply ob_R | apply ax_I | apply ax_L | apply ax_D | apply ax_R | apply o303 | apply o307 | apply o302 | apply o301 | apply ax304 | apply ax305 | apply ax306 | apply ax308 | apply ax309 | apply ax310 | apply lt_S | apply ar305 | apply ar308 | apply ar309)) only [g274_0, g274_1, g274_4, g274_5, g274_8, g274_9, g274_10, g274_11, g274_12, g274_13, Option.toList, List.nil_append, List.cons_append, va_rf, nI_ltI, nI_leI, nI_eq, nI_add, nI_sub, nI_lt0, nI_e0, nI_m1, m1_nI, Nat.reduceEqDiff, Nat.reduceLT, Nat.reduceLeDiff, Nat.reduceAdd, Nat.reduceSub, Nat.reduceMul, ↓reduceIte, eq_self, hk0]
      by_cases c : i < nr
      · rw [if_pos c] at W1
        have s0 := a4 i (by omega)
        have s1 := a4 (i + 1) (by omega)
        have lt := a6 i c
        have le := stm (i + 1) c
        have mem : ∀ a b, st i ≤ a → a < b → b < st (i + 1) → rc a < rc b := fun a b h1 h2 h3 => by
          have := inc_lt (f := fun j => rc (st i + j)) (b := st (i + 1) - st i) (fun j hj => b1 i (st i + j) c (by omega) (by omega)) (b - st i) (a - st i) (by omega) (by omega)
          rwa [show st i + (a - st i) = a by omega, show st i + (b - st i) = b by omega] at this
        have hF := rcb i c
        -- the model's second loop: m members lie below v
        have L2 : ∀ (Q : Option Value → am_H → Prop) r v m, 256 - v = r → v ≤ 256 → m ≤ k → m ≤ st (i + 1) - st i → (∀ j, j < m → rc (st i + j) < v) → (∀ j, m ≤ j → j < st (i + 1) - st i → v ≤ rc (st i + j)) → (am_J d 274 73 [some (.ref 349), some (.int (nI i)), some (.int (nI k)), some (.int (nI n')), some (.int (nI (rc (st i)))), some (.int (nI m)), some (.int (nI v))] [] h Q ↔ Q (some (.int (if k < st (i + 1) - st i then nI (rc (st i + k)) else -1))) h) := by
          intro Q r
          induction r with
          | zero =>
            intro v m hr hv hm hm2 hlo hhi
            obtain rfl : v = 256 := by omega
            have e : ¬ k < st (i + 1) - st i := fun q => by have := hhi k hm q; have := (a8 (st i + k) (by omega)).2; omega
            rw [if_neg e, g274_73]
            simp (disch := first | with_reducible assumption | omega | exact Or.inl rfl | exact Or.inr rfl | exact bI_01 | exact c_cat | exact vt_ref | exact vt_null | rfl | with_reducible repeat (first | assumption | omega | apply S_I | apply S_L | apply S_D | apply ob_I | apply ob_L | apply ob_D | apply ob_R | apply ax_I | apply ax_L | apply ax_D | apply ax_R | apply o303 | apply o307 | apply o302 | apply o301 | apply ax304 | apply ax305 | apply ax306 | apply ax308 | apply ax309 | apply ax310 | apply lt_S | apply ar305 | apply ar308 | apply ar309)) only [g274_75, g274_78, g274_81, g274_82, g274_85, g274_87, g274_88, g274_90, g274_93, g274_96, g274_98, g274_99, g274_102, g274_104, g274_105, g274_108, g274_111, g274_114, g274_115, Option.toList, List.nil_append, List.cons_append, va_rf, nI_ltI, nI_leI, nI_eq, nI_add, nI_sub, nI_lt0, nI_e0, nI_m1, m1_nI, Nat.reduceEqDiff, Nat.reduceLT, Nat.reduceLeDiff, Nat.reduceAdd, Nat.reduceSub, Nat.reduceMul, ↓reduceIte, eq_self, Nat.le_refl]
          | succ r ih =>
            intro v m hr hv hm hm2 hlo hhi
            have hv' : v < 256 := by omega
            by_cases e : cy v = rc (st i)
            · obtain ⟨j, j1, j2, j3⟩ := (b3 i v c hv').mp e
              have ej : j = st i + m := by
                by_cases q1 : j < st i + m
                · have := hlo (j - st i) (by omega)
                  rw [show st i + (j - st i) = j by omega] at this
                  omega
                · by_cases q2 : st i + m < j
                  · have := hhi m (Nat.le_refl _) (by omega)
                    have := mem (st i + m) j (by omega) q2 j2
                    omega
                  · omega
              subst ej
              have eI : am_I h 395 v = nI (rc (st i)) := (cyI v hv' _ (by omega) (by omega)).mpr e
              by_cases c2 : m = k
              · subst c2
                rw [if_pos (by omega), j3, g274_73]
                simp (disch := first | with_reducible assumption | omega | exact Or.inl rfl | exact Or.inr rfl | exact bI_01 | exact c_cat | exact vt_ref | exact vt_null | rfl | with_reducible repeat (first | assumption | omega | apply S_I | apply S_L | apply S_D | apply ob_I | apply ob_L | apply ob_D | apply ob_R | apply ax_I | apply ax_L | apply ax_D | apply ax_R | apply o303 | apply o307 | apply o302 | apply o301 | apply ax304 | apply ax305 | apply ax306 | apply ax308 | apply ax309 | apply ax310 | apply lt_S | apply ar305 | apply ar308 | apply ar309)) only [g274_75, g274_78, g274_81, g274_82, g274_85, g274_87, g274_88, g274_90, g274_93, g274_96, g274_98, g274_99, g274_102, g274_104, g274_105, g274_108, g274_111, g274_114, g274_115, Option.toList, List.nil_append, List.cons_append, va_rf, nI_ltI, nI_leI, nI_eq, nI_add, nI_sub, nI_lt0, nI_e0, nI_m1, m1_nI, Nat.reduceEqDiff, Nat.reduceLT, Nat.reduceLeDiff, Nat.reduceAdd, Nat.reduceSub, Nat.reduceMul, ↓reduceIte, eq_self, show ¬ 256 ≤ v by omega, eI]
              · rw [← ih (v + 1) (m + 1) (by omega) (by omega) (by omega) (by omega) (fun l hl => by
                  by_cases q : l = m
                  · rw [q]; omega
                  · have := hlo l (by omega); omega) (fun l hl hl2 => by
                  have := mem (st i + m) (st i + l) (by omega) (by omega) (by omega); omega), g274_73]
                simp (disch := first | with_reducible assumption | omega | exact Or.inl rfl | exact Or.inr rfl | exact bI_01 | exact c_cat | exact vt_ref | exact vt_null | rfl | with_reducible repeat (first | assumption | omega | apply S_I | apply S_L | apply S_D | apply ob_I | apply ob_L | apply ob_D | apply ob_R | apply ax_I | apply ax_L | apply ax_D | apply ax_R | apply o303 | apply o307 | apply o302 | apply o301 | apply ax304 | apply ax305 | apply ax306 | apply ax308 | apply ax309 | apply ax310 | apply lt_S | apply ar305 | apply ar308 | apply ar309)) only [g274_75, g274_78, g274_81, g274_82, g274_85, g274_87, g274_88, g274_90, g274_93, g274_96, g274_98, g274_99, g274_102, g274_104, g274_105, g274_108, g274_111, g274_114, g274_115, Option.toList, List.nil_append, List.cons_append, va_rf, nI_ltI, nI_leI, nI_eq, nI_add, nI_sub, nI_lt0, nI_e0, nI_m1, m1_nI, Nat.reduceEqDiff, Nat.reduceLT, Nat.reduceLeDiff, Nat.reduceAdd, Nat.reduceSub, Nat.reduceMul, ↓reduceIte, eq_self, show ¬ 256 ≤ v by omega, eI, c2]
            · have eI : ¬ am_I h 395 v = nI (rc (st i)) := fun q => e ((cyI v hv' _ (by omega) (by omega)).mp q)
              rw [← ih (v + 1) m (by omega) (by omega) hm hm2 (fun l hl => by have := hlo l hl; omega) (fun l hl hl2 => by
                have q1 := hhi l hl hl2
                have q2 : v ≠ rc (st i + l) := fun q => e ((b3 i v c hv').mpr ⟨st i + l, by omega, by omega, q.symm⟩)
                omega), g274_73]
              simp (disch := first | with_reducible assumption | omega | exact Or.inl rfl | exact Or.inr rfl | exact bI_01 | exact c_cat | exact vt_ref | exact vt_null | rfl | with_reducible repeat (first | assumption | omega | apply S_I | apply S_L | apply S_D | apply ob_I | apply ob_L | apply ob_D | apply ob_R | apply ax_I | apply ax_L | apply ax_D | apply ax_R | apply o303 | apply o307 | apply o302 | apply o301 | apply ax304 | apply ax305 | apply ax306 | apply ax308 | apply ax309 | apply ax310 | apply lt_S | apply ar305 | apply ar308 | apply ar309)) only [g274_75, g274_78, g274_81, g274_82, g274_85, g274_87, g274_88, g274_90, g274_93, g274_96, g274_98, g274_99, g274_102, g274_104, g274_105, g274_108, g274_111, g274_114, g274_115, Option.toList, List.nil_append, List.cons_append, va_rf, nI_ltI, nI_leI, nI_eq, nI_add, nI_sub, nI_lt0, nI_e0, nI_m1, m1_nI, Nat.reduceEqDiff, Nat.reduceLT, Nat.reduceLeDiff, Nat.reduceAdd, Nat.reduceSub, Nat.reduceMul, ↓reduceIte, eq_self, show ¬ 256 ≤ v by omega, eI]
        refine ⟨if k < st (i + 1) - st i then nI (rc (st i + k)) else -1, fun Q => ?_, fun Q => ?_⟩
        · by_cases c2 : k < st (i + 1) - st i
          · rw [if_pos c2]
            have := (a8 (st i + k) (by omega)).1
            simp (disch := first | with_reducible assumption | omega | exact Or.inl rfl | exact Or.inr rfl | exact bI_01 | exact c_cat | exact vt_ref | exact vt_null | rfl | with_reducible repeat (first | assumption | omega | apply S_I | apply S_L | apply S_D | apply ob_I | apply ob_L | apply ob_D | apply ob_R | apply ax_I | apply ax_L | apply ax_D | apply ax_R | apply o303 | apply o307 | apply o302 | apply o301 | apply ax304 | apply ax305 | apply ax306 | apply ax308 | apply ax309 | apply ax310 | apply lt_S | apply ar305 | apply ar308 | apply ar309)) only [g165_0, g165_1, g165_4, g165_5, g165_6, g165_9, g120_0, g120_1, g120_4, g120_5, g120_6, g120_9, g120_12, g120_13, g120_16, g120_17, g120_18, g120_21, g120_22, g120_23, g120_24, g120_25, g120_26, g120_29, g120_30, g120_31, g120_32, g120_35, g120_36, g120_37, g120_38, g120_41, g120_42, g120_45, g120_46, g120_47, g120_48, g120_49, g120_50, Option.toList, List.nil_append, List.cons_append, va_rf, nI_ltI, nI_leI, nI_eq, nI_add, nI_sub, nI_lt0, nI_e0, nI_m1, m1_nI, Nat.reduceEqDiff, Nat.reduceLT, Nat.reduceLeDiff, Nat.reduceAdd, Nat.reduceSub, Nat.reduceMul, ↓reduceIte, eq_self, a2, show ¬ nr ≤ i by omega, s0, s1, c2, this]
          · rw [if_neg c2]
            simp (disch := first | with_reducible assumption | omega | exact Or.inl rfl | exact Or.inr rfl | exact bI_01 | exact c_cat | exact vt_ref | exact vt_null | rfl | with_reducible repeat (first | assumption | omega | apply S_I | apply S_L | apply S_D | apply ob_I | apply ob_L | apply ob_D | apply ob_R | apply ax_I | apply ax_L | apply ax_D | apply ax_R | apply o303 | apply o307 | apply o302 | apply o301 | apply ax304 | apply ax305 | apply ax306 | apply ax308 | apply ax309 | apply ax310 | apply lt_S | apply ar305 | apply ar308 | apply ar309)) only [g165_0, g165_1, g165_4, g165_5, g165_6, g165_9, g120_0, g120_1, g120_4, g120_5, g120_6, g120_9, g120_12, g120_13, g120_16, g120_17, g120_18, g120_21, g120_22, g120_23, g120_24, g120_25, g120_26, g120_29, g120_30, g120_31, g120_32, g120_35, g120_36, g120_37, g120_38, g120_41, g120_42, g120_45, g120_46, g120_47, g120_48, g120_49, g120_50, Option.toList, List.nil_append, List.cons_append, va_rf, nI_ltI, nI_leI, nI_eq, nI_add, nI_sub, nI_lt0, nI_e0, nI_m1, m1_nI, Nat.reduceEqDiff, Nat.reduceLT, Nat.reduceLeDiff, Nat.reduceAdd, Nat.reduceSub, Nat.reduceMul, ↓reduceIte, eq_self, a2, show ¬ nr ≤ i by omega, s0, s1, c2]
        · rw [ini, W1]
          have e2 : am_J d 274 66 [some (.ref 349), some (.int (nI i)), some (.int (nI k)), some (.int (nI n')), some (.int (nI (rc (st i)))), none, none] [] h Q ↔ am_J d 274 73 [some (.ref 349), some (.int (nI i)), some (.int (nI k)), some (.int (nI n')), some (.int (nI (rc (st i)))), some (.int (nI 0)), some (.int (nI (rc (st i))))] [] h Q := by
            simp (disch := first | with_reducible assumption | omega | exact Or.inl rfl | exact Or.inr rfl | exact bI_01 | exact c_cat | exact vt_ref | exact vt_null | rfl | with_reducible repeat (first | assumption | omega | apply S_I | apply S_L | apply S_D | apply ob_I | apply ob_L | apply ob_D | apply ob_R | apply ax_I | apply ax_L | apply ax_D | apply ax_R | apply o303 | apply o307 | apply o302 | apply o301 | apply ax304 | apply ax305 | apply ax306 | apply ax308 | apply ax309 | apply ax310 | apply lt_S | apply ar305 | apply ar308 | apply ar309)) only [g274_66, g274_67, g274_69, g274_71, Option.toList, List.nil_append, List.cons_append, va_rf, nI_ltI, nI_leI, nI_eq, nI_add, nI_sub, nI_lt0, nI_e0, nI_m1, m1_nI, Nat.reduceEqDiff, Nat.reduceLT, Nat.reduceLeDiff, Nat.reduceAdd, Nat.reduceSub, Nat.reduceMul, ↓reduceIte, eq_self]
          rw [e2]
          exact L2 Q (256 - rc (st i)) (rc (st i)) 0 rfl (by omega) (Nat.zero_le _) (Nat.zero_le _) (fun j hj => absurd hj (Nat.not_lt_zero _)) (fun j _ hj => by
            by_cases q : j = 0
            · rw [q]; exact Nat.le_refl _
            · exact Nat.le_of_lt (mem (st i) (st i + j) (Nat.le_refl _) (by omega) (by omega)))
      · rw [if_neg c] at W1
        refine ⟨-1, fun Q => ?_, fun Q => ?_⟩
        · simp (disch := first | with_reducible assumption | omega | exact Or.inl rfl | exact Or.inr rfl | exact bI_01 | exact c_cat | exact vt_ref | exact vt_null | rfl | with_reducible repeat (first | assumption | omega | apply S_I | apply S_L | apply S_D | apply ob_I | apply ob_L | apply ob_D | apply ob_R | apply ax_I | apply ax_L | apply ax_D | apply ax_R | apply o303 | apply o307 | apply o302 | apply o301 | apply ax304 | apply ax305 | apply ax306 | apply ax308 | apply ax309 | apply ax310 | apply lt_S | apply ar305 | apply ar308 | apply ar309)) only [g165_0, g165_1, g165_4, g165_5, g165_6, g165_9, g120_0, g120_1, g120_4, g120_5, g120_6, g120_9, g120_12, g120_13, g120_16, g120_17, g120_18, g120_21, g120_22, g120_23, g120_24, g120_25, g120_26, g120_29, g120_30, g120_31, g120_32, g120_35, g120_36, g120_37, g120_38, g120_41, g120_42, g120_45, g120_46, g120_47, g120_48, g120_49, g120_50, Option.toList, List.nil_append, List.cons_append, va_rf, nI_ltI, nI_leI, nI_eq, nI_add, nI_sub, nI_lt0, nI_e0, nI_m1, m1_nI, Nat.reduceEqDiff, Nat.reduceLT, Nat.reduceLeDiff, Nat.reduceAdd, Nat.reduceSub, Nat.reduceMul, ↓reduceIte, eq_self, a2, show nr ≤ i by omega]
        · rw [ini, W1]
          simp (disch := first | with_reducible assumption | omega | exact Or.inl rfl | exact Or.inr rfl | exact bI_01 | exact c_cat | exact vt_ref | exact vt_null | rfl | with_reducible repeat (first | assumption | omega | apply S_I | apply S_L | apply S_D | apply ob_I | apply ob_L | apply ob_D | apply ob_R | apply ax_I | apply ax_L | apply ax_D | apply ax_R | apply o303 | apply o307 | apply o302 | apply o301 | apply ax304 | apply ax305 | apply ax306 | apply ax308 | apply ax309 | apply ax310 | apply lt_S | apply ar305 | apply ar308 | apply ar309)) only [g274_66, g274_67, g274_69, g274_71, g274_73, g274_75, g274_78, g274_114, g274_115, Option.toList, List.nil_append, List.cons_append, va_rf, nI_ltI, nI_leI, nI_eq, nI_add, nI_sub, nI_lt0, nI_e0, nI_m1, m1_nI, Nat.reduceEqDiff, Nat.reduceLT, Nat.reduceLeDiff, Nat.reduceAdd, Nat.reduceSub, Nat.reduceMul, ↓reduceIte, eq_self, Nat.le_refl]
end CYC

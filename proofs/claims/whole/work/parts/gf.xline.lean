/-! THE CLASS: line, area -/
section XLI
variable {h g g' ga : am_H} {o sa dp d q a b : Nat} {rr : Option Nat} {cv : Nat → Option (Option VL)} {st : List VL} {ts : List (Nat × Nat × Nat)} {σ : SR} {u v : VL} {P : Nat → Prop} {x s : UInt64} {la lb : List UInt64}
theorem l6_shr16 {a : Nat} (ha : a < 2 ^ 63) : lN a >>> ((nI 16).toInt64 &&& 63) = lN (a / 65536) := by
  have e : (((nI 16).toInt64 &&& 63).toBitVec.smod 64).toNat = 16 := by decide +kernel
  apply Int64.toBitVec_inj.mp
  rw [Int64.toBitVec_shiftRight, lN_bv', lN_bv']
  have hm : (BitVec.ofNat 64 a).msb = false := by
    rw [BitVec.msb_eq_false_iff_two_mul_lt, BitVec.toNat_ofNat]; omega
  rw [BitVec.sshiftRight_eq', e, BitVec.sshiftRight_eq_of_msb_false hm]
  apply BitVec.eq_of_toNat_eq
  rw [BitVec.toNat_ushiftRight, BitVec.toNat_ofNat, BitVec.toNat_ofNat, Nat.shiftRight_eq_div_pow, Nat.mod_eq_of_lt (show a < 2 ^ 64 by omega), Nat.mod_eq_of_lt]
  exact Nat.lt_of_le_of_lt (Nat.div_le_self _ _) (by omega)
theorem nI_and16 (a : Nat) : nI a &&& nI 65535 = nI (a % 65536) := by
  rw [nI_and, show (65535 : Nat) = 2 ^ 16 - 1 from rfl, Nat.and_two_pow_sub_one_eq_mod]
theorem OPx_F {k : Nat} (A : XS h g o rr sa dp ts σ) (ho : o < 278 ∨ 299 < o) (Z : KZ g) (N : ∀ i v, st[i]? = some v → xn g i v) (h0 : 0 < k) (h1 : k < 12) : OPx h (am_setI g 9 13 (nI k)) o rr sa dp ts st (oF k, σ) :=
  ⟨XS_I A (Or.inl ⟨rfl, rfl⟩) ho, ⟨rI_eq, h0, h1, Z.2⟩, fun i v hv => xn_keep (by rw [rI_a (by decide)]) rfl rfl (N i v hv)⟩
theorem OPx_K {k : Nat} {r : OC} (A : XS h g o rr sa dp ts σ) (ho : o < 278 ∨ 299 < o) (Z : KZ g) (K : xKO g st r k) (hr : ∀ v, r = .inl v → okV v) : OPx h (am_setI g 9 13 (nI k)) o rr sa dp ts st (r, σ) := by
  match r, K, hr with
  | .inl v, ⟨k0, N⟩, hr =>
    subst k0
    exact ⟨XS_I A (Or.inl ⟨rfl, rfl⟩) ho, ⟨rI_eq, Z.2⟩, NS_9 N, hr v rfl⟩
  | .inr (.inl kk), ⟨k0, k1, k2, N⟩, _ =>
    subst k0
    exact ⟨XS_I A (Or.inl ⟨rfl, rfl⟩) ho, ⟨rI_eq, by omega, k2, Z.2⟩, (NS_9 N).2⟩
/-! is it a table? -/
theorem x_tabBad {f : Nat ⊕ Nat} {n m : Nat} (S : am_S g) (L : FLx h g f) : am_run d 51 [some (.ref 9), some (.int (nI n)), some (.int (nI m))] g (some (.int (nI 0))) g := fun Q => by
  obtain ⟨k, k1, k2, k3⟩ := FLx_kind L
  simp (disch := first | with_reducible assumption | omega | exact Or.inl rfl | exact Or.inr rfl | exact bI_01 | exact c_cat | exact vt_ref | exact vt_null | rfl | with_reducible repeat (first | assumption | omega | apply S_I | apply S_L | apply S_D | apply ob_I | apply ob_L | apply ob_D | apply ob_R | apply ax_I | apply ax_L | apply ax_D | apply ax_R | apply o303 | apply o307 | apply o302 | apply o301 | apply ax304 | apply ax305 | apply ax306 | apply ax308 | apply ax309 | apply ax310 | apply lt_S | apply ar305 | apply ar308 | apply ar309)) only [g51_0, g51_1, g51_4, g51_7, g51_8, g51_9, g51_12, g51_13, g51_14, g51_17, g51_18, g51_20, g51_23, g51_24, g51_26, g51_29, g51_30, g51_33, g51_36, g51_37, g51_40, g51_41, Option.toList, List.nil_append, List.cons_append, va_rf, nI_ltI, nI_leI, nI_eq, nI_add, nI_sub, nI_lt0, nI_e0, nI_m1, m1_nI, Nat.reduceEqDiff, Nat.reduceLT, Nat.reduceLeDiff, Nat.reduceAdd, Nat.reduceSub, Nat.reduceMul, ↓reduceIte, eq_self, k3, show ¬ k = 0 by omega]
theorem x_tabYes {n : Nat} (S : am_S g) (Z : KZ g) (h1 : 1 < n) (h2 : n ≤ 64) : am_run d 51 [some (.ref 9), some (.int (nI n)), some (.int (nI n))] g (some (.int (nI 1))) g := fun Q => by
  have z1 := Z.1
  simp (disch := first | with_reducible assumption | omega | exact Or.inl rfl | exact Or.inr rfl | exact bI_01 | exact c_cat | exact vt_ref | exact vt_null | rfl | with_reducible repeat (first | assumption | omega | apply S_I | apply S_L | apply S_D | apply ob_I | apply ob_L | apply ob_D | apply ob_R | apply ax_I | apply ax_L | apply ax_D | apply ax_R | apply o303 | apply o307 | apply o302 | apply o301 | apply ax304 | apply ax305 | apply ax306 | apply ax308 | apply ax309 | apply ax310 | apply lt_S | apply ar305 | apply ar308 | apply ar309)) only [g51_0, g51_1, g51_4, g51_7, g51_8, g51_9, g51_12, g51_13, g51_14, g51_17, g51_18, g51_20, g51_23, g51_24, g51_26, g51_29, g51_30, g51_33, g51_36, g51_37, g51_40, g51_41, Option.toList, List.nil_append, List.cons_append, va_rf, nI_ltI, nI_leI, nI_eq, nI_add, nI_sub, nI_lt0, nI_e0, nI_m1, m1_nI, Nat.reduceEqDiff, Nat.reduceLT, Nat.reduceLeDiff, Nat.reduceAdd, Nat.reduceSub, Nat.reduceMul, ↓reduceIte, eq_self, z1, show ¬ n < 2 by omega, h2]
theorem x_tabNo {n m : Nat} (S : am_S g) (Z : KZ g) (hn : n ≤ 64) (hm : m ≤ 64) (h1 : ¬ (n = m ∧ 1 < n)) : am_run d 51 [some (.ref 9), some (.int (nI n)), some (.int (nI m))] g (some (.int (nI 0))) (am_setI g 9 13 (nI 7)) := fun Q => by
  have z1 := Z.1
  have k7 : am_I (am_setI g 9 13 (nI 7)) 9 13 = nI 7 := rI_eq
  by_cases c : n = m
  · subst c
    simp (disch := first | with_reducible assumption | omega | exact Or.inl rfl | exact Or.inr rfl | exact bI_01 | exact c_cat | exact vt_ref | exact vt_null | rfl | with_reducible repeat (first | assumption | omega | apply S_I | apply S_L | apply S_D | apply ob_I | apply ob_L | apply ob_D | apply ob_R | apply ax_I | apply ax_L | apply ax_D | apply ax_R | apply o303 | apply o307 | apply o302 | apply o301 | apply ax304 | apply ax305 | apply ax306 | apply ax308 | apply ax309 | apply ax310 | apply lt_S | apply ar305 | apply ar308 | apply ar309)) only [g51_0, g51_1, g51_4, g51_7, g51_8, g51_9, g51_12, g51_13, g51_14, g51_17, g51_18, g51_20, g51_23, g51_24, g51_26, g51_29, g51_30, g51_33, g51_36, g51_37, g51_40, g51_41, Option.toList, List.nil_append, List.cons_append, va_rf, nI_ltI, nI_leI, nI_eq, nI_add, nI_sub, nI_lt0, nI_e0, nI_m1, m1_nI, Nat.reduceEqDiff, Nat.reduceLT, Nat.reduceLeDiff, Nat.reduceAdd, Nat.reduceSub, Nat.reduceMul, ↓reduceIte, eq_self, z1, k7, show n < 2 by omega]
  · simp (disch := first | with_reducible assumption | omega | exact Or.inl rfl | exact Or.inr rfl | exact bI_01 | exact c_cat | exact vt_ref | exact vt_null | rfl | with_reducible repeat (first | assumption | omega | apply S_I | apply S_L | apply S_D | apply ob_I | apply ob_L | apply ob_D | apply ob_R | apply ax_I | apply ax_L | apply ax_D | apply ax_R | apply o303 | apply o307 | apply o302 | apply o301 | apply ax304 | apply ax305 | apply ax306 | apply ax308 | apply ax309 | apply ax310 | apply lt_S | apply ar305 | apply ar308 | apply ar309)) only [g51_0, g51_1, g51_4, g51_7, g51_8, g51_9, g51_12, g51_13, g51_14, g51_17, g51_18, g51_20, g51_23, g51_24, g51_26, g51_29, g51_30, g51_33, g51_36, g51_37, g51_40, g51_41, Option.toList, List.nil_append, List.cons_append, va_rf, nI_ltI, nI_leI, nI_eq, nI_add, nI_sub, nI_lt0, nI_e0, nI_m1, m1_nI, Nat.reduceEqDiff, Nat.reduceLT, Nat.reduceLeDiff, Nat.reduceAdd, Nat.reduceSub, Nat.reduceMul, ↓reduceIte, eq_self, z1, k7, c]
/-! line -/
abbrev Lz (x : UInt64) (r1 r2 : Int32) (n : Nat) (v6 : Option Value) : am_Lo := [some (.ref 9), some (.int r1), some (.int r2), some (.double x), none, some (.int (nI n)), v6]
theorem x_riseLoop {r1 r2 : Int32} (S : am_S g) (D1 : dA g 20 la) (h64 : la.length ≤ 64) :
    ∀ k i, la.length - i = k → 1 ≤ i → i ≤ la.length → rising la i = true → (rising la la.length = true → ∀ Q, am_J d 49 41 (Lz x r1 r2 la.length (some (.int (nI i)))) [] g Q ↔ am_J d 49 81 (Lz x r1 r2 la.length (some (.int (nI la.length)))) [] g Q) ∧ (rising la la.length = false → ∀ Q, am_J d 49 41 (Lz x r1 r2 la.length (some (.int (nI i)))) [] g Q ↔ Q none (am_setI g 9 13 (nI 7))) := by
  intro k
  induction k with
  | zero =>
    intro i hk hi hi2 hr
    obtain rfl : i = la.length := by omega
    refine ⟨fun _ Q => ?_, fun q => by rw [hr] at q; cases q⟩
    rw [g49_41]
    simp (disch := first | with_reducible assumption | omega | exact Or.inl rfl | exact Or.inr rfl | exact bI_01 | exact c_cat | exact vt_ref | exact vt_null | rfl | with_reducible repeat (first | assumption | omega | apply S_I | apply S_L | apply S_D | apply ob_I | apply ob_L | apply ob_D | apply ob_R | apply ax_I | apply ax_L | apply ax_D | apply ax_R | apply o303 | apply o307 | apply o302 | apply o301 | apply ax304 | apply ax305 | apply ax306 | apply ax308 | apply ax309 | apply ax310 | apply lt_S | apply ar305 | apply ar308 | apply ar309)) only [g49_43, g49_45, Option.toList, List.nil_append, List.cons_append, va_rf, nI_ltI, nI_leI, nI_eq, nI_add, nI_sub, nI_lt0, nI_e0, nI_m1, m1_nI, Nat.reduceEqDiff, Nat.reduceLT, Nat.reduceLeDiff, Nat.reduceAdd, Nat.reduceSub, Nat.reduceMul, ↓reduceIte, eq_self, Nat.le_refl]
  | succ k ih =>
    intro i hk hi hi2 hr
    obtain ⟨d1, k1⟩ := dA_at D1 (show i - 1 < la.length by omega)
    obtain ⟨d2, k2⟩ := dA_at D1 (show i < la.length by omega)
    have cr := cm_g (okD_nn k2) (okD_nn k1) .g
    have ck := dlt_key (okD_nn k1) (okD_nn k2)
    have rs := rising_s la i
    rw [hr, Bool.true_and, decide_eq_false (show ¬ i = 0 by omega), Bool.false_or] at rs
    cases c : dlt (la.getD (i - 1) 0) (la.getD i 0) with
    | true =>
      rw [c] at rs ck
      have ck := of_decide_eq_true ck.symm
      obtain ⟨B1, B2⟩ := ih (i + 1) (by omega) (by omega) (by omega) rs
      refine ⟨fun q Q => ?_, fun q Q => ?_⟩
      · rw [← B1 q Q, g49_41]
        simp (disch := first | with_reducible assumption | omega | exact Or.inl rfl | exact Or.inr rfl | exact bI_01 | exact c_cat | exact vt_ref | exact vt_null | rfl | with_reducible repeat (first | assumption | omega | apply S_I | apply S_L | apply S_D | apply ob_I | apply ob_L | apply ob_D | apply ob_R | apply ax_I | apply ax_L | apply ax_D | apply ax_R | apply o303 | apply o307 | apply o302 | apply o301 | apply ax304 | apply ax305 | apply ax306 | apply ax308 | apply ax309 | apply ax310 | apply lt_S | apply ar305 | apply ar308 | apply ar309)) only [g49_43, g49_45, g49_48, g49_49, g49_52, g49_54, g49_55, g49_56, g49_59, g49_61, g49_62, g49_63, g49_64, g49_65, g49_68, g49_69, g49_71, g49_74, g49_75, g49_78, Option.toList, List.nil_append, List.cons_append, va_rf, nI_ltI, nI_leI, nI_eq, nI_add, nI_sub, nI_lt0, nI_e0, nI_m1, m1_nI, Nat.reduceEqDiff, Nat.reduceLT, Nat.reduceLeDiff, Nat.reduceAdd, Nat.reduceSub, Nat.reduceMul, ↓reduceIte, eq_self, show ¬ la.length ≤ i by omega, d1, d2, cr, eq_true ck]
      · rw [← B2 q Q, g49_41]
        simp (disch := first | with_reducible assumption | omega | exact Or.inl rfl | exact Or.inr rfl | exact bI_01 | exact c_cat | exact vt_ref | exact vt_null | rfl | with_reducible repeat (first | assumption | omega | apply S_I | apply S_L | apply S_D | apply ob_I | apply ob_L | apply ob_D | apply ob_R | apply ax_I | apply ax_L | apply ax_D | apply ax_R | apply o303 | apply o307 | apply o302 | apply o301 | apply ax304 | apply ax305 | apply ax306 | apply ax308 | apply ax309 | apply ax310 | apply lt_S | apply ar305 | apply ar308 | apply ar309)) only [g49_43, g49_45, g49_48, g49_49, g49_52, g49_54, g49_55, g49_56, g49_59, g49_61, g49_62, g49_63, g49_64, g49_65, g49_68, g49_69, g49_71, g49_74, g49_75, g49_78, Option.toList, List.nil_append, List.cons_append, va_rf, nI_ltI, nI_leI, nI_eq, nI_add, nI_sub, nI_lt0, nI_e0, nI_m1, m1_nI, Nat.reduceEqDiff, Nat.reduceLT, Nat.reduceLeDiff, Nat.reduceAdd, Nat.reduceSub, Nat.reduceMul, ↓reduceIte, eq_self, show ¬ la.length ≤ i by omega, d1, d2, cr, eq_true ck]
    | false =>
      rw [c] at rs ck
      have ck := of_decide_eq_false ck.symm
      refine ⟨fun q => ?_, fun q Q => ?_⟩
      · rw [rising_le (show i + 1 ≤ la.length by omega) q] at rs; cases rs
      · rw [g49_41]
        simp (disch := first | with_reducible assumption | omega | exact Or.inl rfl | exact Or.inr rfl | exact bI_01 | exact c_cat | exact vt_ref | exact vt_null | rfl | with_reducible repeat (first | assumption | omega | apply S_I | apply S_L | apply S_D | apply ob_I | apply ob_L | apply ob_D | apply ob_R | apply ax_I | apply ax_L | apply ax_D | apply ax_R | apply o303 | apply o307 | apply o302 | apply o301 | apply ax304 | apply ax305 | apply ax306 | apply ax308 | apply ax309 | apply ax310 | apply lt_S | apply ar305 | apply ar308 | apply ar309)) only [g49_43, g49_45, g49_48, g49_49, g49_52, g49_54, g49_55, g49_56, g49_59, g49_61, g49_62, g49_63, g49_64, g49_65, g49_68, g49_69, g49_71, g49_74, g49_75, g49_78, Option.toList, List.nil_append, List.cons_append, va_rf, nI_ltI, nI_leI, nI_eq, nI_add, nI_sub, nI_lt0, nI_e0, nI_m1, m1_nI, Nat.reduceEqDiff, Nat.reduceLT, Nat.reduceLeDiff, Nat.reduceAdd, Nat.reduceSub, Nat.reduceMul, ↓reduceIte, eq_self, show ¬ la.length ≤ i by omega, d1, d2, cr, eq_false ck]
theorem x_btwLoop {v5 v6 v7 v8 v9 v10 : Option Value} (S : am_S g) (kx : okD x) (D1 : dA g 20 la) (h64 : la.length ≤ 64) (hx : dle (la.getD (la.length - 1) 0) x = false) :
    ∀ f i, i + 1 < la.length → la.length - 1 - i ≤ f → zv (la.getD i 0) ≤ zv x → lnAt la x f i + 1 < la.length ∧ zv (la.getD (lnAt la x f i) 0) ≤ zv x ∧ zv x < zv (la.getD (lnAt la x f i + 1) 0) ∧
      ∀ Q, am_J d 52 3 [some (.ref 9), some (.double x), none, some (.int (nI la.length)), some (.int (nI i)), v5, v6, v7, v8, v9, v10] [] g Q ↔ am_J d 52 31 [some (.ref 9), some (.double x), none, some (.int (nI la.length)), some (.int (nI (lnAt la x f i))), v5, v6, v7, v8, v9, v10] [] g Q := by
  intro f
  induction f with
  | zero => intro i h1 h2; omega
  | succ f ih =>
    intro i h1 h2 h3
    obtain ⟨d1, k1⟩ := dA_at D1 h1
    have cz := zv_le k1 kx
    have ck := dle_key (okD_nn k1) (okD_nn kx)
    have cr := cm_g (okD_nn k1) (okD_nn kx) .g
    cases c : dle (la.getD (i + 1) 0) x with
    | true =>
      have e : lnAt la x (f + 1) i = lnAt la x f (i + 1) := if_pos c
      rw [c] at cz ck
      have cz := of_decide_eq_true cz.symm
      have ck := of_decide_eq_true ck.symm
      have h4 : i + 1 + 1 < la.length := by
        apply Nat.lt_of_le_of_ne h1
        intro q
        rw [show i + 1 = la.length - 1 by omega, hx] at c
        cases c
      obtain ⟨b1, b2, b3, b4⟩ := ih (i + 1) h4 (by omega) cz
      rw [e]
      refine ⟨b1, b2, b3, fun Q => ?_⟩
      rw [← b4 Q, g52_3]
      simp (disch := first | with_reducible assumption | omega | exact Or.inl rfl | exact Or.inr rfl | exact bI_01 | exact c_cat | exact vt_ref | exact vt_null | rfl | with_reducible repeat (first | assumption | omega | apply S_I | apply S_L | apply S_D | apply ob_I | apply ob_L | apply ob_D | apply ob_R | apply ax_I | apply ax_L | apply ax_D | apply ax_R | apply o303 | apply o307 | apply o302 | apply o301 | apply ax304 | apply ax305 | apply ax306 | apply ax308 | apply ax309 | apply ax310 | apply lt_S | apply ar305 | apply ar308 | apply ar309)) only [g52_5, g52_6, g52_7, g52_8, g52_11, g52_12, g52_15, g52_17, g52_18, g52_19, g52_20, g52_21, g52_22, g52_25, g52_28, Option.toList, List.nil_append, List.cons_append, va_rf, nI_ltI, nI_leI, nI_eq, nI_add, nI_sub, nI_lt0, nI_e0, nI_m1, m1_nI, Nat.reduceEqDiff, Nat.reduceLT, Nat.reduceLeDiff, Nat.reduceAdd, Nat.reduceSub, Nat.reduceMul, ↓reduceIte, eq_self, show ¬ la.length ≤ i + 2 by omega, d1, cr, eq_false (show ¬ Jvm.FP.Core.dkey x < Jvm.FP.Core.dkey (la.getD (i + 1) 0) by omega)]
    | false =>
      have e : lnAt la x (f + 1) i = i := if_neg (by rw [c]; exact Bool.false_ne_true)
      rw [c] at cz ck
      have cz := of_decide_eq_false cz.symm
      have ck := of_decide_eq_false ck.symm
      rw [e]
      refine ⟨h1, h3, by omega, fun Q => ?_⟩
      rw [g52_3]
      by_cases c2 : la.length ≤ i + 2
      · simp (disch := first | with_reducible assumption | omega | exact Or.inl rfl | exact Or.inr rfl | exact bI_01 | exact c_cat | exact vt_ref | exact vt_null | rfl | with_reducible repeat (first | assumption | omega | apply S_I | apply S_L | apply S_D | apply ob_I | apply ob_L | apply ob_D | apply ob_R | apply ax_I | apply ax_L | apply ax_D | apply ax_R | apply o303 | apply o307 | apply o302 | apply o301 | apply ax304 | apply ax305 | apply ax306 | apply ax308 | apply ax309 | apply ax310 | apply lt_S | apply ar305 | apply ar308 | apply ar309)) only [g52_5, g52_6, g52_7, g52_8, g52_11, g52_12, g52_15, g52_17, g52_18, g52_19, g52_20, g52_21, g52_22, g52_25, g52_28, Option.toList, List.nil_append, List.cons_append, va_rf, nI_ltI, nI_leI, nI_eq, nI_add, nI_sub, nI_lt0, nI_e0, nI_m1, m1_nI, Nat.reduceEqDiff, Nat.reduceLT, Nat.reduceLeDiff, Nat.reduceAdd, Nat.reduceSub, Nat.reduceMul, ↓reduceIte, eq_self, c2]
      · simp (disch := first | with_reducible assumption | omega | exact Or.inl rfl | exact Or.inr rfl | exact bI_01 | exact c_cat | exact vt_ref | exact vt_null | rfl | with_reducible repeat (first | assumption | omega | apply S_I | apply S_L | apply S_D | apply ob_I | apply ob_L | apply ob_D | apply ob_R | apply ax_I | apply ax_L | apply ax_D | apply ax_R | apply o303 | apply o307 | apply o302 | apply o301 | apply ax304 | apply ax305 | apply ax306 | apply ax308 | apply ax309 | apply ax310 | apply lt_S | apply ar305 | apply ar308 | apply ar309)) only [g52_5, g52_6, g52_7, g52_8, g52_11, g52_12, g52_15, g52_17, g52_18, g52_19, g52_20, g52_21, g52_22, g52_25, g52_28, Option.toList, List.nil_append, List.cons_append, va_rf, nI_ltI, nI_leI, nI_eq, nI_add, nI_sub, nI_lt0, nI_e0, nI_m1, m1_nI, Nat.reduceEqDiff, Nat.reduceLT, Nat.reduceLeDiff, Nat.reduceAdd, Nat.reduceSub, Nat.reduceMul, ↓reduceIte, eq_self, c2, d1, cr, eq_true (show Jvm.FP.Core.dkey x < Jvm.FP.Core.dkey (la.getD (i + 1) 0) by omega)]
theorem gv_ok {r : VL} (h : gv x = .inl r) : okV r := by
  unfold gv at h
  split at h
  · rename_i c
    obtain rfl := Sum.inl.inj h
    exact finB_ok.mp c
  · cases h
/-- the line from its loop's end on -/
theorem x_lineEnd {ra rb : Int32} {v6 : Option Value} (A : XS h g o rr sa dp ts σ) (ho : o < 278 ∨ 299 < o) (Z : KZ g) (N : NS g st) (hl0 : st.length < 1024) (kx : okD x) (D1 : dA g 20 la) (D2 : dA g 21 lb) (hl : la.length = lb.length) (hn : 1 < la.length) (h64 : la.length ≤ 64) (hr : rising la la.length = true) :
    ∃ g', (∀ Q, am_J (d + 3) 49 81 (Lz x ra rb la.length v6) [] g Q ↔ Q none g') ∧ OPx h g' o rr sa dp ts st (lnV x la lb, σ) ∧ FA g g' := by
  have S := A.2.1
  have z1 := Z.1
  obtain ⟨a0, k0⟩ := dA_at D1 (show 0 < la.length by omega)
  obtain ⟨an, kn⟩ := dA_at D1 (show la.length - 1 < la.length by omega)
  obtain ⟨b0, kb0⟩ := dA_at D2 (show 0 < lb.length by omega)
  obtain ⟨bn, kbn⟩ := dA_at D2 (show la.length - 1 < lb.length by omega)
  have c1 := dle_key (okD_nn kx) (okD_nn k0)
  have r1 := cm_g (okD_nn kx) (okD_nn k0) .g
  have c2 := dle_key (okD_nn kn) (okD_nn kx)
  have r2 := cm_l (okD_nn kx) (okD_nn kn) .l
  unfold lnV
  cases e1 : dle x (la.getD 0 0) with
  | true =>
    rw [e1] at c1
    have c1 := of_decide_eq_true c1.symm
    rw [if_pos rfl]
    obtain ⟨g', q1, N1, F1⟩ := x_pushD (d := d + 2) S N hl0 kb0
    refine ⟨g', fun Q => ?_, ⟨XS_num A F1, KZ_fr F1 (by decide) Z, N1, kb0⟩, FA_fr F1 (fun a q => by omega)⟩
    simp (disch := first | with_reducible assumption | omega | exact Or.inl rfl | exact Or.inr rfl | exact bI_01 | exact c_cat | exact vt_ref | exact vt_null | rfl | with_reducible repeat (first | assumption | omega | apply S_I | apply S_L | apply S_D | apply ob_I | apply ob_L | apply ob_D | apply ob_R | apply ax_I | apply ax_L | apply ax_D | apply ax_R | apply o303 | apply o307 | apply o302 | apply o301 | apply ax304 | apply ax305 | apply ax306 | apply ax308 | apply ax309 | apply ax310 | apply lt_S | apply ar305 | apply ar308 | apply ar309)) only [g49_81, g49_82, g49_83, g49_86, g49_87, g49_88, g49_89, g49_92, g49_93, g49_96, g49_97, g49_100, g49_101, g49_102, g49_105, g49_108, g49_109, g49_110, g49_113, g49_115, g49_116, g49_117, g49_118, g49_119, g49_122, g49_123, g49_126, g49_127, g49_130, g49_132, g49_133, g49_134, g49_135, g49_138, g49_141, g49_142, g49_143, g49_145, g49_148, Option.toList, List.nil_append, List.cons_append, va_rf, nI_ltI, nI_leI, nI_eq, nI_add, nI_sub, nI_lt0, nI_e0, nI_m1, m1_nI, Nat.reduceEqDiff, Nat.reduceLT, Nat.reduceLeDiff, Nat.reduceAdd, Nat.reduceSub, Nat.reduceMul, ↓reduceIte, eq_self, a0, b0, r1, eq_false (show ¬ Jvm.FP.Core.dkey (la.getD 0 0) < Jvm.FP.Core.dkey x by omega), q1 _]
  | false =>
    have zz1 := zv_le kx k0
    rw [e1] at c1 zz1
    have c1 := of_decide_eq_false c1.symm
    have zz1 := of_decide_eq_false zz1.symm
    rw [if_neg Bool.false_ne_true]
    cases e2 : dle (la.getD (la.length - 1) 0) x with
    | true =>
      rw [e2] at c2
      have c2 := of_decide_eq_true c2.symm
      rw [if_pos rfl]
      obtain ⟨g', q1, N1, F1⟩ := x_pushD (d := d + 2) S N hl0 kbn
      refine ⟨g', fun Q => ?_, ⟨XS_num A F1, KZ_fr F1 (by decide) Z, N1, kbn⟩, FA_fr F1 (fun a q => by omega)⟩
      simp (disch := first | with_reducible assumption | omega | exact Or.inl rfl | exact Or.inr rfl | exact bI_01 | exact c_cat | exact vt_ref | exact vt_null | rfl | with_reducible repeat (first | assumption | omega | apply S_I | apply S_L | apply S_D | apply ob_I | apply ob_L | apply ob_D | apply ob_R | apply ax_I | apply ax_L | apply ax_D | apply ax_R | apply o303 | apply o307 | apply o302 | apply o301 | apply ax304 | apply ax305 | apply ax306 | apply ax308 | apply ax309 | apply ax310 | apply lt_S | apply ar305 | apply ar308 | apply ar309)) only [g49_81, g49_82, g49_83, g49_86, g49_87, g49_88, g49_89, g49_92, g49_93, g49_96, g49_97, g49_100, g49_101, g49_102, g49_105, g49_108, g49_109, g49_110, g49_113, g49_115, g49_116, g49_117, g49_118, g49_119, g49_122, g49_123, g49_126, g49_127, g49_130, g49_132, g49_133, g49_134, g49_135, g49_138, g49_141, g49_142, g49_143, g49_145, g49_148, Option.toList, List.nil_append, List.cons_append, va_rf, nI_ltI, nI_leI, nI_eq, nI_add, nI_sub, nI_lt0, nI_e0, nI_m1, m1_nI, Nat.reduceEqDiff, Nat.reduceLT, Nat.reduceLeDiff, Nat.reduceAdd, Nat.reduceSub, Nat.reduceMul, ↓reduceIte, eq_self, a0, an, bn, r1, r2, eq_true (show Jvm.FP.Core.dkey (la.getD 0 0) < Jvm.FP.Core.dkey x by omega), eq_false (show ¬ Jvm.FP.Core.dkey x < Jvm.FP.Core.dkey (la.getD (la.length - 1) 0) by omega), q1 _]
    | false =>
      rw [if_neg Bool.false_ne_true]
      rw [e2] at c2
      have c2 := of_decide_eq_false c2.symm
      obtain ⟨j1, j2, j3, j4⟩ := x_btwLoop (d := d + 2) (v5 := none) (v6 := none) (v7 := none) (v8 := none) (v9 := none) (v10 := none) S kx D1 h64 e2 la.length 0 hn (by omega) (by omega)
      generalize lnAt la x la.length 0 = j at j1 j2 j3 j4 ⊢
      have front : ∀ g', (∀ Q, am_J (d + 2) 52 31 [some (.ref 9), some (.double x), none, some (.int (nI la.length)), some (.int (nI j)), none, none, none, none, none, none] [] g Q ↔ Q none g') → ∀ Q, am_J (d + 3) 49 81 (Lz x ra rb la.length v6) [] g Q ↔ Q none g' := fun g' hh Q => by
        have bt : am_run (d + 2) 52 [some (.ref 9), some (.double x), none, some (.int (nI la.length)), none, none, none, none, none, none, none] g none g' := fun Q => by
          rw [← hh Q, ← j4 Q]
          simp (disch := first | with_reducible assumption | omega | exact Or.inl rfl | exact Or.inr rfl | exact bI_01 | exact c_cat | exact vt_ref | exact vt_null | rfl | with_reducible repeat (first | assumption | omega | apply S_I | apply S_L | apply S_D | apply ob_I | apply ob_L | apply ob_D | apply ob_R | apply ax_I | apply ax_L | apply ax_D | apply ax_R | apply o303 | apply o307 | apply o302 | apply o301 | apply ax304 | apply ax305 | apply ax306 | apply ax308 | apply ax309 | apply ax310 | apply lt_S | apply ar305 | apply ar308 | apply ar309)) only [g52_0, g52_1, Option.toList, List.nil_append, List.cons_append, va_rf]
        simp (disch := first | with_reducible assumption | omega | exact Or.inl rfl | exact Or.inr rfl | exact bI_01 | exact c_cat | exact vt_ref | exact vt_null | rfl | with_reducible repeat (first | assumption | omega | apply S_I | apply S_L | apply S_D | apply ob_I | apply ob_L | apply ob_D | apply ob_R | apply ax_I | apply ax_L | apply ax_D | apply ax_R | apply o303 | apply o307 | apply o302 | apply o301 | apply ax304 | apply ax305 | apply ax306 | apply ax308 | apply ax309 | apply ax310 | apply lt_S | apply ar305 | apply ar308 | apply ar309)) only [g49_81, g49_82, g49_83, g49_86, g49_87, g49_88, g49_89, g49_92, g49_93, g49_96, g49_97, g49_100, g49_101, g49_102, g49_105, g49_108, g49_109, g49_110, g49_113, g49_115, g49_116, g49_117, g49_118, g49_119, g49_122, g49_123, g49_126, g49_127, g49_130, g49_132, g49_133, g49_134, g49_135, g49_138, g49_141, g49_142, g49_143, g49_145, g49_148, Option.toList, List.nil_append, List.cons_append, va_rf, nI_ltI, nI_leI, nI_eq, nI_add, nI_sub, nI_lt0, nI_e0, nI_m1, m1_nI, Nat.reduceEqDiff, Nat.reduceLT, Nat.reduceLeDiff, Nat.reduceAdd, Nat.reduceSub, Nat.reduceMul, ↓reduceIte, eq_self, a0, an, r1, r2, eq_true (show Jvm.FP.Core.dkey (la.getD 0 0) < Jvm.FP.Core.dkey x by omega), eq_true (show Jvm.FP.Core.dkey x < Jvm.FP.Core.dkey (la.getD (la.length - 1) 0) by omega), bt _]
      obtain ⟨u1, ku1⟩ := dA_at D1 (show j < la.length by omega)
      obtain ⟨u2, ku2⟩ := dA_at D1 j1
      obtain ⟨w1, kw1⟩ := dA_at D2 (show j < lb.length by omega)
      obtain ⟨w2, kw2⟩ := dA_at D2 (show j + 1 < lb.length by omega)
      have n1 := ok_sub ku2 ku1
      have n2 := ok_sub kw2 kw1
      have n3 := ok_sub kx ku1
      have ie1 := x_isInfinite (d := d + 1) (g := g) n1
      have ie2 := x_isInfinite (d := d + 1) (g := g) n2
      by_cases f1 : finB (Jvm.FP.dsub (la.getD (j + 1) 0) (la.getD j 0)) = true
      · rw [f1, Bool.not_true, bI_f] at ie1
        by_cases f2 : finB (Jvm.FP.dsub (lb.getD (j + 1) 0) (lb.getD j 0)) = true
        · rw [f2, Bool.not_true, bI_f] at ie2
          rw [if_pos ⟨f1, f2⟩]
          obtain ⟨o1, o2, o3, o4⟩ := between_ok ku1 kx ku2 j2 (by omega) (by omega) (finB_ok.mp f1)
          have kt := div_ok o1 (finB_ok.mp f1) o2 o3 o4
          have nt := okD_nn kt
          have n4 := ok_mul (finB_ok.mp f2) kt
          have n5 := ok_add' kw1 n4
          have n0 : am_nn Jvm.FP.dconst0 := u_nn unit0
          have cw := cm_g n1 n0 .g
          have cwk : Jvm.FP.Core.dkey Jvm.FP.dconst0 < Jvm.FP.Core.dkey (Jvm.FP.dsub (la.getD (j + 1) 0) (la.getD j 0)) := by
            have t1 := zv_lt (uV_ok unit0) (finB_ok.mp f1)
            have t2 := dlt_key n0 n1
            have z0 : zv Jvm.FP.dconst0 = ((0 : Nat) : Int) := uV_zv unit0
            rw [t1, z0, decide_eq_true (show ((0 : Nat) : Int) < zv (Jvm.FP.dsub (la.getD (j + 1) 0) (la.getD j 0)) by omega)] at t2
            exact of_decide_eq_true t2.symm
          obtain ⟨g', k, q1, F1, K1⟩ := x_pushFinite (d := d) S N hl0 n5
          have S1 := fr_S F1 S
          have eg : (if finB (Jvm.FP.dmul (Jvm.FP.dsub (lb.getD (j + 1) 0) (lb.getD j 0)) (Jvm.FP.ddiv (Jvm.FP.dsub x (la.getD j 0)) (Jvm.FP.dsub (la.getD (j + 1) 0) (la.getD j 0)))) = true then gv (Jvm.FP.dadd (lb.getD j 0) (Jvm.FP.dmul (Jvm.FP.dsub (lb.getD (j + 1) 0) (lb.getD j 0)) (Jvm.FP.ddiv (Jvm.FP.dsub x (la.getD j 0)) (Jvm.FP.dsub (la.getD (j + 1) 0) (la.getD j 0))))) else oF 5) = gv (Jvm.FP.dadd (lb.getD j 0) (Jvm.FP.dmul (Jvm.FP.dsub (lb.getD (j + 1) 0) (lb.getD j 0)) (Jvm.FP.ddiv (Jvm.FP.dsub x (la.getD j 0)) (Jvm.FP.dsub (la.getD (j + 1) 0) (la.getD j 0))))) := by
            split
            · rfl
            · rename_i c
              unfold gv
              rw [add_inf kw1 n4 (Bool.eq_false_iff.mpr c), if_neg Bool.false_ne_true]
          rw [eg]
          refine ⟨am_setI g' 9 13 (nI k), front _ (fun Q => ?_), OPx_K (XS_num A F1) ho (KZ_fr F1 (by decide) Z) K1 (fun v e => gv_ok e), FA_trans (FA_fr F1 (fun a q => by omega)) (FA_I (by omega))⟩
          simp (disch := first | with_reducible assumption | omega | exact Or.inl rfl | exact Or.inr rfl | exact bI_01 | exact c_cat | exact vt_ref | exact vt_null | rfl | with_reducible repeat (first | assumption | omega | apply S_I | apply S_L | apply S_D | apply ob_I | apply ob_L | apply ob_D | apply ob_R | apply ax_I | apply ax_L | apply ax_D | apply ax_R | apply o303 | apply o307 | apply o302 | apply o301 | apply ax304 | apply ax305 | apply ax306 | apply ax308 | apply ax309 | apply ax310 | apply lt_S | apply ar305 | apply ar308 | apply ar309)) only [g52_31, g52_32, g52_35, g52_37, g52_38, g52_39, g52_40, g52_41, g52_44, g52_46, g52_47, g52_48, g52_50, g52_51, g52_54, g52_56, g52_57, g52_58, g52_59, g52_60, g52_63, g52_65, g52_66, g52_67, g52_69, g52_71, g52_74, g52_77, g52_79, g52_82, g52_85, g52_87, g52_88, g52_89, g52_92, g52_93, g52_94, g52_97, g52_98, g52_99, g52_100, g52_103, g52_105, g52_106, g52_107, g52_109, g52_110, g52_112, g52_113, g52_114, g52_117, g52_118, g52_121, g52_123, g52_124, g52_126, g52_128, g52_129, g52_130, g52_133, g52_136, Option.toList, List.nil_append, List.cons_append, va_rf, nI_ltI, nI_leI, nI_eq, nI_add, nI_sub, nI_lt0, nI_e0, nI_m1, m1_nI, Nat.reduceEqDiff, Nat.reduceLT, Nat.reduceLeDiff, Nat.reduceAdd, Nat.reduceSub, Nat.reduceMul, ↓reduceIte, eq_self, u1, u2, w1, w2, ie1 _, ie2 _, cw, eq_true cwk, q1 _]
        · rw [show finB (Jvm.FP.dsub (lb.getD (j + 1) 0) (lb.getD j 0)) = false from Bool.eq_false_iff.mpr f2, Bool.not_false, bI_t] at ie2
          rw [if_neg (fun q => f2 q.2)]
          refine ⟨am_setI g 9 13 (nI 5), front _ (fun Q => ?_), OPx_F A ho Z N.2 (by decide) (by decide), FA_I (by omega)⟩
          simp (disch := first | with_reducible assumption | omega | exact Or.inl rfl | exact Or.inr rfl | exact bI_01 | exact c_cat | exact vt_ref | exact vt_null | rfl | with_reducible repeat (first | assumption | omega | apply S_I | apply S_L | apply S_D | apply ob_I | apply ob_L | apply ob_D | apply ob_R | apply ax_I | apply ax_L | apply ax_D | apply ax_R | apply o303 | apply o307 | apply o302 | apply o301 | apply ax304 | apply ax305 | apply ax306 | apply ax308 | apply ax309 | apply ax310 | apply lt_S | apply ar305 | apply ar308 | apply ar309)) only [g52_31, g52_32, g52_35, g52_37, g52_38, g52_39, g52_40, g52_41, g52_44, g52_46, g52_47, g52_48, g52_50, g52_51, g52_54, g52_56, g52_57, g52_58, g52_59, g52_60, g52_63, g52_65, g52_66, g52_67, g52_69, g52_71, g52_74, g52_77, g52_79, g52_82, g52_85, g52_87, g52_88, g52_89, g52_92, g52_93, g52_94, g52_97, g52_98, g52_99, g52_100, g52_103, g52_105, g52_106, g52_107, g52_109, g52_110, g52_112, g52_113, g52_114, g52_117, g52_118, g52_121, g52_123, g52_124, g52_126, g52_128, g52_129, g52_130, g52_133, g52_136, Option.toList, List.nil_append, List.cons_append, va_rf, nI_ltI, nI_leI, nI_eq, nI_add, nI_sub, nI_lt0, nI_e0, nI_m1, m1_nI, Nat.reduceEqDiff, Nat.reduceLT, Nat.reduceLeDiff, Nat.reduceAdd, Nat.reduceSub, Nat.reduceMul, ↓reduceIte, eq_self, u1, u2, w1, w2, ie1 _, ie2 _]
      · rw [show finB (Jvm.FP.dsub (la.getD (j + 1) 0) (la.getD j 0)) = false from Bool.eq_false_iff.mpr f1, Bool.not_false, bI_t] at ie1
        rw [if_neg (fun q => f1 q.1)]
        refine ⟨am_setI g 9 13 (nI 5), front _ (fun Q => ?_), OPx_F A ho Z N.2 (by decide) (by decide), FA_I (by omega)⟩
        simp (disch := first | with_reducible assumption | omega | exact Or.inl rfl | exact Or.inr rfl | exact bI_01 | exact c_cat | exact vt_ref | exact vt_null | rfl | with_reducible repeat (first | assumption | omega | apply S_I | apply S_L | apply S_D | apply ob_I | apply ob_L | apply ob_D | apply ob_R | apply ax_I | apply ax_L | apply ax_D | apply ax_R | apply o303 | apply o307 | apply o302 | apply o301 | apply ax304 | apply ax305 | apply ax306 | apply ax308 | apply ax309 | apply ax310 | apply lt_S | apply ar305 | apply ar308 | apply ar309)) only [g52_31, g52_32, g52_35, g52_37, g52_38, g52_39, g52_40, g52_41, g52_44, g52_46, g52_47, g52_48, g52_50, g52_51, g52_54, g52_56, g52_57, g52_58, g52_59, g52_60, g52_63, g52_65, g52_66, g52_67, g52_69, g52_71, g52_74, g52_77, g52_79, g52_82, g52_85, g52_87, g52_88, g52_89, g52_92, g52_93, g52_94, g52_97, g52_98, g52_99, g52_100, g52_103, g52_105, g52_106, g52_107, g52_109, g52_110, g52_112, g52_113, g52_114, g52_117, g52_118, g52_121, g52_123, g52_124, g52_126, g52_128, g52_129, g52_130, g52_133, g52_136, Option.toList, List.nil_append, List.cons_append, va_rf, nI_ltI, nI_leI, nI_eq, nI_add, nI_sub, nI_lt0, nI_e0, nI_m1, m1_nI, Nat.reduceEqDiff, Nat.reduceLT, Nat.reduceLeDiff, Nat.reduceAdd, Nat.reduceSub, Nat.reduceMul, ↓reduceIte, eq_self, u1, u2, w1, w2, ie1 _]
end XLI

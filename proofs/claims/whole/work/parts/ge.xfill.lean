/-! THE CLASS: rows as doubles -/
theorem add_inf {x y : UInt64} (hx : okD x) (hy : am_nn y) (f : finB y = false) : finB (Jvm.FP.dadd x y) = false := by
  apply Bool.eq_false_iff.mpr
  intro q
  obtain ⟨s1, c1, q1, e1⟩ := okD_fin (finB_ok.mp q)
  obtain ⟨s2, c2, q2, e2⟩ := okD_fin hx
  have e : Jvm.FP.Core.val64 (Jvm.FP.dadd x y) = _ := Jvm.FP.Core.val64_dadd x y
  rw [e1, e2] at e
  match hv : Jvm.FP.Core.val64 y with
  | .nan => exact nn_val hy hv
  | .fin s c q => rw [finB_ok.mpr (okD_of ⟨s, c, q, hv⟩)] at f; cases f
  | .inf s =>
    rw [hv] at e
    cases e
theorem evTab_len {cv : Nat → Option (Option VL)} : ∀ l a σ a' σ', evTab cv l a σ = (.inl a', σ') → a'.length = a.length + l.length := by
  intro l
  induction l with
  | nil =>
    intro a σ a' σ' h
    injection h with h1 h2
    rw [← Sum.inl.inj h1]; rfl
  | cons c l ih =>
    intro a σ a' σ' h
    rw [evTab] at h
    split at h
    · injection h with h1 h2; cases h1
    · split at h
      · injection h with h1 h2; cases h1
      · injection h with h1 h2; cases h1
      · have := ih _ _ _ _ h
        rw [List.length_append] at this
        rw [this, List.length_cons]
        show a.length + 1 + l.length = a.length + (l.length + 1)
        omega
/-- what reading rows comes to -/
def TBx (h g g' : am_H) (o : Nat) (rr : Option Nat) (sa dp : Nat) (ts : List (Nat × Nat × Nat)) (st : List VL) (q : Nat) (r : (List UInt64 ⊕ (Nat ⊕ Nat)) × SR) : Prop := XS h g' o rr sa dp ts r.2 ∧ (∀ q', (q' = 20 ∨ q' = 21) → q' ≠ q → ∀ j, am_D g' q' j = am_D g q' j) ∧ FA g g' ∧ match r.1 with
  | .inl l => KZ g' ∧ NS g' st ∧ dA g' q l
  | .inr f => FLx h g' f ∧ ∀ i v, st[i]? = some v → xn g' i v
section XFI
variable {h g g' ga : am_H} {o sa dp d q a b : Nat} {rr : Option Nat} {cv : Nat → Option (Option VL)} {st : List VL} {ts : List (Nat × Nat × Nat)} {σ : SR} {u v : VL} {P : Nat → Prop}
theorem XS_D {a k : Nat} {x : UInt64} (A : XS h g o rr sa dp ts σ) (ha : 17 ≤ a ∧ a ≤ 21) : XS h (am_setD g a k x) o rr sa dp ts σ := by
  obtain ⟨a1, a2, a3, a4, a5, a6, a7, a8, a9, a10⟩ := A
  exact ⟨kp_D a1 (Or.inr (Or.inr (Or.inl ha))), a2, a3, a4, a5, a6, a7, a8, a9, RDx_keep a10 (fun _ _ => rfl) rfl (fun _ _ => rfl) (Nat.le_refl _) (fun _ _ _ => rfl)⟩
abbrev FIl (q a b i : Nat) : am_Lo := [some (.ref 9), some (.ref q), some (.int (nI (a + 256 * b))), some (.int (nI (rgN a b))), some (.int (nI i))]
theorem q_tag (S : am_S g) (hq : q = 20 ∨ q = 21) : am_tg g q = (102, 64) ∧ q < g.1 := by
  rcases hq with rfl | rfl
  · exact ⟨am_S_tg S (by decide) (by decide), am_S_lt S (by decide)⟩
  · exact ⟨am_S_tg S (by decide) (by decide), am_S_lt S (by decide)⟩
theorem x_fillBad {f : Nat ⊕ Nat} {i : Nat} (S : am_S g) (hq : q = 20 ∨ q = 21) (L : FLx h g f) (sd : rgS a b = true) (hi : i ≤ 64) {Q : Option Value → am_H → Prop} : am_J d 50 8 (FIl q a b i) [] g Q ↔ Q (some (.int (nI (rgN a b)))) g := by
  obtain ⟨k, k1, k2, k3⟩ := FLx_kind L
  have r64 := rgN_le sd
  obtain ⟨t1, t2⟩ := q_tag S hq
  have t3 : 100 ≤ (am_tg g q).1 := by rw [t1]; decide
  rw [g50_8]
  by_cases c : rgN a b ≤ i
  · simp (disch := first | with_reducible assumption | omega | exact Or.inl rfl | exact Or.inr rfl | exact bI_01 | exact c_cat | exact vt_ref | exact vt_null | rfl | with_reducible repeat (first | assumption | omega | apply S_I | apply S_L | apply S_D | apply ob_I | apply ob_L | apply ob_D | apply ob_R | apply ax_I | apply ax_L | apply ax_D | apply ax_R | apply o303 | apply o307 | apply o302 | apply o301 | apply ax304 | apply ax305 | apply ax306 | apply ax308 | apply ax309 | apply ax310 | apply lt_S | apply ar305 | apply ar308 | apply ar309)) only [g50_10, g50_11, g50_14, g50_16, g50_17, g50_18, g50_21, g50_22, g50_25, g50_28, g50_29, g50_32, g50_35, g50_36, g50_37, g50_39, g50_42, g50_43, g50_46, g50_49, g50_50, g50_52, g50_53, g50_56, g50_59, g50_60, g50_63, g50_66, g50_67, Option.toList, List.nil_append, List.cons_append, va_rf, nI_ltI, nI_leI, nI_eq, nI_add, nI_sub, nI_lt0, nI_e0, nI_m1, m1_nI, Nat.reduceEqDiff, Nat.reduceLT, Nat.reduceLeDiff, Nat.reduceAdd, Nat.reduceSub, Nat.reduceMul, ↓reduceIte, eq_self, c, k3, show ¬ k = 0 by omega]
  · simp (disch := first | with_reducible assumption | omega | exact Or.inl rfl | exact Or.inr rfl | exact bI_01 | exact c_cat | exact vt_ref | exact vt_null | rfl | with_reducible repeat (first | assumption | omega | apply S_I | apply S_L | apply S_D | apply ob_I | apply ob_L | apply ob_D | apply ob_R | apply ax_I | apply ax_L | apply ax_D | apply ax_R | apply o303 | apply o307 | apply o302 | apply o301 | apply ax304 | apply ax305 | apply ax306 | apply ax308 | apply ax309 | apply ax310 | apply lt_S | apply ar305 | apply ar308 | apply ar309)) only [g50_10, g50_11, g50_14, g50_16, g50_17, g50_18, g50_21, g50_22, g50_25, g50_28, g50_29, g50_32, g50_35, g50_36, g50_37, g50_39, g50_42, g50_43, g50_46, g50_49, g50_50, g50_52, g50_53, g50_56, g50_59, g50_60, g50_63, g50_66, g50_67, Option.toList, List.nil_append, List.cons_append, va_rf, nI_ltI, nI_leI, nI_eq, nI_add, nI_sub, nI_lt0, nI_e0, nI_m1, m1_nI, Nat.reduceEqDiff, Nat.reduceLT, Nat.reduceLeDiff, Nat.reduceAdd, Nat.reduceSub, Nat.reduceMul, ↓reduceIte, eq_self, c, k3, t1, show ¬ 64 ≤ i by omega, show ¬ k = 0 by omega]
theorem x_fillL (h4 : 402 ≤ h.1) (ho : o < 278 ∨ 299 < o) (hq : q = 20 ∨ q = 21) (C : cvX h cv P) (ha : a < 256) (hb : b < 256) (sd : rgS a b = true) (hP : ∀ j, j < rgN a b → P (rgC a b j)) (hl : st.length + 2 < 1024) :
    ∀ k i l σ g, rgN a b - i = k → i ≤ rgN a b → l.length = i → XS h g o rr sa dp ts σ → KZ g → NS g st → dA g q l →
    ∃ g', (∀ Q, am_J (d + 3) 50 8 (FIl q a b i) [] g Q ↔ Q (some (.int (nI (rgN a b)))) g') ∧ TBx h g g' o rr sa dp ts st q (evTab cv (rgF a b i k) l σ) := by
  have r64 := rgN_le sd
  intro k
  induction k with
  | zero =>
    intro i l σ g hk hi hl2 A Z N D
    obtain rfl : i = rgN a b := by omega
    have S := A.2.1
    refine ⟨g, fun Q => ?_, A, fun _ _ _ _ => rfl, FA_refl, Z, N, D⟩
    rw [g50_8]
    simp (disch := first | with_reducible assumption | omega | exact Or.inl rfl | exact Or.inr rfl | exact bI_01 | exact c_cat | exact vt_ref | exact vt_null | rfl | with_reducible repeat (first | assumption | omega | apply S_I | apply S_L | apply S_D | apply ob_I | apply ob_L | apply ob_D | apply ob_R | apply ax_I | apply ax_L | apply ax_D | apply ax_R | apply o303 | apply o307 | apply o302 | apply o301 | apply ax304 | apply ax305 | apply ax306 | apply ax308 | apply ax309 | apply ax310 | apply lt_S | apply ar305 | apply ar308 | apply ar309)) only [g50_10, g50_11, g50_14, g50_16, g50_17, g50_18, g50_21, g50_22, g50_25, g50_28, g50_29, g50_32, g50_35, g50_36, g50_37, g50_39, g50_42, g50_43, g50_46, g50_49, g50_50, g50_52, g50_53, g50_56, g50_59, g50_60, g50_63, g50_66, g50_67, Option.toList, List.nil_append, List.cons_append, va_rf, nI_ltI, nI_leI, nI_eq, nI_add, nI_sub, nI_lt0, nI_e0, nI_m1, m1_nI, Nat.reduceEqDiff, Nat.reduceLT, Nat.reduceLeDiff, Nat.reduceAdd, Nat.reduceSub, Nat.reduceMul, ↓reduceIte, eq_self, Nat.le_refl]
  | succ k ih =>
    intro i l σ g hk hi hl2 A Z N D
    have hi2 : i < rgN a b := by omega
    have S := A.2.1
    have z1 := Z.1
    obtain ⟨t1, t2⟩ := q_tag S hq
    have t3 : 100 ≤ (am_tg g q).1 := by rw [t1]; decide
    rw [rgF_s]
    by_cases s0 : σ.1 = 0
    · rw [show evTab cv (rgC a b i :: rgF a b (i + 1) k) l σ = (.inr (.inl 8), σ) from if_pos s0]
      have ts0 := x_tookStepN (d := d + 2) A s0
      have A1 : XS h (am_setI g 9 13 (nI 8)) o rr sa dp ts σ := XS_I A (Or.inl ⟨rfl, rfl⟩) ho
      have L1 : FLx h (am_setI g 9 13 (nI 8)) (.inl 8) := ⟨rI_eq, by decide, by decide, Z.2⟩
      refine ⟨_, fun Q => ?_, A1, fun _ _ _ _ => rfl, FA_I (by omega), L1, (NS_9 N).2⟩
      rw [← x_fillBad (d := d + 3) (Q := Q) (i := i + 1) A1.2.1 hq L1 sd (by omega), g50_8]
      simp (disch := first | with_reducible assumption | omega | exact Or.inl rfl | exact Or.inr rfl | exact bI_01 | exact c_cat | exact vt_ref | exact vt_null | rfl | with_reducible repeat (first | assumption | omega | apply S_I | apply S_L | apply S_D | apply ob_I | apply ob_L | apply ob_D | apply ob_R | apply ax_I | apply ax_L | apply ax_D | apply ax_R | apply o303 | apply o307 | apply o302 | apply o301 | apply ax304 | apply ax305 | apply ax306 | apply ax308 | apply ax309 | apply ax310 | apply lt_S | apply ar305 | apply ar308 | apply ar309)) only [g50_10, g50_11, g50_14, g50_16, g50_17, g50_18, g50_21, g50_22, g50_25, g50_28, g50_29, g50_32, g50_35, g50_36, g50_37, g50_39, g50_42, g50_43, g50_46, g50_49, g50_50, g50_52, g50_53, g50_56, g50_59, g50_60, g50_63, Option.toList, List.nil_append, List.cons_append, va_rf, nI_ltI, nI_leI, nI_eq, nI_add, nI_sub, nI_lt0, nI_e0, nI_m1, m1_nI, Nat.reduceEqDiff, Nat.reduceLT, Nat.reduceLeDiff, Nat.reduceAdd, Nat.reduceSub, Nat.reduceMul, ↓reduceIte, eq_self, show ¬ rgN a b ≤ i by omega, t1, show ¬ 64 ≤ i by omega, z1, ts0 _]
    · have ts1 := x_tookStep (d := d + 2) A s0
      have A1 := XS_step A
      have S1 := A1.2.1
      have Z1 : KZ (am_setI g 9 11 (nI (σ.1 - 1))) := ⟨by rw [rI_k (by decide)]; exact Z.1, Z.2⟩
      have N1 := NS_9 (k := 11) (x := nI (σ.1 - 1)) N
      have co := fun Q => x_rangeCell (d := d + 2) (h := am_setI g 9 11 (nI (σ.1 - 1))) (Q := Q) (v2 := none) (v3 := none) ha hb sd (j := i) (by omega)
      obtain ⟨g2, bb, r2, A2, FA2, O1, O2, O3, dd⟩ := x_readCell (d := d) false h4 A1 ho N1 (by omega) Z1 C (hP i hi2)
      rw [bI_f] at r2
      have S2 := A2.2.1
      have FA02 : FA g g2 := FA_trans (FA_I (by omega)) FA2
      have dd0 : ∀ q', (q' = 20 ∨ q' = 21) → ∀ j, am_D g2 q' j = am_D g q' j := fun q' h1 j => by
        rcases h1 with rfl | rfl
        · exact (dd j).1
        · exact (dd j).2
      match hr : rdR cv (rgC a b i) false with
      | none =>
        exfalso
        unfold rdR at hr
        match hcv : cv (rgC a b i) with
        | none => rw [hcv] at hr; cases hr
        | some none => rw [hcv] at hr; cases hr
        | some (some v) => rw [hcv] at hr; cases hr
      | some (.inr f) =>
        obtain ⟨q1, q2, q3⟩ := O2 _ hr
        subst q1
        rw [bI_f] at r2
        rw [show evTab cv (rgC a b i :: rgF a b (i + 1) k) l σ = (.inr f, (σ.1 - 1, σ.2 ++ [rgC a b i])) by rw [evTab, if_neg s0, hr]]
        refine ⟨g2, fun Q => ?_, A2, fun q' h1 _ => dd0 q' h1, FA02, q3, q2.2⟩
        rw [← x_fillBad (d := d + 3) (Q := Q) (i := i + 1) A2.2.1 hq q3 sd (by omega), g50_8]
        simp (disch := first | with_reducible assumption | omega | exact Or.inl rfl | exact Or.inr rfl | exact bI_01 | exact c_cat | exact vt_ref | exact vt_null | rfl | with_reducible repeat (first | assumption | omega | apply S_I | apply S_L | apply S_D | apply ob_I | apply ob_L | apply ob_D | apply ob_R | apply ax_I | apply ax_L | apply ax_D | apply ax_R | apply o303 | apply o307 | apply o302 | apply o301 | apply ax304 | apply ax305 | apply ax306 | apply ax308 | apply ax309 | apply ax310 | apply lt_S | apply ar305 | apply ar308 | apply ar309)) only [g50_10, g50_11, g50_14, g50_16, g50_17, g50_18, g50_21, g50_22, g50_25, g50_28, g50_29, g50_32, g50_35, g50_36, g50_37, g50_39, g50_42, g50_43, g50_46, g50_49, g50_50, g50_52, g50_53, g50_56, g50_59, g50_60, g50_63, Option.toList, List.nil_append, List.cons_append, va_rf, nI_ltI, nI_leI, nI_eq, nI_add, nI_sub, nI_lt0, nI_e0, nI_m1, m1_nI, Nat.reduceEqDiff, Nat.reduceLT, Nat.reduceLeDiff, Nat.reduceAdd, Nat.reduceSub, Nat.reduceMul, ↓reduceIte, eq_self, show ¬ rgN a b ≤ i by omega, t1, show ¬ 64 ≤ i by omega, z1, ts1 _, co _, r2 _]
      | some (.inl v) =>
        obtain ⟨q1, q2, q3, q4⟩ := O1 _ hr
        subst q1
        rw [bI_t] at r2
        obtain ⟨r3, N3, F3⟩ := x_popD (d := d + 1) S2 q2 (by omega)
        have A3 := XS_num A2 F3
        have S3 := A3.2.1
        obtain ⟨t1', t2'⟩ := q_tag S3 hq
        have X : am_ax (am_setI g2 12 3 (nI st.length)) q 102 i := ax_of t2' t1' (by omega) (by omega)
        have hq4 : 4 ≤ q := by omega
        have A4 : XS h (am_setD (am_setI g2 12 3 (nI st.length)) q i (vD v)) o rr sa dp ts (σ.1 - 1, σ.2 ++ [rgC a b i]) := XS_D A3 (by omega)
        have N4 : NS (am_setD (am_setI g2 12 3 (nI st.length)) q i (vD v)) st := NS_fr (P := fun a => a = q) (fr_D fr_refl rfl) (by omega) (by omega) (by omega) (by omega) N3
        have Z4 : KZ (am_setD (am_setI g2 12 3 (nI st.length)) q i (vD v)) := ⟨(fr_rdI F3 (by decide)).trans q3.1, (fr_rdR F3).trans q3.2⟩
        have D4 : dA (am_setD (am_setI g2 12 3 (nI st.length)) q i (vD v)) q (l ++ [vD v]) := fun j w hw => by
          by_cases c : j < l.length
          · rw [List.getElem?_append_left c] at hw
            rw [rD_k (by omega)]
            refine ⟨?_, (D j w hw).2⟩
            rw [hD_I, dd0 q hq j]; exact (D j w hw).1
          · have hl3 := (List.getElem?_eq_some_iff.mp hw).1
            rw [List.length_append, List.length_cons, List.length_nil] at hl3
            obtain rfl : j = l.length := by omega
            rw [List.getElem?_append_right (Nat.le_refl _), Nat.sub_self] at hw
            obtain rfl : vD v = w := Option.some.inj hw
            subst hl2
            exact ⟨rD_eq, ok_vD q4⟩
        have ee : evTab cv (rgC a b i :: rgF a b (i + 1) k) l σ = evTab cv (rgF a b (i + 1) k) (l ++ [vD v]) (σ.1 - 1, σ.2 ++ [rgC a b i]) := by
          rw [evTab, if_neg s0, hr]
        obtain ⟨g', r4, B1, B2, B3, B4⟩ := ih (i + 1) (l ++ [vD v]) (σ.1 - 1, σ.2 ++ [rgC a b i]) _ (by omega) (by omega) (by rw [List.length_append, hl2]; rfl) A4 Z4 N4 D4
        rw [ee]
        refine ⟨g', fun Q => ?_, B1, fun q' h1 h2 j => (B2 q' h1 h2 j).trans ?_, FA_trans FA02 (FA_trans (FA_fr F3 (fun a q => by omega)) (FA_trans (FA_fr (P := fun a => a = q) (fr_D fr_refl rfl) (fun a q => by omega)) B3)), B4⟩
        · rw [← r4 Q, g50_8]
          simp (disch := first | with_reducible assumption | omega | exact Or.inl rfl | exact Or.inr rfl | exact bI_01 | exact c_cat | exact vt_ref | exact vt_null | rfl | with_reducible repeat (first | assumption | omega | apply S_I | apply S_L | apply S_D | apply ob_I | apply ob_L | apply ob_D | apply ob_R | apply ax_I | apply ax_L | apply ax_D | apply ax_R | apply o303 | apply o307 | apply o302 | apply o301 | apply ax304 | apply ax305 | apply ax306 | apply ax308 | apply ax309 | apply ax310 | apply lt_S | apply ar305 | apply ar308 | apply ar309)) only [g50_10, g50_11, g50_14, g50_16, g50_17, g50_18, g50_21, g50_22, g50_25, g50_28, g50_29, g50_32, g50_35, g50_36, g50_37, g50_39, g50_42, g50_43, g50_46, g50_49, g50_50, g50_52, g50_53, g50_56, g50_59, g50_60, g50_63, Option.toList, List.nil_append, List.cons_append, va_rf, nI_ltI, nI_leI, nI_eq, nI_add, nI_sub, nI_lt0, nI_e0, nI_m1, m1_nI, Nat.reduceEqDiff, Nat.reduceLT, Nat.reduceLeDiff, Nat.reduceAdd, Nat.reduceSub, Nat.reduceMul, ↓reduceIte, eq_self, show ¬ rgN a b ≤ i by omega, t1, show ¬ 64 ≤ i by omega, z1, ts1 _, co _, r2 _, r3 _]
        · rw [hD_D, if_neg (fun e => h2 e), hD_I]
          exact dd0 q' h1 j
theorem x_fill (h4 : 402 ≤ h.1) (ho : o < 278 ∨ 299 < o) (hq : q = 20 ∨ q = 21) (C : cvX h cv P) (ha : a < 256) (hb : b < 256) (sd : rgS a b = true) (hP : ∀ j, j < rgN a b → P (rgC a b j)) (hl : st.length + 2 < 1024) (A : XS h g o rr sa dp ts σ) (Z : KZ g) (N : NS g st) :
    ∃ g', am_run (d + 3) 50 [some (.ref 9), some (.ref q), some (.int (nI (a + 256 * b))), none, none] g (some (.int (nI (rgN a b)))) g' ∧ TBx h g g' o rr sa dp ts st q (evTab cv (rgL a b) [] σ) := by
  have rs := fun h Q => x_rangeSize (d := d + 2) (h := h) (Q := Q) (v1 := none) (v2 := none) ha hb sd
  obtain ⟨g', r1, B⟩ := x_fillL (d := d) h4 ho hq C ha hb sd hP hl (rgN a b) 0 [] σ g (by omega) (by omega) rfl A Z N (fun j v hv => by cases hv)
  rw [rgF_0] at B
  refine ⟨g', fun Q => ?_, B⟩
  rw [← r1 Q]
  simp (disch := first | with_reducible assumption | omega | exact Or.inl rfl | exact Or.inr rfl | exact bI_01 | exact c_cat | exact vt_ref | exact vt_null | rfl | with_reducible repeat (first | assumption | omega | apply S_I | apply S_L | apply S_D | apply ob_I | apply ob_L | apply ob_D | apply ob_R | apply ax_I | apply ax_L | apply ax_D | apply ax_R | apply o303 | apply o307 | apply o302 | apply o301 | apply ax304 | apply ax305 | apply ax306 | apply ax308 | apply ax309 | apply ax310 | apply lt_S | apply ar305 | apply ar308 | apply ar309)) only [g50_0, g50_1, g50_4, g50_5, g50_6, Option.toList, List.nil_append, List.cons_append, va_rf, rs _ _]
/-- rows that aren't read when it has failed -/
theorem x_fillNo {f : Nat ⊕ Nat} (S : am_S g) (hq : q = 20 ∨ q = 21) (L : FLx h g f) (ha : a < 256) (hb : b < 256) (sd : rgS a b = true) : am_run (d + 3) 50 [some (.ref 9), some (.ref q), some (.int (nI (a + 256 * b))), none, none] g (some (.int (nI (rgN a b)))) g := fun Q => by
  have rs := fun h Q => x_rangeSize (d := d + 2) (h := h) (Q := Q) (v1 := none) (v2 := none) ha hb sd
  rw [← x_fillBad (d := d + 3) (Q := Q) (i := 0) S hq L sd (by omega)]
  simp (disch := first | with_reducible assumption | omega | exact Or.inl rfl | exact Or.inr rfl | exact bI_01 | exact c_cat | exact vt_ref | exact vt_null | rfl | with_reducible repeat (first | assumption | omega | apply S_I | apply S_L | apply S_D | apply ob_I | apply ob_L | apply ob_D | apply ob_R | apply ax_I | apply ax_L | apply ax_D | apply ax_R | apply o303 | apply o307 | apply o302 | apply o301 | apply ax304 | apply ax305 | apply ax306 | apply ax308 | apply ax309 | apply ax310 | apply lt_S | apply ar305 | apply ar308 | apply ar309)) only [g50_0, g50_1, g50_4, g50_5, g50_6, Option.toList, List.nil_append, List.cons_append, va_rf, rs _ _]
end XFI

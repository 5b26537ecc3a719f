/-! THE CLASS: root, its turns -/
section XRO
variable {h g g' gm g2 : am_H} {o sa dp d e e' b f s sh nn tm tmf p n T p2 gf r0 t : Nat} {rr : Option Nat} {v1 v2 v3 : Option Value} {tt : Nat → ntT} {rt : Nat → Nat} {cv : Nat → Option (Option VL)} {cs : Nat → Nat → VL} {as as' : List VL} {st : List VL} {ts : List (Nat × Nat × Nat)} {σ : SR} {u v : VL} {x l hh : UInt64} {D' DD : List (Int32 × Int64)} {bl : Bool}
/-- the frame of a root: its function, turns, low and high, the low end's sign -/
def RF (g : am_H) (j e' t : Nat) (l hh : UInt64) (bl : Bool) : Prop := am_R g (278 + j) 0 = some e' ∧ am_I g (278 + j) 3 = nI t ∧ am_D g (278 + j) 4 = l ∧ am_D g (278 + j) 5 = hh ∧ am_I g (278 + j) 7 = bI bl
/-- what asking for x comes to -/
def AQ (h gm g' : am_H) (o : Nat) (rr : Option Nat) (sa dp : Nat) (ts : List (Nat × Nat × Nat)) (σ : SR) (st : List VL) (x : UInt64) (e' t : Nat) : Prop :=
  FK gm g' dp ∧ am_I g' (278 + dp) 1 = am_I gm (278 + dp) 1 ∧
  (if σ.1 = 0 then XS h g' o rr sa dp ts σ ∧ FLx h g' (.inl 8) ∧ ∀ i v, st[i]? = some v → xn g' i v
   else if dp = 20 then XS h g' o rr sa dp ts (σ.1 - 1, σ.2) ∧ FLx h g' (.inl 4) ∧ ∀ i v, st[i]? = some v → xn g' i v
   else XS h g' o rr sa (dp + 1) ts (σ.1 - 1, σ.2) ∧ KZ g' ∧ NS g' (st ++ [.inr x]) ∧ FRx g' (dp + 1) e' 0 st.length ∧ am_I g' (278 + (dp + 1)) 3 = nI (t + 1) ∧ am_I g' (278 + (dp + 1)) 7 = am_I gm (278 + (dp + 1)) 7 ∧ ∀ k, am_D g' (278 + (dp + 1)) k = am_D gm (278 + (dp + 1)) k)
theorem x_ask (ho : o < 278 ∨ 299 < o) (hd : dp ≤ 20) (A : XS h gm o rr sa dp ts σ) (Z : KZ gm) (N : NS gm st) (hl : st.length + 1 < 1024) (kx : okD x) (ec : am_R gm (278 + (dp + 1)) 0 = some e') (et : am_I gm (278 + (dp + 1)) 3 = nI t) (ht : t < 100) : ∃ g', (∀ dd, am_run (dd + 1) 36 [some (.ref 9), some (.ref (278 + (dp + 1))), some (.double x), none] gm none g') ∧ AQ h gm g' o rr sa dp ts σ st x e' t := by
  have S := A.2.1
  have d1 := A.2.2.2.1
  unfold AQ
  by_cases s0 : σ.1 = 0
  · simp only [if_pos s0]
    refine ⟨am_setI gm 9 13 (nI 8), fun dd Q => ?_, FA_K (FA_I (by omega)) (by omega), rI_a (by omega), XS_I A (Or.inl ⟨rfl, rfl⟩) ho, ⟨rI_eq, by decide, by decide, Z.2⟩, (NS_9 N).2⟩
    have ts0 := x_tookStepN (d := dd) A s0
    simp (disch := first | with_reducible assumption | omega | exact Or.inl rfl | exact Or.inr rfl | exact bI_01 | exact c_cat | exact vt_ref | exact vt_null | rfl | with_reducible repeat (first | assumption | omega | apply S_I | apply S_L | apply S_D | apply ob_I | apply ob_L | apply ob_D | apply ob_R | apply ax_I | apply ax_L | apply ax_D | apply ax_R | apply o303 | apply o307 | apply o302 | apply o301 | apply ax304 | apply ax305 | apply ax306 | apply ax308 | apply ax309 | apply ax310 | apply lt_S | apply ar305 | apply ar308 | apply ar309)) only [g36_0, g36_1, g36_4, g36_7, g36_8, g36_9, g36_12, g36_14, g36_17, g36_18, g36_19, g36_22, g36_23, g36_24, g36_25, g36_28, g36_29, g36_30, g36_33, g36_34, g36_37, g36_38, g36_41, g36_42, g36_43, g36_44, g36_47, Option.toList, List.nil_append, List.cons_append, va_rf, nI_ltI, nI_leI, nI_eq, nI_add, nI_sub, nI_lt0, nI_e0, nI_m1, m1_nI, Nat.reduceEqDiff, Nat.reduceLT, Nat.reduceLeDiff, Nat.reduceAdd, Nat.reduceSub, Nat.reduceMul, ↓reduceIte, eq_self, ts0 _]
  · simp only [if_neg s0]
    have A1 := XS_step A
    have S1 := A1.2.1
    have N1 := NS_9 (k := 11) (x := nI (σ.1 - 1)) N
    have Z1 : KZ (am_setI gm 9 11 (nI (σ.1 - 1))) := ⟨by rw [rI_k (by decide)]; exact Z.1, Z.2⟩
    have d2 : am_I (am_setI gm 9 11 (nI (σ.1 - 1))) 9 10 = nI dp := by rw [rI_k (by decide)]; exact d1
    by_cases c : dp = 20
    · simp only [if_pos c]
      subst c
      refine ⟨am_setI (am_setI gm 9 11 (nI (σ.1 - 1))) 9 13 (nI 4), fun dd Q => ?_, FK_trans (FA_K (FA_I (by omega)) (by omega)) (FA_K (FA_I (by omega)) (by omega)), by rw [rI_a (by omega), rI_a (by omega)], XS_I A1 (Or.inl ⟨rfl, rfl⟩) ho, ⟨rI_eq, by decide, by decide, Z1.2⟩, (NS_9 N1).2⟩
      have ts1 := x_tookStep (d := dd) A s0
      simp (disch := first | with_reducible assumption | omega | exact Or.inl rfl | exact Or.inr rfl | exact bI_01 | exact c_cat | exact vt_ref | exact vt_null | rfl | with_reducible repeat (first | assumption | omega | apply S_I | apply S_L | apply S_D | apply ob_I | apply ob_L | apply ob_D | apply ob_R | apply ax_I | apply ax_L | apply ax_D | apply ax_R | apply o303 | apply o307 | apply o302 | apply o301 | apply ax304 | apply ax305 | apply ax306 | apply ax308 | apply ax309 | apply ax310 | apply lt_S | apply ar305 | apply ar308 | apply ar309)) only [g36_0, g36_1, g36_4, g36_7, g36_8, g36_9, g36_12, g36_14, g36_17, g36_18, g36_19, g36_22, g36_23, g36_24, g36_25, g36_28, g36_29, g36_30, g36_33, g36_34, g36_37, g36_38, g36_41, g36_42, g36_43, g36_44, g36_47, Option.toList, List.nil_append, List.cons_append, va_rf, nI_ltI, nI_leI, nI_eq, nI_add, nI_sub, nI_lt0, nI_e0, nI_m1, m1_nI, Nat.reduceEqDiff, Nat.reduceLT, Nat.reduceLeDiff, Nat.reduceAdd, Nat.reduceSub, Nat.reduceMul, ↓reduceIte, eq_self, ts1 _, d2]
    · simp only [if_neg c]
      have O1 := o278 S1 (show dp + 1 < 22 by omega)
      have h4 : 4 ≤ 278 + (dp + 1) := by omega
      have et1 : am_I (am_setI gm 9 11 (nI (σ.1 - 1))) (278 + (dp + 1)) 3 = nI t := by rw [rI_a (by omega)]; exact et
      have A2 : XS h (am_setI (am_setI gm 9 11 (nI (σ.1 - 1))) (278 + (dp + 1)) 3 (nI (t + 1))) o rr sa dp ts (σ.1 - 1, σ.2) := XS_I A1 (Or.inr ⟨by omega, by omega⟩) ho
      have S2 := A2.2.1
      have N2 : NS (am_setI (am_setI gm 9 11 (nI (σ.1 - 1))) (278 + (dp + 1)) 3 (nI (t + 1))) st := NS_fr (P := fun a => a = 278 + (dp + 1)) (fr_I fr_refl rfl) (by omega) (by omega) (by omega) (by omega) N1
      obtain ⟨g3, r3, N3, F3⟩ := x_pushD (d := 0) (x := x) S2 N2 (by omega) kx
      have A3 := XS_num A2 F3
      have S3 := A3.2.1
      have O3 := o278 S3 (show dp + 1 < 22 by omega)
      have d3 := A3.2.2.2.1
      have n3 := NS_len N3
      obtain ⟨R, T3, _⟩ := XS_iff.mp A3
      have A4 : XS h (am_setI (am_setI (am_setI g3 (278 + (dp + 1)) 1 (nI 0)) (278 + (dp + 1)) 2 (nI st.length)) 9 10 (nI (dp + 1))) o rr sa (dp + 1) ts (σ.1 - 1, σ.2) := XS_iff.mpr ⟨XR_I (XR_I (XR_I R (Or.inr (Or.inr (Or.inr ⟨by omega, by omega⟩))) ho) (Or.inr (Or.inr (Or.inr ⟨by omega, by omega⟩))) ho) (Or.inl ⟨rfl, Or.inr (Or.inl rfl)⟩) ho, TS_keep T3 (by rw [rI_k (by decide), rI_a (by omega), rI_a (by omega)]) (fun i => by rw [rI_a (by omega), rI_a (by omega), rI_a (by omega)]) (fun i => by rw [rI_a (by omega), rI_a (by omega), rI_a (by omega)]) (fun i => by rw [rI_a (by omega), rI_a (by omega), rI_a (by omega)]), rI_eq⟩
      have frI : ∀ a k, a ≠ 9 → a ≠ 278 + (dp + 1) → ¬ nsP a → am_I (am_setI (am_setI (am_setI g3 (278 + (dp + 1)) 1 (nI 0)) (278 + (dp + 1)) 2 (nI st.length)) 9 10 (nI (dp + 1))) a k = am_I gm a k := fun a k h1 h2 h3 => by
        rw [rI_a h1, rI_a h2, rI_a h2, fr_rdI F3 h3, rI_a h2, rI_a h1]
      have frR : ∀ a k, am_R (am_setI (am_setI (am_setI g3 (278 + (dp + 1)) 1 (nI 0)) (278 + (dp + 1)) 2 (nI st.length)) 9 10 (nI (dp + 1))) a k = am_R gm a k := fun a k => (fr_rdR F3 : am_R g3 a k = _)
      have frD : ∀ a k, ¬ nsP a → am_D (am_setI (am_setI (am_setI g3 (278 + (dp + 1)) 1 (nI 0)) (278 + (dp + 1)) 2 (nI st.length)) 9 10 (nI (dp + 1))) a k = am_D gm a k := fun a k h3 => (fr_rdD F3 h3 : am_D g3 a k = _)
      have Z3 := KZ_fr F3 (by decide) (KZ_fr (P := fun a => a = 278 + (dp + 1)) (fr_I fr_refl rfl) (by omega) Z1 : KZ (am_setI (am_setI gm 9 11 (nI (σ.1 - 1))) (278 + (dp + 1)) 3 (nI (t + 1))))
      refine ⟨am_setI (am_setI (am_setI g3 (278 + (dp + 1)) 1 (nI 0)) (278 + (dp + 1)) 2 (nI st.length)) 9 10 (nI (dp + 1)), fun dd Q => ?_, ⟨fun j hj k => ⟨frI _ _ (by omega) (by omega) (by omega), frD _ _ (by omega), frR _ _⟩, fun k => ⟨fun _ => frI _ _ (by omega) (by omega) (by omega), frD _ _ (by omega), frR _ _⟩⟩, frI _ _ (by omega) (by omega) (by omega), A4, ⟨by rw [rI_k (by decide), rI_a (by omega), rI_a (by omega)]; exact Z3.1, Z3.2⟩, ?_, ⟨(frR _ _).trans ec, by rw [rI_a (by omega), rI_k (by decide), rI_eq], by rw [rI_a (by omega), rI_eq]⟩, ?_, ?_, fun k => frD _ _ (by omega)⟩
      · have ts1 := x_tookStep (d := dd) A s0
        have r3' := am_runD r3 (Nat.zero_le dd)
        have n3' : am_I (am_setI g3 (278 + (dp + 1)) 1 (nI 0)) 12 3 = nI (st.length + 1) := by rw [rI_a (by omega)]; exact n3
        have d3' : am_I (am_setI (am_setI g3 (278 + (dp + 1)) 1 (nI 0)) (278 + (dp + 1)) 2 (nI st.length)) 9 10 = nI dp := by rw [rI_a (by omega), rI_a (by omega)]; exact d3
        simp (disch := first | with_reducible assumption | omega | exact Or.inl rfl | exact Or.inr rfl | exact bI_01 | exact c_cat | exact vt_ref | exact vt_null | rfl | with_reducible repeat (first | assumption | omega | apply S_I | apply S_L | apply S_D | apply ob_I | apply ob_L | apply ob_D | apply ob_R | apply ax_I | apply ax_L | apply ax_D | apply ax_R | apply o303 | apply o307 | apply o302 | apply o301 | apply ax304 | apply ax305 | apply ax306 | apply ax308 | apply ax309 | apply ax310 | apply lt_S | apply ar305 | apply ar308 | apply ar309)) only [g36_0, g36_1, g36_4, g36_7, g36_8, g36_9, g36_12, g36_14, g36_17, g36_18, g36_19, g36_22, g36_23, g36_24, g36_25, g36_28, g36_29, g36_30, g36_33, g36_34, g36_37, g36_38, g36_41, g36_42, g36_43, g36_44, g36_47, g38_0, g38_1, g38_2, g38_5, g38_6, g38_7, g38_10, g38_13, g38_14, g38_15, g38_18, g38_19, g38_20, g38_23, g38_24, g38_25, g38_28, Option.toList, List.nil_append, List.cons_append, va_rf, nI_ltI, nI_leI, nI_eq, nI_add, nI_sub, nI_lt0, nI_e0, nI_m1, m1_nI, Nat.reduceEqDiff, Nat.reduceLT, Nat.reduceLeDiff, Nat.reduceAdd, Nat.reduceSub, Nat.reduceMul, ↓reduceIte, eq_self, ts1 _, d2, show dp < 20 by omega, et1, r3' _, n3', Nat.add_sub_cancel, d3']
      · exact NS_9 (NS_fr (P := fun a => a = 278 + (dp + 1)) (fr_I (fr_I fr_refl rfl) rfl) (by omega) (by omega) (by omega) (by omega) N3)
      · rw [rI_a (by omega), rI_k (by decide), rI_k (by decide), fr_rdI F3 (by omega), rI_eq]
      · rw [rI_a (by omega), rI_k (by decide), rI_k (by decide), fr_rdI F3 (by omega), rI_k (by decide), rI_a (by omega)]
/-- a root's frame is left: goOnWithRoot is to run from g3 -/
theorem x_leaveR (A : XS h g o rr sa (dp + 1) ts σ) (ho : o < 278 ∨ 299 < o) (hd : dp < 21) (C : cdK g e' D') (F : FRx g (dp + 1) e' D'.length st.length) (er : am_I g (278 + (dp + 1)) 3 = nI t) (ht : 1 ≤ t) (ht2 : t < 100) (Z : KZ g) (N : NS g (st ++ as' ++ [v])) (hl : st.length + as'.length < 1024) (hn : n < 1000000) : ∃ g3, (∀ g4, am_run (d + 1) 35 [some (.ref 9), some (.ref (278 + (dp + 1))), none, none] g3 none g4 → am_S g4 → (am_I g4 9 13 = nI 0 → GR (d + 3) v1 v2 v3 g n g4 (n + 1)) ∧ BR (d + 3) v1 v2 v3 g n g4 n) ∧ XS h g3 o rr sa dp ts σ ∧ KZ g3 ∧ NS g3 (st ++ [v]) ∧ FA g g3 := by
  have S := A.2.1
  have d1 := A.2.2.2.1
  have a7 := A.2.2.2.2.2.2.1
  obtain ⟨c1, c2, t0, t2, t3, r0, r1, i5, vv, b1⟩ := C
  obtain ⟨f1, f2, f3⟩ := F
  obtain ⟨g1, rd, N1, F1⟩ := x_dropUnder (d := d + 1) S N hl
  have A1 := XS_num A F1
  have S1 := A1.2.1
  have Z1 := KZ_fr F1 (by decide) Z
  have O := o278 S (show dp + 1 < 22 by omega)
  have O1 := o278 S1 (show dp + 1 < 22 by omega)
  have Oe : am_ob g e' 1 := ⟨by omega, by rw [t0]⟩
  have d2 := A1.2.2.2.1
  have er1 : am_I g1 (278 + (dp + 1)) 3 = nI t := (fr_rdI F1 (by omega)).trans er
  obtain ⟨R, T, _⟩ := XS_iff.mp A1
  have A2 : XS h (am_setI g1 9 10 (nI dp)) o rr sa dp ts σ := XS_iff.mpr ⟨XR_I R (Or.inl ⟨rfl, Or.inr (Or.inl rfl)⟩) ho, TS_keep T (rI_k (by decide)) (fun i => rI_a (by decide)) (fun i => rI_a (by decide)) (fun i => rI_a (by decide)), rI_eq⟩
  have S2 := A2.2.1
  have Z2 : KZ (am_setI g1 9 10 (nI dp)) := ⟨by rw [rI_k (by decide)]; exact Z1.1, Z1.2⟩
  have er2 : am_I (am_setI g1 9 10 (nI dp)) (278 + (dp + 1)) 3 = nI t := by rw [rI_a (by omega)]; exact er1
  have O2 := o278 S2 (show dp + 1 < 22 by omega)
  have p0 : (nI t ≤ (0 : Int32)) = False := eq_false (by rw [show (0 : Int32) = nI 0 from rfl, nI_leI (by omega) (by omega)]; omega)
  have main : ∀ g4, am_run (d + 1) 35 [some (.ref 9), some (.ref (278 + (dp + 1))), none, none] (am_setI g1 9 10 (nI dp)) none g4 → ∀ v5 v6 Q, am_J (d + 3) 32 9 (LL v1 v2 v3 n v5 v6) [] g Q ↔ am_J (d + 3) 32 121 (LL v1 v2 v3 n (some (.ref (278 + (dp + 1)))) v6) [] g4 Q := fun g4 R4 v5 v6 Q => by
    rw [g32_9]
    simp (disch := first | with_reducible assumption | omega | exact Or.inl rfl | exact Or.inr rfl | exact bI_01 | exact c_cat | exact vt_ref | exact vt_null | rfl | with_reducible repeat (first | assumption | omega | apply S_I | apply S_L | apply S_D | apply ob_I | apply ob_L | apply ob_D | apply ob_R | apply ax_I | apply ax_L | apply ax_D | apply ax_R | apply o303 | apply o307 | apply o302 | apply o301 | apply ax304 | apply ax305 | apply ax306 | apply ax308 | apply ax309 | apply ax310 | apply lt_S | apply ar305 | apply ar308 | apply ar309)) only [g32_11, g32_13, g32_16, g32_17, g32_20, g32_23, g32_24, g32_27, g32_28, g32_31, g32_32, g32_34, g32_36, g32_39, g32_39r, g32_39n, g32_42, g32_44, g32_47, g32_50, g32_52, g32_55, g32_57, g32_60, g32_63, g32_66, g32_67, g32_69, g32_72, g34_0, g34_1, g34_4, g34_5, g34_8, g34_9, g34_10, g34_13, g34_14, g34_15, g34_18, g34_19, g34_22, g34_25, g34_26, g34_27, g34_30, g34_31, g34_32, g34_35, g34_36, g34_39, g34_42, g34_43, g34_44, g34_47, Option.toList, List.nil_append, List.cons_append, va_rf, nI_ltI, nI_leI, nI_eq, nI_add, nI_sub, nI_lt0, nI_e0, nI_m1, m1_nI, Nat.reduceEqDiff, Nat.reduceLT, Nat.reduceLeDiff, Nat.reduceAdd, Nat.reduceSub, Nat.reduceMul, ↓reduceIte, eq_self, show ¬ 1000000 ≤ n by omega, a7, d1, f1, f2, i5, Nat.lt_irrefl, show ¬ dp + 1 < 1 by omega, show 1 ≤ dp + 1 by omega, f3, rd _, d2, Nat.add_sub_cancel, er2, p0, R4 _, reduceCtorEq]
  refine ⟨am_setI g1 9 10 (nI dp), fun g4 R4 S4 => ⟨fun z4 v5 v6 => ⟨some (.ref (278 + (dp + 1))), v6, fun Q => ?_⟩, fun v5 v6 => ⟨some (.ref (278 + (dp + 1))), v6, fun Q => main g4 R4 v5 v6 Q⟩⟩, A2, Z2, NS_9 N1, FA_trans (FA_fr F1 (fun a q => by omega)) (FA_I (by omega))⟩
  rw [← x_nextTurn S4 z4]
  exact main g4 R4 v5 v6 Q
end XRO

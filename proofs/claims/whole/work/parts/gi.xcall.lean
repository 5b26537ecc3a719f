/-! THE CLASS: a function is entered and left -/
theorem nI_shr2 {a : Nat} (ha : a < 2 ^ 31) : nI a >>> (nI 2 &&& 31) = nI (a / 4) := nI_shr_gen ha (k := 2) (by decide)
theorem nI_and3 (a : Nat) : nI a &&& nI 3 = nI (a % 4) := by
  rw [nI_and]; exact congrArg nI (Nat.and_two_pow_sub_one_eq_mod a 2)
/-- the heap in which a function begins: the next frame j -/
abbrev enH (g : am_H) (j e b : Nat) : am_H := am_setI (am_setI (am_setI (am_setI (am_setR g (278 + j) 0 (some e)) (278 + j) 3 (nI 0)) (278 + j) 1 (nI 0)) (278 + j) 2 (nI b)) 9 10 (nI j)
section XCA
variable {h g g' ga : am_H} {o sa dp d e e' b f s sh nn tm tmf p n T p2 gf r0 : Nat} {rr : Option Nat} {v1 v2 v3 : Option Value} {tt : Nat → ntT} {rt : Nat → Nat} {cv : Nat → Option (Option VL)} {cs : Nat → Nat → VL} {as as' : List VL} {st : List VL} {ts : List (Nat × Nat × Nat)} {σ : SR} {u v : VL} {x : Int32} {D D' : List (Int32 × Int64)}
theorem XR_F {j : Nat} {x : Option Nat} (A : XR h g o rr sa σ) (ho : o < 278 ∨ 299 < o) (hj : j < 22) : XR h (am_setR g (278 + j) 0 x) o rr sa σ := by
  obtain ⟨a1, a2, a5, a6, a7, a8, a9, a10⟩ := A
  refine ⟨kp_R a1 (Or.inr (Or.inr (Or.inr (Or.inl ⟨by omega, by omega⟩)))), S_Rg a2 (Or.inl ⟨by omega, by omega⟩), a5, a6, a7, ?_, ?_, RDx_keep a10 (fun _ _ => rfl) ?_ (fun _ _ => rfl) (Nat.le_refl _) (fun _ _ _ => rfl)⟩
  · rw [hR_R, if_neg (by omega)]; exact a8
  · rw [hR_R, if_neg (by omega)]; exact a9
  · rw [hR_R, if_neg (by omega)]
theorem XR_fD {j k : Nat} {x : UInt64} (A : XR h g o rr sa σ) (hj : j < 22) : XR h (am_setD g (278 + j) k x) o rr sa σ := by
  obtain ⟨a1, a2, a5, a6, a7, a8, a9, a10⟩ := A
  exact ⟨kp_D a1 (Or.inr (Or.inr (Or.inr (Or.inl ⟨by omega, by omega⟩)))), a2, a5, a6, a7, a8, a9, RDx_keep a10 (fun _ _ => rfl) rfl (fun _ _ => rfl) (Nat.le_refl _) (fun _ _ _ => rfl)⟩
theorem TS_keep (A : TS g ts) (h1 : am_I g' 9 9 = am_I g 9 9) (h2 : ∀ i, am_I g' 17 i = am_I g 17 i) (h3 : ∀ i, am_I g' 18 i = am_I g 18 i) (h4 : ∀ i, am_I g' 19 i = am_I g 19 i) : TS g' ts := ⟨h1.trans A.1, fun i q hq => ⟨(h2 i).trans (A.2 i q hq).1, (h3 i).trans (A.2 i q hq).2.1, (h4 i).trans (A.2 i q hq).2.2⟩⟩
theorem XS_en {bb : Nat} (A : XS h g o rr sa dp ts σ) (ho : o < 278 ∨ 299 < o) (hd : dp < 21) : XS h (enH g (dp + 1) e' bb) o rr sa (dp + 1) ts σ := by
  obtain ⟨R, T, _⟩ := XS_iff.mp A
  refine XS_iff.mpr ⟨XR_I (XR_I (XR_I (XR_I (XR_F R ho (by omega)) (Or.inr (Or.inr (Or.inr ⟨by omega, by omega⟩))) ho) (Or.inr (Or.inr (Or.inr ⟨by omega, by omega⟩))) ho) (Or.inr (Or.inr (Or.inr ⟨by omega, by omega⟩))) ho) (Or.inl ⟨rfl, Or.inr (Or.inl rfl)⟩) ho, TS_keep T ?_ (fun i => ?_) (fun i => ?_) (fun i => ?_), rI_eq⟩
  · rw [rI_k (by decide), rI_a (by omega), rI_a (by omega), rI_a (by omega)]; rfl
  · rw [rI_a (by decide), rI_a (by omega), rI_a (by omega), rI_a (by omega)]; rfl
  · rw [rI_a (by decide), rI_a (by omega), rI_a (by omega), rI_a (by omega)]; rfl
  · rw [rI_a (by decide), rI_a (by omega), rI_a (by omega), rI_a (by omega)]; rfl
theorem en_I {a k j bb : Nat} (ha : a ≠ 9) (hb : a ≠ 278 + j) : am_I (enH g j e' bb) a k = am_I g a k := by
  rw [rI_a (by omega), rI_a (by omega), rI_a (by omega), rI_a (by omega)]; rfl
theorem en_R {a k j bb : Nat} (hb : a ≠ 278 + j) : am_R (enH g j e' bb) a k = am_R g a k := by
  show am_R (am_setR g (278 + j) 0 (some e')) a k = _
  rw [hR_R, if_neg hb]
theorem NS_en {j bb : Nat} (N : NS g st) (hj : j < 22) : NS (enH g j e' bb) st := ⟨(en_I (by decide) (by omega)).trans N.1, fun i v hv => xn_keep (g := g) (en_I (by decide) (by omega)) rfl rfl (N.2 i v hv)⟩
theorem KZ_en {j bb : Nat} (Z : KZ g) (hj : j < 22) : KZ (enH g j e' bb) := ⟨by rw [rI_k (by decide), rI_a (by omega), rI_a (by omega), rI_a (by omega)]; exact Z.1, (en_R (by omega)).trans Z.2⟩
theorem FK_en {bb : Nat} (hd : dp < 21) : FK g (enH g (dp + 1) e' bb) dp := ⟨fun j hj k => ⟨en_I (by omega) (by omega), rfl, en_R (by omega)⟩, fun k => ⟨fun _ => en_I (by omega) (by omega), rfl, en_R (by omega)⟩⟩
theorem FR_en {j bb : Nat} (hj : j < 22) : FRx (enH g j e' bb) j e' 0 bb ∧ am_I (enH g j e' bb) (278 + j) 3 = nI 0 := by
  refine ⟨⟨?_, ?_, ?_⟩, ?_⟩
  · show am_R (am_setR g (278 + j) 0 (some e')) (278 + j) 0 = _
    rw [hR_R, if_pos rfl, if_pos rfl]
  · rw [rI_a (by omega), rI_k (by decide), rI_eq]
  · rw [rI_a (by omega), rI_eq]
  · rw [rI_a (by omega), rI_k (by decide), rI_k (by decide), rI_eq]
/-- CALL -/
theorem o_call_ {m w : Nat} (A : XS h ga o rr sa dp ts σ) (hd : dp < 20) (hg : gf < 8) (hw : w < 4) (er : am_R ga 11 gf = some e') (nt : am_I ga 12 3 = nI m) (hm : w ≤ m) (hm2 : m < 2000) : am_run (d + 2) 40 [some (.ref 9), some (.ref (278 + dp)), some (.int (nI 30)), some (.long (lN (gf * 4 + w))), none] ga none (enH ga (dp + 1) e' (m - w)) := fun Q => by
  have S := A.2.1
  have d1 := A.2.2.2.1
  have O := o278 S (show dp + 1 < 22 by omega)
  have h4 : 4 ≤ 278 + (dp + 1) := by omega
  have S1 : am_S (am_setR ga (278 + (dp + 1)) 0 (some e')) := S_Rg S (Or.inl ⟨by omega, by omega⟩)
  have O1 := o278 S1 (show dp + 1 < 22 by omega)
  have d1' : am_I (am_setI (am_setI (am_setI (am_setR ga (278 + (dp + 1)) 0 (some e')) (278 + (dp + 1)) 3 (nI 0)) (278 + (dp + 1)) 1 (nI 0)) (278 + (dp + 1)) 2 (nI (m - w))) 9 10 = nI dp := by rw [rI_a (by omega), rI_a (by omega), rI_a (by omega)]; exact d1
  have nt' : am_I (am_setI (am_setI (am_setR ga (278 + (dp + 1)) 0 (some e')) (278 + (dp + 1)) 3 (nI 0)) (278 + (dp + 1)) 1 (nI 0)) 12 3 = nI m := by rw [rI_a (by omega), rI_a (by omega)]; exact nt
  simp (disch := first | with_reducible assumption | omega | exact Or.inl rfl | exact Or.inr rfl | exact bI_01 | exact c_cat | exact vt_ref | exact vt_null | rfl | with_reducible repeat (first | assumption | omega | apply S_I | apply S_L | apply S_D | apply ob_I | apply ob_L | apply ob_D | apply ob_R | apply ax_I | apply ax_L | apply ax_D | apply ax_R | apply o303 | apply o307 | apply o302 | apply o301 | apply ax304 | apply ax305 | apply ax306 | apply ax308 | apply ax309 | apply ax310 | apply lt_S | apply ar305 | apply ar308 | apply ar309)) only [g40_0, g40_1_30, g40_202, g40_203, g40_204, g40_205, g40_206, g40_207, g40_208, g40_209, g40_210, g40_211, g40_214, g40_302, g44_0, g44_1, g44_4, g44_6, g44_9, g44_10, g44_11, g44_14, g44_15, g44_16, g44_19, g44_20, g44_23, g44_24, g44_25, g44_26, g44_27, g44_28, g44_29, g44_32, g44_33, g44_35, g44_38, g44_39, g44_42, g44_43, g44_44, g44_47, g44_48, g44_48r, g44_48n, g44_51, g44_52, g44_53, g44_56, g44_57, g44_58, g44_59, g44_62, g38_0, g38_1, g38_2, g38_5, g38_6, g38_7, g38_10, g38_13, g38_14, g38_15, g38_18, g38_19, g38_20, g38_23, g38_24, g38_25, g38_28, Option.toList, List.nil_append, List.cons_append, va_rf, nI_ltI, nI_leI, nI_eq, nI_add, nI_sub, nI_lt0, nI_e0, nI_m1, m1_nI, Nat.reduceEqDiff, Nat.reduceLT, Nat.reduceLeDiff, Nat.reduceAdd, Nat.reduceSub, Nat.reduceMul, ↓reduceIte, eq_self, l6_i, nI_shr2, nI_and3, show (gf * 4 + w) / 4 = gf by omega, show (gf * 4 + w) % 4 = w by omega, d1, show ¬ 20 ≤ dp by omega, hd, show ¬ 8 ≤ gf by omega, er, nt', d1', reduceCtorEq]
theorem o_callN_ {w : Nat} (A : XS h ga o rr sa 20 ts σ) (hg : gf < 8) (hw : w < 4) : am_run (d + 2) 40 [some (.ref 9), some (.ref (278 + 20)), some (.int (nI 30)), some (.long (lN (gf * 4 + w))), none] ga none (am_setI ga 9 13 (nI 4)) := fun Q => by
  have S := A.2.1
  have d1 := A.2.2.2.1
  simp (disch := first | with_reducible assumption | omega | exact Or.inl rfl | exact Or.inr rfl | exact bI_01 | exact c_cat | exact vt_ref | exact vt_null | rfl | with_reducible repeat (first | assumption | omega | apply S_I | apply S_L | apply S_D | apply ob_I | apply ob_L | apply ob_D | apply ob_R | apply ax_I | apply ax_L | apply ax_D | apply ax_R | apply o303 | apply o307 | apply o302 | apply o301 | apply ax304 | apply ax305 | apply ax306 | apply ax308 | apply ax309 | apply ax310 | apply lt_S | apply ar305 | apply ar308 | apply ar309)) only [g40_0, g40_1_30, g40_202, g40_203, g40_204, g40_205, g40_206, g40_207, g40_208, g40_209, g40_210, g40_211, g40_214, g40_302, g44_0, g44_1, g44_4, g44_6, g44_9, g44_10, g44_11, g44_14, Option.toList, List.nil_append, List.cons_append, va_rf, nI_ltI, nI_leI, nI_eq, nI_add, nI_sub, nI_lt0, nI_e0, nI_m1, m1_nI, Nat.reduceEqDiff, Nat.reduceLT, Nat.reduceLeDiff, Nat.reduceAdd, Nat.reduceSub, Nat.reduceMul, ↓reduceIte, eq_self, l6_i, nI_shr2, nI_and3, show (gf * 4 + w) / 4 = gf by omega, show (gf * 4 + w) % 4 = w by omega, d1]
/-- a frame that has come to its end is left -/
theorem x_leave {bb : Nat} (A : XS h g o rr sa (dp + 1) ts σ) (ho : o < 278 ∨ 299 < o) (hd : dp < 21) (C : cdK g e' D') (F : FRx g (dp + 1) e' D'.length st.length) (er : am_I g (278 + (dp + 1)) 3 = nI 0) (Z : KZ g) (N : NS g (st ++ as' ++ [v])) (hl : st.length + as'.length < 1024) (hn : n < 1000000) : ∃ g', GR (d + 2) v1 v2 v3 g n g' (n + 1) ∧ XS h g' o rr sa dp ts σ ∧ KZ g' ∧ NS g' (st ++ [v]) ∧ FA g g' := by
  have S := A.2.1
  have d1 := A.2.2.2.1
  have a7 := A.2.2.2.2.2.2.1
  obtain ⟨c1, c2, t0, t2, t3, r0, r1, i5, vv, b1⟩ := C
  obtain ⟨f1, f2, f3⟩ := F
  obtain ⟨g1, rd, N1, F1⟩ := x_dropUnder (d := d) S N hl
  have A1 := XS_num A F1
  have S1 := A1.2.1
  have Z1 := KZ_fr F1 (by decide) Z
  have O := o278 S (show dp + 1 < 22 by omega)
  have O1 := o278 S1 (show dp + 1 < 22 by omega)
  have Oe : am_ob g e' 1 := ⟨by omega, by rw [t0]⟩
  have d2 := A1.2.2.2.1
  have er1 : am_I g1 (278 + (dp + 1)) 3 = nI 0 := (fr_rdI F1 (by omega)).trans er
  obtain ⟨R, T, _⟩ := XS_iff.mp A1
  have A2 : XS h (am_setI g1 9 10 (nI dp)) o rr sa dp ts σ := XS_iff.mpr ⟨XR_I R (Or.inl ⟨rfl, Or.inr (Or.inl rfl)⟩) ho, TS_keep T (rI_k (by decide)) (fun i => rI_a (by decide)) (fun i => rI_a (by decide)) (fun i => rI_a (by decide)), rI_eq⟩
  have S2 := A2.2.1
  have Z2 : KZ (am_setI g1 9 10 (nI dp)) := ⟨by rw [rI_k (by decide)]; exact Z1.1, Z1.2⟩
  have z2 := Z2.1
  refine ⟨am_setI g1 9 10 (nI dp), fun v5 v6 => ⟨some (.ref (278 + (dp + 1))), v6, fun Q => ?_⟩, A2, Z2, NS_9 N1, FA_trans (FA_fr F1 (fun a q => by omega)) (FA_I (by omega))⟩
  have er2 : am_I (am_setI g1 9 10 (nI dp)) (278 + (dp + 1)) 3 = nI 0 := by rw [rI_a (by omega)]; exact er1
  have O2 := o278 S2 (show dp + 1 < 22 by omega)
  have p0 : (nI 0 ≤ (0 : Int32)) = True := eq_true (by decide)
  rw [← x_nextTurn S2 z2, g32_9]
  simp (disch := first | with_reducible assumption | omega | exact Or.inl rfl | exact Or.inr rfl | exact bI_01 | exact c_cat | exact vt_ref | exact vt_null | rfl | with_reducible repeat (first | assumption | omega | apply S_I | apply S_L | apply S_D | apply ob_I | apply ob_L | apply ob_D | apply ob_R | apply ax_I | apply ax_L | apply ax_D | apply ax_R | apply o303 | apply o307 | apply o302 | apply o301 | apply ax304 | apply ax305 | apply ax306 | apply ax308 | apply ax309 | apply ax310 | apply lt_S | apply ar305 | apply ar308 | apply ar309)) only [g32_11, g32_13, g32_16, g32_17, g32_20, g32_23, g32_24, g32_27, g32_28, g32_31, g32_32, g32_34, g32_36, g32_39, g32_39r, g32_39n, g32_42, g32_44, g32_47, g32_50, g32_52, g32_55, g32_57, g32_60, g32_63, g32_66, g32_67, g32_69, g32_72, g34_0, g34_1, g34_4, g34_5, g34_8, g34_9, g34_10, g34_13, g34_14, g34_15, g34_18, g34_19, g34_22, g34_25, g34_26, g34_27, g34_30, g34_31, g34_32, g34_35, g34_36, g34_39, g34_42, g34_43, g34_44, g34_47, Option.toList, List.nil_append, List.cons_append, va_rf, nI_ltI, nI_leI, nI_eq, nI_add, nI_sub, nI_lt0, nI_e0, nI_m1, m1_nI, Nat.reduceEqDiff, Nat.reduceLT, Nat.reduceLeDiff, Nat.reduceAdd, Nat.reduceSub, Nat.reduceMul, ↓reduceIte, eq_self, show ¬ 1000000 ≤ n by omega, a7, d1, f1, f2, i5, Nat.lt_irrefl, show ¬ dp + 1 < 1 by omega, show 1 ≤ dp + 1 by omega, f3, rd _, d2, Nat.add_sub_cancel, er2, p0, reduceCtorEq]
end XCA

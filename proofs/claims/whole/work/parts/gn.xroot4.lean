/-! THE CLASS: root, the node -/
section XRQ
variable {h g g' ga gm g2 g3 : am_H} {o sa dp d e e' b f s sh nn tm tmf p n T p2 gf r0 t : Nat} {rr : Option Nat} {v1 v2 v3 : Option Value} {tt : Nat → ntT} {rt : Nat → Nat} {cv : Nat → Option (Option VL)} {cs : Nat → Nat → VL} {as as' : List VL} {st : List VL} {ts : List (Nat × Nat × Nat)} {σ : SR} {u v : VL} {x l hh : UInt64} {D' DD : List (Int32 × Int64)} {bl : Bool}
/-- the heap from which a root first asks -/
abbrev roH (g : am_H) (j e m : Nat) (lo hi : UInt64) : am_H := am_setI (am_setD (am_setI (am_setD (am_setI (am_setR g (278 + j) 0 (some e)) 12 3 (nI (m + 1))) (278 + j) 5 hi) 12 3 (nI m)) (278 + j) 4 lo) (278 + j) 3 (nI 0)
theorem o_root_ (A : XS h ga o rr sa dp ts σ) (hd : dp ≤ 20) (hg : gf < 8) (er : am_R ga 11 gf = some e') (N : NS ga (st ++ [u] ++ [v])) (hl : st.length + 1 < 1024) : ∀ g', (∀ dd, am_run (dd + 1) 36 [some (.ref 9), some (.ref (278 + (dp + 1))), some (.double (vD u)), none] (roH ga (dp + 1) e' st.length (vD u) (vD v)) none g') → am_run (d + 4) 40 [some (.ref 9), some (.ref (278 + dp)), some (.int (nI 27)), some (.long (lN gf)), none] ga none g' := fun g' R Q => by
  have S := A.2.1
  have d1 := A.2.2.2.1
  have h4 : 4 ≤ 278 + (dp + 1) := by omega
  have O := o278 S (show dp + 1 < 22 by omega)
  have S1 : am_S (am_setR ga (278 + (dp + 1)) 0 (some e')) := S_Rg S (Or.inl ⟨by omega, by omega⟩)
  have O1 := o278 S1 (show dp + 1 < 22 by omega)
  have N1 : NS (am_setR ga (278 + (dp + 1)) 0 (some e')) (st ++ [u] ++ [v]) := ⟨N.1, fun i w hw => xn_keep rfl rfl rfl (N.2 i w hw)⟩
  obtain ⟨r1, N2, F2⟩ := x_popD (d := d + 1) S1 N1 (by rw [List.length_append]; exact hl)
  have el : (st ++ [u]).length = st.length + 1 := by rw [List.length_append]; rfl
  rw [el] at r1 N2 F2
  have N3 : NS (am_setD (am_setI (am_setR ga (278 + (dp + 1)) 0 (some e')) 12 3 (nI (st.length + 1))) (278 + (dp + 1)) 5 (vD v)) (st ++ [u]) := NS_fr (P := fun a => a = 278 + (dp + 1)) (fr_D fr_refl rfl) (by omega) (by omega) (by omega) (by omega) N2
  have S3 : am_S (am_setD (am_setI (am_setR ga (278 + (dp + 1)) 0 (some e')) 12 3 (nI (st.length + 1))) (278 + (dp + 1)) 5 (vD v)) := S1
  obtain ⟨r2, N4, F4⟩ := x_popD (d := d + 1) S3 N3 (by omega)
  have R := R (d + 1)
  have elo : am_D (roH ga (dp + 1) e' st.length (vD u) (vD v)) (278 + (dp + 1)) 4 = vD u := rD_eq
  simp (disch := first | with_reducible assumption | omega | exact Or.inl rfl | exact Or.inr rfl | exact bI_01 | exact c_cat | exact vt_ref | exact vt_null | rfl | with_reducible repeat (first | assumption | omega | apply S_I | apply S_L | apply S_D | apply ob_I | apply ob_L | apply ob_D | apply ob_R | apply ax_I | apply ax_L | apply ax_D | apply ax_R | apply o303 | apply o307 | apply o302 | apply o301 | apply ax304 | apply ax305 | apply ax306 | apply ax308 | apply ax309 | apply ax310 | apply lt_S | apply ar305 | apply ar308 | apply ar309)) only [g40_0, g40_1_27, g40_217, g40_218, g40_219, g40_220, g40_223, g40_302, g45_0, g45_1, g45_4, g45_5, g45_8, g45_9, g45_10, g45_11, g45_12, g45_13, g45_14, g45_17, g45_18, g45_20, g45_23, g45_24, g45_27, g45_28, g45_29, g45_32, g45_33, g45_33r, g45_33n, g45_36, g45_37, g45_38, g45_41, g45_44, g45_47, g45_48, g45_49, g45_52, g45_55, g45_58, g45_59, g45_60, g45_63, g45_64, g45_65, g45_66, g45_69, g45_72, Option.toList, List.nil_append, List.cons_append, va_rf, nI_ltI, nI_leI, nI_eq, nI_add, nI_sub, nI_lt0, nI_e0, nI_m1, m1_nI, Nat.reduceEqDiff, Nat.reduceLT, Nat.reduceLeDiff, Nat.reduceAdd, Nat.reduceSub, Nat.reduceMul, ↓reduceIte, eq_self, lN_i8, d1, show ¬ 8 ≤ gf by omega, er, r1 _, r2 _, elo, R _, reduceCtorEq]
theorem XS_ro {m : Nat} {lo hi : UInt64} (A : XS h g o rr sa dp ts σ) (ho : o < 278 ∨ 299 < o) (hd : dp < 21) : XS h (roH g (dp + 1) e' m lo hi) o rr sa dp ts σ := by
  obtain ⟨R, T, e⟩ := XS_iff.mp A
  refine XS_iff.mpr ⟨XR_I (XR_fD (XR_I (XR_fD (XR_I (XR_F R ho (by omega)) (Or.inr (Or.inr (Or.inl ⟨by decide, by decide⟩))) ho) (by omega)) (Or.inr (Or.inr (Or.inl ⟨by decide, by decide⟩))) ho) (by omega)) (Or.inr (Or.inr (Or.inr ⟨by omega, by omega⟩))) ho, TS_keep T ?_ (fun i => ?_) (fun i => ?_) (fun i => ?_), ?_⟩
  · rw [rI_a (by omega), hI_D, rI_a (by omega), hI_D, rI_a (by omega)]; rfl
  · rw [rI_a (by omega), hI_D, rI_a (by omega), hI_D, rI_a (by omega)]; rfl
  · rw [rI_a (by omega), hI_D, rI_a (by omega), hI_D, rI_a (by omega)]; rfl
  · rw [rI_a (by omega), hI_D, rI_a (by omega), hI_D, rI_a (by omega)]; rfl
  · rw [rI_a (by omega), hI_D, rI_a (by omega), hI_D, rI_a (by omega)]; exact e
theorem ro_I {a k j m : Nat} {lo hi : UInt64} (h1 : a ≠ 12) (h2 : a ≠ 278 + j) : am_I (roH g j e' m lo hi) a k = am_I g a k := by
  rw [rI_a h2, hI_D, rI_a h1, hI_D, rI_a h1]; rfl
theorem ro_R {a k j m : Nat} {lo hi : UInt64} (h2 : a ≠ 278 + j) : am_R (roH g j e' m lo hi) a k = am_R g a k := by
  show am_R (am_setR g (278 + j) 0 (some e')) a k = _
  rw [hR_R, if_neg h2]
theorem ro_D {a k j m : Nat} {lo hi : UInt64} (h2 : a ≠ 278 + j) : am_D (roH g j e' m lo hi) a k = am_D g a k := by
  rw [hD_I, hD_D, if_neg h2, hD_I, hD_D, if_neg h2]; rfl
theorem KZ_ro {j m : Nat} {lo hi : UInt64} (Z : KZ g) (hj : j < 22) : KZ (roH g j e' m lo hi) := ⟨(ro_I (by omega) (by omega)).trans Z.1, (ro_R (by omega)).trans Z.2⟩
theorem NS_ro {j : Nat} {lo hi : UInt64} {w : List VL} (N : NS g (st ++ w)) (hj : j < 22) : NS (roH g j e' st.length lo hi) st := ⟨by rw [rI_a (by omega), hI_D, rI_eq], fun i v hv => xn_keep (g := g) (ro_I (by omega) (by omega)) rfl (ro_D (by omega)) (st_app N.2 i v hv)⟩
theorem FK_ro {m : Nat} {lo hi : UInt64} (hd : dp < 21) : FK g (roH g (dp + 1) e' m lo hi) dp := ⟨fun j hj k => ⟨ro_I (by omega) (by omega), ro_D (by omega), ro_R (by omega)⟩, fun k => ⟨fun _ => ro_I (by omega) (by omega), ro_D (by omega), ro_R (by omega)⟩⟩
theorem c_rootX (h4 : 402 ≤ h.1) (ho : o < 278 ∨ 299 < o) (ho2 : o < 402) (hd : dp ≤ 20) (hg : gf < 8) (hre : ∀ a, rr = some a → a < e ∨ e + 7 ≤ a) (hre' : ∀ a, rr = some a → a < e' ∨ e' + 7 ≤ a) (C : cdK h e DD) (C' : cdK h e' D') (er : am_R h 11 gf = some e') (hx : DD[p]? = some (nI 27, lN gf)) (A : XS h g o rr sa dp ts σ) (Z : KZ g) (N : NS g (st ++ [u] ++ [v])) (ku : okV u) (kv : okV v) (FR : FRx g dp e p b) (hf : σ.1 < f + 1) (hl : st.length + 2 + σ.1 ≤ 1000) (ht : ts.length ≤ tmf) (hT : n + 6 * σ.1 ≤ T) (hT2 : T < 900000)
    (WF : dp < 20 → ∀ x, CWk h o rr sa (d + 5) v1 v2 v3 f (ev tt rt cv cs f (48 + gf) [.inr x] 0 (dp + 1) (rt (48 + gf))) (dp + 1) e' st.length [.inr x] D' tmf) : CP h o rr sa (d + 5) v1 v2 v3 T g dp ts st (p + 1) n (evRoot (apX tt rt cv cs f dp gf) (vD u) (vD v) σ) := by
  rw [evRoot_eq]
  have Cg := cd_kp A.1 ho2 hre C
  have Aa := XS_at (p := p) A (show dp < 22 by omega) ho
  have Na := NS_at (p := p) N (show dp < 22 by omega)
  have Za := KZ_at (p := p) Z (show dp < 22 by omega)
  obtain ⟨o22', hr4⟩ := XS_hr A
  have er1 : am_R (am_setI g (278 + dp) 1 (nI (p + 1))) 11 gf = some e' := (R11_kp A.1 h4 o22' hr4).trans er
  have orun := fun g' => o_root_ (d := d) (g' := g') Aa hd hg er1 Na (by omega)
  have A1 := XS_ro (e' := e') (m := st.length) (lo := vD u) (hi := vD v) Aa ho (by omega)
  have Z1 := KZ_ro (e' := e') (j := dp + 1) (m := st.length) (lo := vD u) (hi := vD v) Za (by omega)
  have N1 := NS_ro (e' := e') (j := dp + 1) (lo := vD u) (hi := vD v) (w := [u] ++ [v]) (by rw [← List.append_assoc]; exact Na) (by omega)
  have F1 : FK g (roH (am_setI g (278 + dp) 1 (nI (p + 1))) (dp + 1) e' st.length (vD u) (vD v)) dp := FK_trans FK_at (FK_ro (by omega))
  have c1 : am_R (roH (am_setI g (278 + dp) 1 (nI (p + 1))) (dp + 1) e' st.length (vD u) (vD v)) (278 + (dp + 1)) 0 = some e' := by
    show am_R (am_setR (am_setI g (278 + dp) 1 (nI (p + 1))) (278 + (dp + 1)) 0 (some e')) (278 + (dp + 1)) 0 = _
    rw [hR_R, if_pos rfl, if_pos rfl]
  have l1 : am_D (roH (am_setI g (278 + dp) 1 (nI (p + 1))) (dp + 1) e' st.length (vD u) (vD v)) (278 + (dp + 1)) 4 = vD u := rD_eq
  have h1 : am_D (roH (am_setI g (278 + dp) 1 (nI (p + 1))) (dp + 1) e' st.length (vD u) (vD v)) (278 + (dp + 1)) 5 = vD v := by rw [hD_I, rD_k (by decide), hD_I, rD_eq]
  have p1 : am_I (roH (am_setI g (278 + dp) 1 (nI (p + 1))) (dp + 1) e' st.length (vD u) (vD v)) (278 + dp) 1 = nI (p + 1) := by rw [ro_I (by omega) (by omega)]; exact rI_eq
  have t1 : am_I (roH (am_setI g (278 + dp) 1 (nI (p + 1))) (dp + 1) e' st.length (vD u) (vD v)) (278 + (dp + 1)) 3 = nI 0 := rI_eq
  generalize roH (am_setI g (278 + dp) 1 (nI (p + 1))) (dp + 1) e' st.length (vD u) (vD v) = gm at A1 Z1 N1 F1 c1 l1 h1 p1 t1 orun
  refine c_ask (d := d + 2) (gm := gm) (t := 0) h4 ho ho2 hd hre' C' A1 Z1 N1 (ok_vD ku) c1 t1 (by decide) F1 p1 hf (by omega) ht hT hT2 (fun g' R36 S' z' => x_good A (by omega) Cg FR hx (by omega) (orun g' R36) S' z') (fun g' R36 S' => x_bad A (by omega) Cg FR hx (by omega) (orun g' R36)) (fun hc => WF hc (vD u)) (fun hc r σ1 g2 n2 a1 a2 a3 a4 a5 a6 a7 a8 a9 a10 a11 => ?_)
  have C2 := cd_kp a1.1 ho2 hre' C'
  obtain ⟨g3, L3, A3, Z3, N3, FA3⟩ := x_leaveR (d := d + 2) (v1 := v1) (v2 := v2) (v3 := v3) (n := n2) a1 ho (by omega) C2 a5 a6 (by omega) (by omega) a2 a3 (by show st.length + 1 < 1024; omega) (by omega)
  have fI := fun k => (FA3 (278 + (dp + 1)) (by omega) (by omega) k).1
  have fD := fun k => (FA3 (278 + (dp + 1)) (by omega) (by omega) k).2.1
  have fR := fun k => (FA3 (278 + (dp + 1)) (by omega) (by omega) k).2.2
  have t3 : am_I g3 (278 + (dp + 1)) 3 = nI 1 := (fI 3).trans a6
  have l3 : am_D g3 (278 + (dp + 1)) 4 = vD u := (fD 4).trans ((a8 4).trans l1)
  have h3 : am_D g3 (278 + (dp + 1)) 5 = vD v := (fD 5).trans ((a8 5).trans h1)
  have c3 : am_R g3 (278 + (dp + 1)) 0 = some e' := (fR 0).trans a5.1
  have p3 : am_I g3 (278 + dp) 1 = nI (p + 1) := (FA3 (278 + dp) (by omega) (by omega) 1).1.trans a9
  have G1 := x_goOn1 A3.2.1 hc N3 a4 (by omega) t3 h3
  obtain ⟨-, N4, F4⟩ := x_popD (d := 0) A3.2.1 N3 (by omega)
  have A4 := XS_num A3 F4
  have A5 : XS h (am_setI (am_setI g3 12 3 (nI st.length)) (278 + (dp + 1)) 7 (bI (lt0 r))) o rr sa dp ts σ1 := XS_I A4 (Or.inr ⟨by omega, by omega⟩) ho
  have Z5 : KZ (am_setI (am_setI g3 12 3 (nI st.length)) (278 + (dp + 1)) 7 (bI (lt0 r))) := KZ_fr (P := fun a => a = 278 + (dp + 1)) (fr_I fr_refl rfl) (by omega) (KZ_fr F4 (by decide) Z3)
  have N5 : NS (am_setI (am_setI g3 12 3 (nI st.length)) (278 + (dp + 1)) 7 (bI (lt0 r))) st := NS_fr (P := fun a => a = 278 + (dp + 1)) (fr_I fr_refl rfl) (by omega) (by omega) (by omega) (by omega) N4
  have F5 : FK g2 (am_setI (am_setI g3 12 3 (nI st.length)) (278 + (dp + 1)) 7 (bI (lt0 r))) dp := FK_trans (FK_trans (FA_K FA3 (by omega)) (FA_K (FA_I (by omega)) (by omega))) ⟨fun j hj k => ⟨rI_a (by omega), rfl, rfl⟩, fun k => ⟨fun _ => rI_a (by omega), rfl, rfl⟩⟩
  have p5 : am_I (am_setI (am_setI g3 12 3 (nI st.length)) (278 + (dp + 1)) 7 (bI (lt0 r))) (278 + dp) 1 = nI (p + 1) := by rw [rI_a (by omega), rI_a (by omega)]; exact p3
  have t5 : am_I (am_setI (am_setI g3 12 3 (nI st.length)) (278 + (dp + 1)) 7 (bI (lt0 r))) (278 + (dp + 1)) 3 = nI 1 := by rw [rI_k (by decide), rI_a (by omega)]; exact t3
  have b5 : am_I (am_setI (am_setI g3 12 3 (nI st.length)) (278 + (dp + 1)) 7 (bI (lt0 r))) (278 + (dp + 1)) 7 = bI (lt0 r) := rI_eq
  have l5 : am_D (am_setI (am_setI g3 12 3 (nI st.length)) (278 + (dp + 1)) 7 (bI (lt0 r))) (278 + (dp + 1)) 4 = vD u := l3
  have h5 : am_D (am_setI (am_setI g3 12 3 (nI st.length)) (278 + (dp + 1)) 7 (bI (lt0 r))) (278 + (dp + 1)) 5 = vD v := h3
  have c5 : am_R (am_setI (am_setI g3 12 3 (nI st.length)) (278 + (dp + 1)) 7 (bI (lt0 r))) (278 + (dp + 1)) 0 = some e' := c3
  generalize am_setI (am_setI g3 12 3 (nI st.length)) (278 + (dp + 1)) 7 (bI (lt0 r)) = g5 at A5 Z5 N5 F5 p5 t5 b5 l5 h5 c5 G1
  refine c_ask (d := d + 2) (gm := g5) (t := 1) h4 ho ho2 hd hre' C' A5 Z5 N5 (ok_vD kv) c5 t5 (by decide) F5 p5 (by omega) (by omega) ht (by omega) hT2 (fun g' R36 S' z' => (L3 g' (G1 g' R36 d) S').1 z') (fun g' R36 S' => (L3 g' (G1 g' R36 d) S').2) (fun hc => WF hc (vD v)) (fun hc t' σ2 g6 n6 a1' a2' a3' a4' a5' a6' a7' a8' a9' a10' a11' => ?_)
  have C6 := cd_kp a1'.1 ho2 hre' C'
  obtain ⟨g7, L7, A7, Z7, N7, FA7⟩ := x_leaveR (d := d + 2) (v1 := v1) (v2 := v2) (v3 := v3) (n := n6) a1' ho (by omega) C6 a5' a6' (by omega) (by omega) a2' a3' (by show st.length + 1 < 1024; omega) (by omega)
  have fI := fun k => (FA7 (278 + (dp + 1)) (by omega) (by omega) k).1
  have fD := fun k => (FA7 (278 + (dp + 1)) (by omega) (by omega) k).2.1
  have fR := fun k => (FA7 (278 + (dp + 1)) (by omega) (by omega) k).2.2
  have t7 : am_I g7 (278 + (dp + 1)) 3 = nI 2 := (fI 3).trans a6'
  have b7 : am_I g7 (278 + (dp + 1)) 7 = bI (lt0 r) := (fI 7).trans (a7'.trans b5)
  have l7 : am_D g7 (278 + (dp + 1)) 4 = vD u := (fD 4).trans ((a8' 4).trans l5)
  have h7 : am_D g7 (278 + (dp + 1)) 5 = vD v := (fD 5).trans ((a8' 5).trans h5)
  have c7 : am_R g7 (278 + (dp + 1)) 0 = some e' := (fR 0).trans a5'.1
  have p7 : am_I g7 (278 + dp) 1 = nI (p + 1) := (FA7 (278 + dp) (by omega) (by omega) 1).1.trans a9'
  obtain ⟨-, N8, F8⟩ := x_popD (d := 0) A7.2.1 N7 (by omega)
  have A8 := XS_num A7 F8
  have Z8 := KZ_fr F8 (by decide) Z7
  have FK8 : FK g6 (am_setI g7 12 3 (nI st.length)) dp := FK_trans (FA_K FA7 (by omega)) (FA_K (FA_I (by omega)) (by omega))
  have p8 : am_I (am_setI g7 12 3 (nI st.length)) (278 + dp) 1 = nI (p + 1) := by rw [rI_a (by omega)]; exact p7
  obtain ⟨Y1, Y2⟩ := x_goOn2 (bl := lt0 r) A7.2.1 hc N7 a4' (by omega) t7 b7
  by_cases cc : lt0 t' = lt0 r
  · rw [if_pos cc]
    have Y1 := Y1 cc d
    have O9 := OPx_F (k := 6) A8 ho Z8 N8.2 (by decide) (by decide)
    exact CP_O O9 (fun z => (L7 _ Y1 O9.1.2.1).1 z) (L7 _ Y1 O9.1.2.1).2 (FK_trans FK8 (FA_K (FA_I (by omega)) (by omega))) (by rw [rI_a (by omega)]; exact p8) (by show n6 + 1 + 6 * σ2.1 ≤ T; omega)
  · rw [if_neg cc]
    have Y2 := Y2 cc
    refine c_halve (d := d) h4 ho ho2 hc hre' C' ht hT2 (fun x => WF hc x) 60 2 (vD u) (vD v) σ2 g6 (am_setI g7 12 3 (nI st.length)) n6 (by decide) (by decide) A8 Z8 N8 ⟨c7, by rw [rI_a (by omega)]; exact t7, l7, h7, by rw [rI_a (by omega)]; exact b7⟩ (ok_vD ku) (ok_vD kv) FK8 p8 (by omega) (by omega) (by omega) (fun g' R39 S' z' => ?_) (fun g' R39 S' => ?_)
    · exact (L7 g' (Y2 g' R39 d) S').1 z'
    · exact (L7 g' (Y2 g' R39 d) S').2
theorem c_root {i j : Nat} {D1 D2 : List (Int32 × Int64)} (h4 : 402 ≤ h.1) (ho : o < 278 ∨ 299 < o) (ho2 : o < 402) (hd : dp ≤ 20) (hg : gf < 8) (hre : ∀ a, rr = some a → a < e ∨ e + 7 ≤ a) (hre' : ∀ a, rr = some a → a < e' ∨ e' + 7 ≤ a) (hi : i < 48) (hj : j < 48) (C' : cdK h e' D') (er : am_R h 11 gf = some e') (htm : tm ≤ tmf) (ht : tt s nn = (nI 9, nI i, nI j, -1, lN gf)) (W : CWk h o rr sa (d + 5) v1 v2 v3 f (ev tt rt cv cs f s as sh dp i) dp e b as D1 tm) (W2 : CWk h o rr sa (d + 5) v1 v2 v3 f (ev tt rt cv cs f s as sh dp j) dp e b as D2 tm) (L1 : ∀ σ v σ', ev tt rt cv cs f s as sh dp i σ = (.inl v, σ') → σ'.1 < σ.1) (L2 : ∀ σ v σ', ev tt rt cv cs f s as sh dp j σ = (.inl v, σ') → σ'.1 < σ.1)
    (WF : ∀ as' bb, as'.length = 1 → dp < 20 → CWk h o rr sa (d + 5) v1 v2 v3 f (ev tt rt cv cs f (48 + gf) as' 0 (dp + 1) (rt (48 + gf))) (dp + 1) e' bb as' D' tmf) : CWk h o rr sa (d + 5) v1 v2 v3 (f + 1) (ev tt rt cv cs (f + 1) s as sh dp nn) dp e b as (ST :: D1 ++ D2 ++ [(nI 27, lN gf)]) tm := by
  intro DD p g σ ts st n T C hD hf A Z N FR V hl ht2 hT hT2
  rw [show p + (ST :: D1 ++ D2 ++ [(nI 27, lN gf)]).length = p + 1 + D1.length + D2.length + 1 by simp only [List.length_append, List.length_cons, List.length_nil]; omega]
  show CP h o rr sa (d + 5) v1 v2 v3 T g dp ts st (p + 1 + D1.length + D2.length + 1) n (if σ.1 = 0 then (oF 8, σ) else evX tt rt cv cs f s as sh dp nn (σ.1 - 1, σ.2))
  have Cg := cd_kp A.1 ho2 hre C
  refine c_step (d := d + 3) A ho (by omega) Cg FR (hD 0 _ rfl) Z N hT hT2 (fun s0 g1 A1 Z1 N1 FK1 at1 hT1 => ?_)
  have ex : evX tt rt cv cs f s as sh dp nn (σ.1 - 1, σ.2) = andThen (ev tt rt cv cs f s as sh dp i (σ.1 - 1, σ.2)) (fun u σ => andThen (ev tt rt cv cs f s as sh dp j σ) (fun v σ => evRoot (apX tt rt cv cs f dp gf) (vD u) (vD v) σ)) := by
    unfold evX evN
    simp (disch := omega) only [ht, nI_eq, Nat.reduceEqDiff, ↓reduceIte, xN_n, lN_i8]
    rfl
  rw [ex]
  have hDa : ∀ i x, (D1 ++ (D2 ++ [(nI 27, lN gf)]))[i]? = some x → DD[p + 1 + i]? = some x := fun i x hx => by
    have := hD (i + 1) x (by rw [List.append_assoc, List.cons_append, List.getElem?_cons_succ]; exact hx)
    rwa [show p + (i + 1) = p + 1 + i by omega] at this
  have hD1 : ∀ i x, D1[i]? = some x → DD[p + 1 + i]? = some x := fun i x hx => hDa i x (by
    have c := (List.getElem?_eq_some_iff.mp hx).1
    rw [List.getElem?_append_left c]; exact hx)
  have hDb : ∀ i x, (D2 ++ [(nI 27, lN gf)])[i]? = some x → DD[p + 1 + D1.length + i]? = some x := fun i x hx => by
    have := hDa (D1.length + i) x (by rw [List.getElem?_append_right (by omega), show D1.length + i - D1.length = i by omega]; exact hx)
    rwa [← Nat.add_assoc] at this
  have hD2 : ∀ i x, D2[i]? = some x → DD[p + 1 + D1.length + i]? = some x := fun i x hx => hDb i x (by
    have c := (List.getElem?_eq_some_iff.mp hx).1
    rw [List.getElem?_append_left c]; exact hx)
  have hop : DD[p + 1 + D1.length + D2.length]? = some (nI 27, lN gf) := hDb D2.length _ (by rw [List.getElem?_append_right (Nat.le_refl _), Nat.sub_self]; rfl)
  refine c_sub (u := []) (T1 := T - 3) W C hD1 (by show σ.1 - 1 < f; omega) A1 Z1 (by rw [List.append_nil]; exact N1) (FK_F FK1 at1 FR) V (by show st.length + 0 + (σ.1 - 1) ≤ 1000; omega) ht2 (by show n + 1 + 6 * (σ.1 - 1) ≤ T - 3; omega) (by omega) hT2 (fun u σ' g2 n2 hF w2 w3 w4 w5 w6 w7 w8 => ?_)
  rw [List.append_nil] at w4
  have la : σ'.1 < σ.1 - 1 := L1 _ _ _ hF
  refine c_sub (u := [u]) (T1 := T - 3) W2 C hD2 (by omega) w2 w3 w4 (FK_F (FK_trans FK1 w6) w7 FR) V (by show st.length + 1 + σ'.1 ≤ 1000; omega) ht2 (by omega) (by omega) hT2 (fun v σ2 g3 n3 hF2 x2 x3 x4 x5 x6 x7 x8 => ?_)
  have lb : σ2.1 < σ'.1 := L2 _ _ _ hF2
  exact c_rootX (d := d) h4 ho ho2 hd hg hre hre' C C' er hop x2 x3 x4 w5 x5 (FK_F (FK_trans (FK_trans FK1 w6) x6) x7 FR) (by omega) (by omega) (by omega) (by omega) hT2 (fun hc x => WF [.inr x] st.length rfl hc)
end XRQ

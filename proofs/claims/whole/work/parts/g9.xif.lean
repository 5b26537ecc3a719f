/-! THE CLASS: if, try -/
section XIF
variable {h g g' ga : am_H} {o sa dp dp' d e b f s sh nn tm p q n T T1 p2 : Nat} {rr : Option Nat} {v1 v2 v3 : Option Value} {tt : Nat → ntT} {rt : Nat → Nat} {cv : Nat → Option (Option VL)} {cs : Nat → Nat → VL} {as : List VL} {st : List VL} {ts ts' : List (Nat × Nat × Nat)} {σ : SR} {u v : VL} {x : Int32}
theorem NS_ax (N : NS g st) (hd : dp < 22) : NS (am_setI g (278 + dp) 1 x) st := NS_fr (P := fun a => a = 278 + dp) (fr_I fr_refl rfl) (by omega) (by omega) (by omega) (by omega) N
theorem KZ_ax (Z : KZ g) (hd : dp < 22) : KZ (am_setI g (278 + dp) 1 x) := KZ_fr (P := fun a => a = 278 + dp) (fr_I fr_refl rfl) (by omega) Z
/-- a zero on top, and on by k, or not -/
theorem o_jz_ {k : Nat} (S : am_S ga) (hd : dp < 22) (ea : am_I ga (278 + dp) 1 = nI p) (hp : p < 1000) (hk : k < 256) (N : NS ga (st ++ [v])) (hl : st.length < 1024) : am_run (d + 2) 40 [some (.ref 9), some (.ref (278 + dp)), some (.int (nI 16)), some (.long (lN k)), none] ga none (if nz v = true then am_setI ga 12 3 (nI st.length) else am_setI (am_setI ga 12 3 (nI st.length)) (278 + dp) 1 (nI (p + k))) := fun Q => by
  obtain ⟨r1, N1, F1⟩ := x_popZero (d := d) S N hl
  have S1 := fr_S F1 S
  have O := o278 S hd
  have O1 := o278 S1 hd
  have h4 : 4 ≤ 278 + dp := by omega
  have n12 : ¬ 278 + dp = 12 := by omega
  cases hz : nz v with
  | true =>
    rw [hz, Bool.not_true, bI_f] at r1
    simp (disch := first | with_reducible assumption | omega | exact Or.inl rfl | exact Or.inr rfl | exact bI_01 | exact c_cat | exact vt_ref | exact vt_null | rfl | with_reducible repeat (first | assumption | omega | apply S_I | apply S_L | apply S_D | apply ob_I | apply ob_L | apply ob_D | apply ob_R | apply ax_I | apply ax_L | apply ax_D | apply ax_R | apply o303 | apply o307 | apply o302 | apply o301 | apply ax304 | apply ax305 | apply ax306 | apply ax308 | apply ax309 | apply ax310 | apply lt_S | apply ar305 | apply ar308 | apply ar309)) only [g40_0, g40_1_16, g40_226, g40_227, g40_228, g40_229, g40_230, g40_231, g40_234, g40_302, g46_0, g46_1, g46_3, g46_6, g46_7, g46_10, g46_13, g46_16, g46_17, g46_20, g46_21, g46_24, g46_25, g46_28, g46_29, g46_30, g46_31, g46_32, g46_35, g46_36, g46_39, g46_40, g46_43, g46_46, g46_47, g46_48, g46_51, g46_52, g46_55, g46_56, g46_59, g46_60, g46_61, g46_62, g46_65, g46_66, g46_67, g46_70, g46_71, g46_72, g46_74, g46_77, g46_78, g46_81, g46_84, g46_85, g46_86, g46_89, g46_90, g46_91, g46_94, g46_95, g46_97, g46_100, g46_101, g46_104, g46_107, g46_110, g46_111, g46_112, g46_115, g46_116, g46_117, g46_120, Option.toList, List.nil_append, List.cons_append, va_rf, nI_ltI, nI_leI, nI_eq, nI_add, nI_sub, nI_lt0, nI_e0, nI_m1, m1_nI, Nat.reduceEqDiff, Nat.reduceLT, Nat.reduceLeDiff, Nat.reduceAdd, Nat.reduceSub, Nat.reduceMul, ↓reduceIte, eq_self, lN_i8, r1 _]
  | false =>
    rw [hz, Bool.not_false, bI_t] at r1
    have ea' : am_I (am_setI ga 12 3 (nI st.length)) (278 + dp) 1 = nI p := by rw [rI_a (by omega)]; exact ea
    simp (disch := first | with_reducible assumption | omega | exact Or.inl rfl | exact Or.inr rfl | exact bI_01 | exact c_cat | exact vt_ref | exact vt_null | rfl | with_reducible repeat (first | assumption | omega | apply S_I | apply S_L | apply S_D | apply ob_I | apply ob_L | apply ob_D | apply ob_R | apply ax_I | apply ax_L | apply ax_D | apply ax_R | apply o303 | apply o307 | apply o302 | apply o301 | apply ax304 | apply ax305 | apply ax306 | apply ax308 | apply ax309 | apply ax310 | apply lt_S | apply ar305 | apply ar308 | apply ar309)) only [g40_0, g40_1_16, g40_226, g40_227, g40_228, g40_229, g40_230, g40_231, g40_234, g40_302, g46_0, g46_1, g46_3, g46_6, g46_7, g46_10, g46_13, g46_16, g46_17, g46_20, g46_21, g46_24, g46_25, g46_28, g46_29, g46_30, g46_31, g46_32, g46_35, g46_36, g46_39, g46_40, g46_43, g46_46, g46_47, g46_48, g46_51, g46_52, g46_55, g46_56, g46_59, g46_60, g46_61, g46_62, g46_65, g46_66, g46_67, g46_70, g46_71, g46_72, g46_74, g46_77, g46_78, g46_81, g46_84, g46_85, g46_86, g46_89, g46_90, g46_91, g46_94, g46_95, g46_97, g46_100, g46_101, g46_104, g46_107, g46_110, g46_111, g46_112, g46_115, g46_116, g46_117, g46_120, Option.toList, List.nil_append, List.cons_append, va_rf, nI_ltI, nI_leI, nI_eq, nI_add, nI_sub, nI_lt0, nI_e0, nI_m1, m1_nI, Nat.reduceEqDiff, Nat.reduceLT, Nat.reduceLeDiff, Nat.reduceAdd, Nat.reduceSub, Nat.reduceMul, ↓reduceIte, eq_self, lN_i8, r1 _, ea', reduceCtorEq]
theorem o_jump_ {k : Nat} (S : am_S ga) (hd : dp < 22) (ea : am_I ga (278 + dp) 1 = nI p) (hp : p < 1000) (hk : k < 256) : am_run (d + 1) 40 [some (.ref 9), some (.ref (278 + dp)), some (.int (nI 17)), some (.long (lN k)), none] ga none (am_setI ga (278 + dp) 1 (nI (p + k))) := fun Q => by
  have O := o278 S hd
  have h4 : 4 ≤ 278 + dp := by omega
  simp (disch := first | with_reducible assumption | omega | exact Or.inl rfl | exact Or.inr rfl | exact bI_01 | exact c_cat | exact vt_ref | exact vt_null | rfl | with_reducible repeat (first | assumption | omega | apply S_I | apply S_L | apply S_D | apply ob_I | apply ob_L | apply ob_D | apply ob_R | apply ax_I | apply ax_L | apply ax_D | apply ax_R | apply o303 | apply o307 | apply o302 | apply o301 | apply ax304 | apply ax305 | apply ax306 | apply ax308 | apply ax309 | apply ax310 | apply lt_S | apply ar305 | apply ar308 | apply ar309)) only [g40_0, g40_1_17, g40_226, g40_227, g40_228, g40_229, g40_230, g40_231, g40_234, g40_302, g46_0, g46_1, g46_3, g46_6, g46_7, g46_10, g46_13, g46_16, g46_17, g46_20, g46_21, g46_24, g46_25, g46_28, g46_29, g46_30, g46_31, g46_32, g46_35, g46_36, g46_39, g46_40, g46_43, g46_46, g46_47, g46_48, g46_51, g46_52, g46_55, g46_56, g46_59, g46_60, g46_61, g46_62, g46_65, g46_66, g46_67, g46_70, g46_71, g46_72, g46_74, g46_77, g46_78, g46_81, g46_84, g46_85, g46_86, g46_89, g46_90, g46_91, g46_94, g46_95, g46_97, g46_100, g46_101, g46_104, g46_107, g46_110, g46_111, g46_112, g46_115, g46_116, g46_117, g46_120, Option.toList, List.nil_append, List.cons_append, va_rf, nI_ltI, nI_leI, nI_eq, nI_add, nI_sub, nI_lt0, nI_e0, nI_m1, m1_nI, Nat.reduceEqDiff, Nat.reduceLT, Nat.reduceLeDiff, Nat.reduceAdd, Nat.reduceSub, Nat.reduceMul, ↓reduceIte, eq_self, lN_i8, ea]
theorem c_if {i j l : Nat} {D1 D2 D3 : List (Int32 × Int64)} (h4 : 402 ≤ h.1) (ho : o < 278 ∨ 299 < o) (ho2 : o < 402) (hd : dp < 22) (hre : ∀ a, rr = some a → a < e ∨ e + 7 ≤ a) (hi : i < 48) (hj : j < 48) (hl3 : l < 48) (ht : tt s nn = (nI 7, nI i, nI j, nI l, lN 0)) (W : CWk h o rr sa (d + 4) v1 v2 v3 f (ev tt rt cv cs f s as sh dp i) dp e b as D1 tm) (W2 : CWk h o rr sa (d + 4) v1 v2 v3 f (ev tt rt cv cs f s as sh dp j) dp e b as D2 tm) (W3 : CWk h o rr sa (d + 4) v1 v2 v3 f (ev tt rt cv cs f s as sh dp l) dp e b as D3 tm) (L1' : ∀ σ v σ', ev tt rt cv cs f s as sh dp i σ = (.inl v, σ') → σ'.1 < σ.1) : CWk h o rr sa (d + 4) v1 v2 v3 (f + 1) (ev tt rt cv cs (f + 1) s as sh dp nn) dp e b as (ST :: D1 ++ (nI 16, lN (D2.length + 1)) :: D2 ++ (nI 17, lN D3.length) :: D3) tm := by
  intro DD p g σ ts st n T C hD hf A Z N FR V hl ht2 hT hT2
  have Cl := C.2.2.2.2.2.2.2.2.2
  rw [show p + (ST :: D1 ++ (nI 16, lN (D2.length + 1)) :: D2 ++ (nI 17, lN D3.length) :: D3).length = p + 1 + D1.length + 1 + D2.length + 1 + D3.length by simp only [List.length_append, List.length_cons]; omega]
  show CP h o rr sa (d + 4) v1 v2 v3 T g dp ts st (p + 1 + D1.length + 1 + D2.length + 1 + D3.length) n (if σ.1 = 0 then (oF 8, σ) else evX tt rt cv cs f s as sh dp nn (σ.1 - 1, σ.2))
  have Cg := cd_kp A.1 ho2 hre C
  refine c_step (d := d + 2) A ho hd Cg FR (hD 0 _ rfl) Z N hT hT2 (fun s0 g1 A1 Z1 N1 FK1 at1 hT1 => ?_)
  have ex : evX tt rt cv cs f s as sh dp nn (σ.1 - 1, σ.2) = andThen (ev tt rt cv cs f s as sh dp i (σ.1 - 1, σ.2)) (fun v σ => ev tt rt cv cs f s as sh dp (if nz v = true then j else l) σ) := by
    unfold evX evN evCall
    simp (disch := omega) only [ht, nI_eq, Nat.reduceEqDiff, ↓reduceIte, xN_n, lN_i8, Nat.reduceLeDiff, and_false, false_and]
  rw [ex]
  have hDa : ∀ i x, (D1 ++ (nI 16, lN (D2.length + 1)) :: (D2 ++ (nI 17, lN D3.length) :: D3))[i]? = some x → DD[p + 1 + i]? = some x := fun i x hx => by
    have := hD (i + 1) x (by rw [List.append_assoc, List.cons_append, List.getElem?_cons_succ]; exact hx)
    rwa [show p + (i + 1) = p + 1 + i by omega] at this
  have hD1 : ∀ i x, D1[i]? = some x → DD[p + 1 + i]? = some x := fun i x hx => hDa i x (by
    have c := (List.getElem?_eq_some_iff.mp hx).1
    rw [List.getElem?_append_left c]; exact hx)
  have hop : DD[p + 1 + D1.length]? = some (nI 16, lN (D2.length + 1)) := hDa D1.length _ (by rw [List.getElem?_append_right (Nat.le_refl _), Nat.sub_self]; rfl)
  have hDb : ∀ i x, (D2 ++ (nI 17, lN D3.length) :: D3)[i]? = some x → DD[p + 1 + D1.length + 1 + i]? = some x := fun i x hx => by
    have := hDa (D1.length + (i + 1)) x (by rw [List.getElem?_append_right (by omega), show D1.length + (i + 1) - D1.length = i + 1 by omega, List.getElem?_cons_succ]; exact hx)
    rwa [show p + 1 + (D1.length + (i + 1)) = p + 1 + D1.length + 1 + i by omega] at this
  have hD2 : ∀ i x, D2[i]? = some x → DD[p + 1 + D1.length + 1 + i]? = some x := fun i x hx => hDb i x (by
    have c := (List.getElem?_eq_some_iff.mp hx).1
    rw [List.getElem?_append_left c]; exact hx)
  have hop2 : DD[p + 1 + D1.length + 1 + D2.length]? = some (nI 17, lN D3.length) := hDb D2.length _ (by rw [List.getElem?_append_right (Nat.le_refl _), Nat.sub_self]; rfl)
  have hD3 : ∀ i x, D3[i]? = some x → DD[p + 1 + D1.length + 1 + D2.length + 1 + i]? = some x := fun i x hx => by
    have := hDb (D2.length + (i + 1)) x (by rw [List.getElem?_append_right (by omega), show D2.length + (i + 1) - D2.length = i + 1 by omega, List.getElem?_cons_succ]; exact hx)
    rwa [show p + 1 + D1.length + 1 + (D2.length + (i + 1)) = p + 1 + D1.length + 1 + D2.length + 1 + i by omega] at this
  have hb2 := (List.getElem?_eq_some_iff.mp hop2).1
  have hDl : p + 1 + D1.length + 1 + D2.length + 1 + D3.length ≤ DD.length := by
    by_cases c : D3.length = 0
    · omega
    · have := hD3 (D3.length - 1) _ (List.getElem?_eq_getElem (by omega))
      have := (List.getElem?_eq_some_iff.mp this).1
      omega
  refine c_sub (u := []) (T1 := T - 4) W C hD1 (by show σ.1 - 1 < f; omega) A1 Z1 (by rw [List.append_nil]; exact N1) (FK_F FK1 at1 FR) V (by show st.length + 0 + (σ.1 - 1) ≤ 1000; omega) ht2 (by show n + 1 + 6 * (σ.1 - 1) ≤ T - 4; omega) (by omega) hT2 (fun v σ' g2 n2 hF w2 w3 w4 w5 w6 w7 w8 => ?_)
  rw [List.append_nil] at w4
  have la : σ'.1 < σ.1 - 1 := L1' _ _ _ hF
  have C2 := cd_kp w2.1 ho2 hre C
  have Aa := XS_at (p := p + 1 + D1.length) w2 hd ho
  have Na := NS_at (p := p + 1 + D1.length) w4 hd
  have r1 := o_jz_ (d := d + 1) (k := D2.length + 1) Aa.2.1 hd (rI_eq) (by omega) (by omega) Na (by omega)
  have FR2 := FK_F (FK_trans FK1 w6) w7 FR
  have N0 : NS (am_setI (am_setI g2 (278 + dp) 1 (nI (p + 1 + D1.length + 1))) 12 3 (nI st.length)) st := NS_cut Na (fun i _ => ⟨rI_a (by decide), rfl, rfl⟩) rI_eq
  have A0 : XS h (am_setI (am_setI g2 (278 + dp) 1 (nI (p + 1 + D1.length + 1))) 12 3 (nI st.length)) o rr sa dp ts σ' := XS_num Aa (fr_I fr_refl (Or.inl rfl))
  have Z0 : KZ (am_setI (am_setI g2 (278 + dp) 1 (nI (p + 1 + D1.length + 1))) 12 3 (nI st.length)) := KZ_fr (P := nsP) (fr_I fr_refl (Or.inl rfl)) (by decide) (KZ_at w3 hd)
  have FA0 : FA (am_setI g2 (278 + dp) 1 (nI (p + 1 + D1.length + 1))) (am_setI (am_setI g2 (278 + dp) 1 (nI (p + 1 + D1.length + 1))) 12 3 (nI st.length)) := FA_I (by omega)
  have FK0 := FK_trans FK_at (FA_K FA0 hd)
  show CP h o rr sa (d + 4) v1 v2 v3 T g2 dp ts st (p + 1 + D1.length + 1 + D2.length + 1 + D3.length) n2 (ev tt rt cv cs f s as sh dp (if nz v = true then j else l) σ')
  cases hz : nz v with
  | true =>
    rw [hz, if_pos rfl] at r1
    have G := x_good (v1 := v1) (v2 := v2) (v3 := v3) (n := n2) w2 hd C2 FR2 hop (by omega) r1 A0.2.1 Z0.1
    refine CP_pre G FK0 ?_
    rw [if_pos rfl]
    have a0 : am_I (am_setI (am_setI g2 (278 + dp) 1 (nI (p + 1 + D1.length + 1))) 12 3 (nI st.length)) (278 + dp) 1 = nI (p + 1 + D1.length + 1) := by rw [rI_a (by omega)]; exact rI_eq
    have W22 := W2 DD (p + 1 + D1.length + 1) _ σ' ts st (n2 + 1) (T - 3) C hD2 (by omega) A0 Z0 N0 (FK_F FK0 a0 FR2) V (by omega) ht2 (by omega) (by omega)
    match ev tt rt cv cs f s as sh dp j σ', W22 with
    | (.inr q, σ2), ⟨g3, n3, dp', ts', x1, x2, x2', x3, x4, x5, x6⟩ => exact ⟨g3, n3, dp', ts', x1, x2, x2', x3, x4, x5, by omega⟩
    | (.inl u, σ2), ⟨g3, n3, x1, x2, x3, x4, x5, x6, x7, x8⟩ =>
      refine CP_pre x1 x6 ?_
      have C3 := cd_kp x2.1 ho2 hre C
      have Ab := XS_at (p := p + 1 + D1.length + 1 + D2.length) x2 hd ho
      have r2 := o_jump_ (d := d + 2) (k := D3.length) Ab.2.1 hd rI_eq (by omega) (by omega)
      have FR3 := FK_F (FK_trans FK0 x6) x7 FR2
      have Ac := XS_I (x := nI (p + 1 + D1.length + 1 + D2.length + 1 + D3.length)) Ab (Or.inr ⟨by omega, by omega⟩ : ((278 + dp = 9 ∧ 1 = 13) ∨ (278 ≤ 278 + dp ∧ 278 + dp ≤ 299))) ho
      have Zc := KZ_ax (x := nI (p + 1 + D1.length + 1 + D2.length + 1 + D3.length)) (KZ_at (p := p + 1 + D1.length + 1 + D2.length) x3 hd) hd
      have Nc := NS_ax (x := nI (p + 1 + D1.length + 1 + D2.length + 1 + D3.length)) (NS_at (p := p + 1 + D1.length + 1 + D2.length) x4 hd) hd
      have G2 := x_good (v1 := v1) (v2 := v2) (v3 := v3) (n := n3) x2 hd C3 FR3 hop2 (by omega) r2 Ac.2.1 Zc.1
      exact ⟨_, n3 + 1, G2, Ac, Zc, Nc, x5, FK_trans FK_at FK_at, rI_eq, by omega⟩
  | false =>
    rw [hz, if_neg (by decide)] at r1
    have A3 := XS_I (x := nI (p + 1 + D1.length + 1 + (D2.length + 1))) A0 (Or.inr ⟨by omega, by omega⟩ : ((278 + dp = 9 ∧ 1 = 13) ∨ (278 ≤ 278 + dp ∧ 278 + dp ≤ 299))) ho
    have Z3 := KZ_ax (x := nI (p + 1 + D1.length + 1 + (D2.length + 1))) Z0 hd
    have N3 := NS_ax (x := nI (p + 1 + D1.length + 1 + (D2.length + 1))) N0 hd
    have G := x_good (v1 := v1) (v2 := v2) (v3 := v3) (n := n2) w2 hd C2 FR2 hop (by omega) r1 A3.2.1 Z3.1
    have FK3 := FK_trans FK0 (FK_at (x := nI (p + 1 + D1.length + 1 + (D2.length + 1))))
    refine CP_pre G FK3 ?_
    rw [if_neg (by decide)]
    exact CP_T (W3 DD (p + 1 + D1.length + 1 + D2.length + 1) _ σ' ts st (n2 + 1) (T - 3) C hD3 (by omega) A3 Z3 N3 (FK_F FK3 (by rw [rI_eq]; rfl) FR2) V (by omega) ht2 (by omega) (by omega)) (by omega)
end XIF

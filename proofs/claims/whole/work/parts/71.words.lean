/-! BOTH PARSERS: the words' arguments -/
def ph0 (hm1 : am_H) (q1 : Nat) (C1 : List (Int32 × Int64)) (P1 : List Int32) (N1 : List Nat) (F1 : Int32) (k1 m1 : Nat) : phT := fun hm q C P N F k m W => hm = hm1 ∧ q = q1 ∧ C = C1 ∧ P = P1 ∧ N = N1 ∧ F = F1 ∧ k = k1 ∧ m = m1 ∧ W = none
def phW (so on na vis : Nat) (oM : Int64) (agM cnM fnM : Nat → Int64) (o : Nat) (hm1 : am_H) (q1 : Nat) (C1 : List (Int32 × Int64)) (P1 : List Int32) (N1 : List Nat) (F1 : Int32) (k1 m1 : Nat) (kd : Nat) (wv : Int64) (pre : List Nat) (a b c : Int32) : phT := fun hm' q' C' P' N' F' k' m' W' =>
  (q1 < q' ∧ k1 ≤ k' ∧ k' ≤ 40 ∧ m1 ≤ m' ∧ m' ≤ m1 + (k' - k1) ∧ C'.length ≤ C1.length + 3 * (k' - k1) + 2 ∧ P'.length ≤ P1.length + (q' - q1) + 2 * (k' - k1) ∧ C1.length ≤ C'.length ∧ P1.length ≤ P'.length) ∧ (∀ i, i < m1 → tb hm' 3648 i = tb hm1 3648 i) ∧ (∀ z, W' = some z → q1 ≤ z.2 ∧ z.2 < q') ∧
  (W' = none → ∃ Dx Ex Lx Gx, C' = C1 ++ Dx ∧ P' = P1 ++ Ex.map nI ∧ N' = Lx.foldl nadd N1 ∧ F' = Gx.foldl gF F1 ∧ ∀ (T' : ntT) M' r, m' ≤ r → r < M' → (∀ i, i < m' → T' i = tb hm' 3648 i) → T' r = (nI kd, a, b, c, wv) → Rp (decide (so = 2)) (knO so na vis) T' M' (pNm so agM cnM) (pFm so on oM fnM) (k' - k1 + 41 * (10 - o) + 42) r (ST :: Dx) (pre ++ 40 :: Ex ++ [41]) Lx Gx ∧ NC T' m1 m' Gx ∧ (kd < 100 ∧ kd ≠ 8 ∧ kd ≠ 9 ∨ ∃ z, z ∈ Gx ∧ wv = lN z.1))
section WRD2
variable {so s vis on na nc nf : Nat} {oX oM : Int64} {agX agM cnX cnM fnX fnM : Nat → Int64} {fnA : Nat → Nat} {t : Nat → Nat} {n : Nat} {D f : Nat} {d : Nat}
variable {hx1 hm1 : am_H} {o m1 q1 k1 : Nat} {C1 : List (Int32 × Int64)} {P1 : List Int32} {N1 : List Nat} {F1 : Int32} {ltx ltm : Option (Nat × Nat)} {v2 v3 v4 v5 v6 : Option Value}
theorem xaim_app {A B : List (Int32 × Int64)} {x : Int32 × Int64} : xaim (A ++ x :: B) A.length = A ++ (x.1, lN B.length) :: B := by
  unfold xaim
  rw [List.getElem?_append_right (Nat.le_refl _), Nat.sub_self, List.getElem?_cons_zero]
  simp only
  rw [List.set_append_right _ _ (Nat.le_refl _), Nat.sub_self, List.set_cons_zero, List.length_append, List.length_cons, show A.length + (B.length + 1) - A.length - 1 = B.length by omega]
theorem xaim_len {C : List (Int32 × Int64)} {p : Nat} : (xaim C p).length = C.length := by
  unfold xaim; split
  · exact List.length_set
  · rfl
theorem J_if (hD : 10 ≤ D) (Lv : JR t n so s vis on na nc nf oX oM agX agM cnX cnM fnX fnM fnA (lxL 0) lm3 77 211 D f) (hf : 11 ≤ f + o) (ho : o ≤ 10) (hn : n ≤ 240) (Gv : am_Gv hx1) (KX : cfX hx1 so s vis on na nc nf oX agX cnX fnX fnA) (KM : cfM hm1 so s vis on na nc nf oM agM cnM fnM fnA) (KR : cfR so na nc nf oX oM agX agM cnX cnM fnX fnM fnA) (hC : C1.length + 2 ≤ 3 * k1) (hP : P1.length ≤ q1 + 2 * k1) (Z0 : SX t n o ltx ltm hx1 hm1 m1 (ph0 hm1 q1 C1 P1 N1 F1 k1 m1) hx1 hm1) : ∃ hx' hm' a b c, am_run (D + 2) 96 [some (.ref 301), some (.int (nI 0)), none, none] hx1 none hx' ∧ (∀ Q, am_J (D + 1) 221 39 [some (.ref 349), some (.int (nI 0)), v2, v3, v4, v5, v6, none] [] hm1 Q ↔ am_J (D + 1) 221 238 [some (.ref 349), some (.int (nI 0)), some (.int a), some (.int b), some (.int c), some (.long (lN 0)), none, none] [] hm' Q) ∧ SX t n o ltx ltm hx1 hm1 m1 (phW so on na vis oM agM cnM fnM o hm1 q1 C1 P1 N1 F1 k1 m1 7 (lN 0) (wdN 0) a b c) hx' hm' := by
  obtain ⟨e, rfl⟩ : ∃ e, D = e + 10 := ⟨D - 10, by omega⟩
  obtain ⟨S0, T0⟩ := SX_S Z0
  obtain ⟨h1, m1', r1, x1, y1, Z1⟩ := st_level (by omega) Lv hf ho hn Gv KX KM KR Z0 (by rintro q C P N F k m W ⟨-, rfl, rfl, rfl, rfl, rfl, rfl, rfl, rfl⟩; exact ⟨by omega, hP⟩)
  obtain ⟨S1, T1⟩ := SX_S Z1
  obtain ⟨h2, m2, x2, y2, Z2⟩ := st_pass (d := e + 6) Z1 (c := 44) (by decide)
  obtain ⟨S2, T2⟩ := SX_S Z2
  obtain ⟨h3, p3, hp3, x3, Z3⟩ := st_add (d := e + 10) Z2 (w := 16) (by decide) (x := lN 0)
  obtain ⟨S3, -⟩ := SX_S Z3
  obtain ⟨h4, m4, r4, x4, y4, Z4⟩ := st_level (by omega) Lv hf ho hn Gv KX KM KR Z3 (by
    rintro q C P N F k m W ⟨-, C', ⟨q', P', ⟨q0, C0, P0, N0, F0, k0, m0, W0, W2, r, ⟨-, rfl, rfl, rfl, rfl, rfl, rfl, rfl, -⟩, -, -, g, -⟩, -, hq, rfl, -⟩, rfl, -⟩
    have a1 := xadd_len (C := C') (x := (nI 16, lN 0))
    have a2 := xpad_len (P := P') (w := nI 44)
    constructor <;> omega)
  obtain ⟨S4, T4⟩ := SX_S Z4
  obtain ⟨h5, m5, x5, y5, Z5⟩ := st_pass (d := e + 6) Z4 (c := 44) (by decide)
  obtain ⟨S5, T5⟩ := SX_S Z5
  obtain ⟨h6, p6, hp6, x6, Z6⟩ := st_add (d := e + 10) Z5 (w := 17) (by decide) (x := lN 0)
  obtain ⟨S6, -⟩ := SX_S Z6
  obtain ⟨h7, x7, Z7⟩ := st_aim (d := e + 10) Z6 hp3
  obtain ⟨S7, -⟩ := SX_S Z7
  obtain ⟨h8, m8, r8, x8, y8, Z8⟩ := st_level (by omega) Lv hf ho hn Gv KX KM KR Z7 (by
    rintro q C P N F k m W ⟨-, C9, ⟨-, C8, ⟨q7, P7, ⟨q6, C6, P6, N6, F6, k6, m6, W6, W62, r6, ⟨-, C', ⟨q', P', ⟨q0, C0, P0, N0, F0, k0, m0, W0, W2, r, ⟨-, rfl, rfl, rfl, rfl, rfl, rfl, rfl, -⟩, -, -, g, -⟩, -, hq, rfl, -⟩, rfl, -⟩, -, -, g6, -⟩, -, hq7, rfl, -⟩, rfl, -⟩, rfl⟩
    have a1 := xadd_len (C := C') (x := (nI 16, lN 0))
    have a2 := xpad_len (P := P') (w := nI 44)
    have a3 := xadd_len (C := C8) (x := (nI 17, lN 0))
    have a4 := xpad_len (P := P7) (w := nI 44)
    rw [xaim_len]
    constructor <;> omega)
  obtain ⟨S8, T8⟩ := SX_S Z8
  obtain ⟨h9, x9, Z9⟩ := st_aim (d := e + 10) Z8 hp6
  refine ⟨h9, m8, r1, r4, r8, fun Q => ?_, fun Q => ?_, SX_imp Z9 ?_⟩
  · have W : ∀ Q, am_J (e + 11) 97 0 [some (.ref 301), none, none] [] hx1 Q ↔ Q none h9 := fun Q => by
      simp (disch := first | with_reducible assumption | omega | exact Or.inl rfl | exact Or.inr rfl | exact bI_01 | exact c_cat | exact vt_ref | exact vt_null | rfl | with_reducible repeat (first | assumption | omega | apply S_I | apply S_L | apply S_D | apply ob_I | apply ob_L | apply ob_D | apply ob_R | apply ax_I | apply ax_L | apply ax_D | apply ax_R | apply o303 | apply o307 | apply o302 | apply o301 | apply ax304 | apply ax305 | apply ax306 | apply ax308 | apply ax309 | apply ax310 | apply lt_S | apply ar305 | apply ar308 | apply ar309)) only [g97_0, g97_1, g97_2, g97_5, g97_6, g97_8, g97_11, g97_12, g97_15, g97_17, g97_18, g97_21, g97_22, g97_23, g97_24, g97_27, g97_28, g97_30, g97_33, g97_34, g97_37, g97_39, g97_40, g97_43, g97_44, g97_45, g97_48, g97_49, g97_52, g97_53, g97_54, g97_57, g97_58, g97_61, g97_62, g97_65, Option.toList, List.nil_append, List.cons_append, va_rf, x1 _, x2 _, x3 _, x4 _, x5 _, x6 _, x7 _, x8 _, x9 _]
    simp (disch := first | with_reducible assumption | omega | exact Or.inl rfl | exact Or.inr rfl | exact bI_01 | exact c_cat | exact vt_ref | exact vt_null | rfl | with_reducible repeat (first | assumption | omega | apply S_I | apply S_L | apply S_D | apply ob_I | apply ob_L | apply ob_D | apply ob_R | apply ax_I | apply ax_L | apply ax_D | apply ax_R | apply o303 | apply o307 | apply o302 | apply o301 | apply ax304 | apply ax305 | apply ax306 | apply ax308 | apply ax309 | apply ax310 | apply lt_S | apply ar305 | apply ar308 | apply ar309)) only [g96_0, g96_56, g96_57, g96_60, g96_63, g96_64, g96_67, g96_70, g96_71, g96_74, g96_75, g96_76, g96_77, g96_79, g96_82, g96_83, g96_84, g96_87, g96_88, g96_91, g96_93, g96_94, g96_97, g96_98, g96_101, g96_102, g96_103, g96_106, g96_109, g96_110, g96_113, g96_116, g96_117, g96_119, g96_122, g96_123, g96_124, g96_127, g96_128, g96_131, g96_132, g96_134, g96_135, g96_137, g96_138, g96_139, g96_142, g96_143, g96_146, g96_147, g96_150, g96_151, g96_152, g96_153, g96_155, g96_156, g96_157, g96_160, g96_161, g96_164, g96_165, g96_1_0, Option.toList, List.nil_append, List.cons_append, va_rf, W]
  · simp (disch := first | with_reducible assumption | omega | exact Or.inl rfl | exact Or.inr rfl | exact bI_01 | exact c_cat | exact vt_ref | exact vt_null | rfl | with_reducible repeat (first | assumption | omega | apply S_I | apply S_L | apply S_D | apply ob_I | apply ob_L | apply ob_D | apply ob_R | apply ax_I | apply ax_L | apply ax_D | apply ax_R | apply o303 | apply o307 | apply o302 | apply o301 | apply ax304 | apply ax305 | apply ax306 | apply ax308 | apply ax309 | apply ax310 | apply lt_S | apply ar305 | apply ar308 | apply ar309)) only [g221_39, g221_40, g221_41, g221_42, g221_43, g221_44, g221_46, g221_47, g221_49, g221_50, g221_52, g221_112, g221_113, g221_114, g221_117, g221_118, g221_120, g221_123, g221_124, g221_126, g221_129, g221_130, g221_133, g221_136, g221_137, g221_140, g221_141, g221_142, g221_143, g221_146, g221_147, g221_148, g221_151, g221_152, g221_153, g221_156, g221_157, g221_158, g221_161, g221_162, g221_164, g221_167, g221_168, g221_170, g221_173, g221_174, g221_176, g221_179, g221_180, g221_182, g221_185, g221_186, g221_188, g221_191, g221_192, g221_195, g221_198, g221_199, g221_202, g221_203, g221_204, g221_207, g221_208, g221_210, g221_213, g221_214, g221_216, g221_219, g221_220, g221_222, g221_225, g221_226, g221_229, g221_232, g221_233, g221_236, Option.toList, List.nil_append, List.cons_append, va_rf, nI_ltI, nI_leI, nI_eq, nI_add, nI_sub, nI_lt0, nI_e0, nI_m1, m1_nI, Nat.reduceEqDiff, Nat.reduceLT, Nat.reduceLeDiff, Nat.reduceAdd, Nat.reduceSub, Nat.reduceMul, ↓reduceIte, eq_self, y1 _, y2 _, y4 _, y5 _, y8 _]
  · rintro q C P N F k m W hq0 ⟨-, C11, ⟨q10, C10, P10, N10, F10, k10, m10, W10, W102, r10, ⟨-, C9, ⟨-, C8, ⟨q7, P7, ⟨q6, C6, P6, N6, F6, k6, m6, W6, W62, r6, ⟨-, C', ⟨q', P', ⟨q0, C0, P0, N0, F0, k0, m0, W0, W2, r, ⟨-, rfl, rfl, rfl, rfl, rfl, rfl, rfl, rfl⟩, rfl, rfl, g, tg, wg, sg⟩, -, hq, rfl, tp⟩, rfl, vp3⟩, rfl, rfl, g6, tg6, wg6, sg6⟩, -, hq7, rfl, tp7⟩, rfl, vp6⟩, rfl⟩, rfl, rfl, g10, tg10, wg10, sg10⟩, rfl⟩
    have a1 := xadd_len (C := C') (x := (nI 16, lN 0))
    have a2 := xpad_len (P := P') (w := nI 44)
    have a3 := xadd_len (C := C8) (x := (nI 17, lN 0))
    have a4 := xpad_len (P := P7) (w := nI 44)
    have b1 := xadd_ge (C := C') (x := (nI 16, lN 0))
    have b2 := xpad_ge (P := P') (w := nI 44)
    have b3 := xadd_ge (C := C8) (x := (nI 17, lN 0))
    have b4 := xpad_ge (P := P7) (w := nI 44)
    rw [xaim_len] at g10
    have tall : ∀ i, i < m0 → tb m8 3648 i = tb hm1 3648 i := fun i hi => by rw [tg10 i (by omega), tp7 i (by omega), tg6 i (by omega), tp i (by omega), tg i hi]
    refine ⟨⟨by omega, by omega, by omega, by omega, by omega, by rw [xaim_len]; omega, by omega, by rw [xaim_len]; omega, by omega⟩, tall, ?_, fun ez => ?_⟩
    · rw [mgO_none]
      exact mgO_bd (mgO_bd wg wg6 (by omega) (by omega)) wg10 (by omega) (by omega)
    · obtain ⟨w1, w3⟩ := mgO_eq_none ez
      obtain ⟨w0, w2⟩ := mgO_eq_none w1
      obtain ⟨w00, w01⟩ := mgO_eq_none w0
      obtain ⟨D1, E1, L1, G1, R1, u1, u2, u3, u4⟩ := sg w01
      obtain ⟨D2, E2, L2, G2, R2, u5, u6, u7, u8⟩ := sg6 w2
      obtain ⟨D3, E3, L3, G3, R3, u9, u10, u11, u12⟩ := sg10 w3
      have e1 : xadd C' (nI 16, lN 0) = C0 ++ D1 ++ [(nI 16, lN 0)] := by rw [xadd_eq (by omega), u1]
      have e2 : C8 = C0 ++ D1 ++ (nI 16, lN 0) :: D2 := by rw [u5, e1]; simp
      have e3 : xadd C8 (nI 17, lN 0) = C0 ++ D1 ++ (nI 16, lN 0) :: (D2 ++ [(nI 17, lN 0)]) := by rw [xadd_eq (by omega), e2]; simp
      have e4 : p3 = (C0 ++ D1).length := by
        have := (nI_eq (by omega) (by omega)).mp vp3
        rw [this, e1]; simp
      have e5 : xaim (xadd C8 (nI 17, lN 0)) p3 = C0 ++ D1 ++ (nI 16, lN (D2.length + 1)) :: (D2 ++ [(nI 17, lN 0)]) := by
        rw [e3, e4, xaim_app]; simp
      have e6 : p6 = (C0 ++ D1 ++ (nI 16, lN (D2.length + 1)) :: D2).length := by
        have := (nI_eq (by omega) (by omega)).mp vp6
        rw [this, e3]; simp; omega
      have e7 : C11 = (C0 ++ D1 ++ (nI 16, lN (D2.length + 1)) :: D2) ++ (nI 17, lN 0) :: D3 := by rw [u9, e5]; simp
      have e8 : xaim C11 p6 = (C0 ++ D1 ++ (nI 16, lN (D2.length + 1)) :: D2) ++ (nI 17, lN D3.length) :: D3 := by rw [e7, e6, xaim_app]
      refine ⟨D1 ++ (nI 16, lN (D2.length + 1)) :: D2 ++ (nI 17, lN D3.length) :: D3, E1 ++ 44 :: E2 ++ 44 :: E3, L1 ++ L2 ++ L3, G1 ++ G2 ++ G3, ?_, ?_, ?_, ?_, ?_⟩
      · rw [e8]; simp
      · rw [u10, xpad_eq (by omega) (by decide), u6, xpad_eq (by omega) (by decide), u2]; simp
      · rw [u11, u7, u3]; simp
      · rw [u12, u8, u4]; simp
      · intro T' M' r' hr1 hr2 hT hr3
        refine ⟨Rp_mk ?_, NC_app (NC_app (NC_T R1.2 (fun i hi => by rw [hT i (by omega), tg10 i (by omega), tp7 i (by omega), tg6 i (by omega), tp i (by omega)])) (NC_T R2.2 (fun i hi => by rw [hT i (by omega), tg10 i (by omega), tp7 i (by omega)]))) (NC_T R3.2 hT), Or.inl (by decide)⟩
        refine ⟨hr2, Or.inr (Or.inr (Or.inr (Or.inr (Or.inr (Or.inr (Or.inl ⟨r, r6, r10, D1, E1, L1, G1, D2, E2, L2, G2, D3, E3, L3, G3, by omega, by omega, by omega, hr3, ?_, ?_, ?_, ?_, ?_, rfl, rfl⟩))))))⟩
        · exact Rp_mono (M := m6) (by omega) (fun i hi => by rw [hT i (by omega), tg10 i (by omega), tp7 i (by omega), tg6 i (by omega), tp i (by omega)]) (by omega) R1.1
        · exact Rp_mono (M := m10) (by omega) (fun i hi => by rw [hT i (by omega), tg10 i (by omega), tp7 i (by omega)]) (by omega) R2.1
        · exact Rp_mono (M := m) (by omega) (fun i hi => hT i hi) (by omega) R3.1
        · simp
        · simp
end WRD2

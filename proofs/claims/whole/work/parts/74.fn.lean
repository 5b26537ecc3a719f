/-! BOTH PARSERS: calls of functions, step by step -/
section FNS
variable {so s vis on na nc nf : Nat} {oX oM : Int64} {agX agM cnX cnM fnX fnM : Nat → Int64} {fnA : Nat → Nat} {t : Nat → Nat} {n : Nat} {D f : Nat} {d : Nat}
variable {hx0 hm0 hx hm : am_H} {o m0 : Nat} {ltx ltm : Option (Nat × Nat)} {Φ : phT}
/-- the later fault of a function that isn't there -/
def fnW (r : Int32) (p : Nat) : Option (Nat × Nat) := if r = -1 then some (4, p) else none
theorem SX_base {Wf : Option (Nat × Nat)} (Z : SX t n o (mgO ltx Wf) (mgO ltm Wf) hx0 hm0 m0 Φ hx hm) : SX t n o ltx ltm hx0 hm0 m0 (fun hm' q C P N F k m W' => ∃ W, Φ hm' q C P N F k m W ∧ W' = mgO Wf W) hx hm := by
  obtain ⟨F1, F2, Z | ⟨q, C, P, N, F, k, m, W, lnx, lpx, lnm, lpm, X, a1, Y, a2, a3, a4, a5, a6⟩⟩ := Z
  · exact ⟨F1, F2, Or.inl Z⟩
  · rw [mgO_assoc] at a1 a2
    exact ⟨F1, F2, Or.inr ⟨q, C, P, N, F, k, m, mgO Wf W, lnx, lpx, lnm, lpm, X, a1, Y, a2, a3, a4, a5, W, a6, rfl⟩⟩
/-- resolveFunction, on the class's side -/
def phF (hm : am_H) (Φ : phT) (r : Int32) : phT := fun hm' q' C' P' N' F' k' m' W' => hm' = hm ∧ ∃ F, Φ hm q' C' P' N' F k' m' W' ∧ F' = if r = -1 then F else F ||| (nI 1 <<< (r &&& 31))
theorem st_resFn (KX : cfX hx0 so s vis on na nc nf oX agX cnX fnX fnA) (KR : cfR so na nc nf oX oM agX agM cnX cnM fnX fnM fnA) (Z : SX t n o ltx ltm hx0 hm0 m0 Φ hx hm) {x : Int64} {gv p : Nat} (hg : gv ≤ 3) (hp : p ≤ 240) (hW : ∀ q C P N F k m W, Φ hm q C P N F k m W → ∀ z, W = some z → z.2 ≠ p) : ∃ hx' v, am_run (d + 1) 95 [some (.ref 301), some (.long x), none, some (.int (nI gv)), some (.int (nI p)), none, none, none] hx (some (.int v)) hx' ∧ SX t n o (mgO ltx (fnW (fnF so on na nf oX fnX fnA x gv) p)) ltm hx0 hm0 m0 (fun hm' q C P N F k m W => phF hm Φ (fnF so on na nf oX fnX fnA x gv) hm' q C P N F k m W ∧ v = if fnF so on na nf oX fnX fnA x gv = -1 then nI 0 else fnF so on na nf oX fnX fnA x gv) hx' hm := by
  obtain ⟨F1, F2, ⟨y, B, BB⟩ | ⟨q, C, P, N, F, k, m, W, lnx, lpx, lnm, lpm, X, LX, Y, LM, hk, hmk, hm0, hΦ⟩⟩ := Z
  · obtain ⟨h1, v, r1, B1, G1⟩ := bx_resFn (d := d) (x := x) (p := nI p) B (cfX_XF F1 KX) KR.2.2.2 (fun i hi => (KR.2.2.1 i hi).2.2) hg
    exact ⟨h1, v, r1, XF_trans F1 G1, F2, Or.inl ⟨y, B1, BB⟩⟩
  · obtain ⟨h1, r1, X1, G1⟩ := x_resFn (d := d) (x := x) (p := nI p) X (cfX_XF F1 KX) KR.2.2.2 (fun i hi => (KR.2.2.1 i hi).2.2) hg
    refine ⟨h1, _, r1, XF_trans F1 G1, F2, Or.inr ⟨q, C, P, N, _, k, m, W, _, _, lnm, lpm, X1, ?_, Y, LM, hk, hmk, hm0, ⟨rfl, F, hΦ, rfl⟩, rfl⟩⟩
    by_cases c : fnF so on na nf oX fnX fnA x gv = -1
    · rw [if_pos c, if_pos c]
      have e : fnW (fnF so on na nf oX fnX fnA x gv) p = some (4, p) := if_pos c
      rw [e, mgO_assoc, mgO_comm (a := some (4, p)) (b := W) (fun a b ha hb => by cases ha; exact fun q => hW _ _ _ _ _ _ _ _ hΦ b hb q.symm), ← mgO_assoc]
      exact LT_mg LX (by omega)
    · rw [if_neg c, if_neg c]
      have e : fnW (fnF so on na nf oX fnX fnA x gv) p = none := if_neg c
      rw [e]; exact LX
/-- a comma: the class passes it, the model steps over it -/
theorem st_comma (Z : SX t n o ltx ltm hx0 hm0 m0 Φ hx hm) (hK : ∀ q C P N F k m W, Φ hm q C P N F k m W → lx_K t n q = 44) : ∃ hx' hm', am_run (d + 4) 93 [some (.ref 301), some (.int (nI 44))] hx none hx' ∧ am_run (d + 4) 193 [some (.ref 349), none] hm none hm' ∧ SX t n o ltx ltm hx0 hm0 m0 (phP t n hm Φ 44) hx' hm' := by
  obtain ⟨F1, F2, ⟨y, B, BB⟩ | ⟨q, C, P, N, F, k, m, W, lnx, lpx, lnm, lpm, X, LX, Y, LM, hk, hmk, hm0, hΦ⟩⟩ := Z
  · obtain ⟨h1, r1, B1, G1⟩ := bx_pass (d := d + 1) B (c := 44) (by decide)
    obtain ⟨h2, r2, B2, G2⟩ := bm_nx (d := d + 1) (v1 := none) BB
    exact ⟨h1, h2, r1, r2, XF_trans F1 G1, MF_trans F2 G2 (Nat.le_refl _), Or.inl ⟨y, B1, B2⟩⟩
  · have kc := hK _ _ _ _ _ _ _ _ hΦ
    obtain ⟨h1, r1, X1, G1⟩ := x_pass (d := d + 1) X (c := 44) (by decide)
    obtain ⟨h2, r2, Y2, G2⟩ := m_nx (d := d + 1) (v1 := none) Y
    rw [show mpass t n (.inl q) 44 = mdA t n (.inl q) from if_pos (show mdK t n (.inl q) = 44 from kc), if_pos (show mdK t n (.inl q) = 44 from kc)] at X1
    refine ⟨h1, h2, r1, r2, XF_trans F1 G1, MF_trans F2 G2 hm0, ?_⟩
    match hB : mdA t n (.inl q) with
    | .inr y =>
      rw [hB] at X1 Y2
      exact Or.inl ⟨y, BX_of X1, BM_of Y2 hm0⟩
    | .inl q' =>
      rw [hB] at X1 Y2
      obtain ⟨i1, i2, i3⟩ := mdA_gt (lx_K_lt (show lx_K t n q ≠ 262 by omega)) hB
      exact Or.inr ⟨q', C, _, N, F, k, m, W, lnx, lpx, lnm, lpm, X1, LX, Y2, LM, hk, hmk, hm0, q, P, hΦ, kc, i2, rfl, fun i hi => tb_same G2 hi⟩
/-- does a comma stand here? on both sides -/
theorem st_isComma (Z : SX t n o ltx ltm hx0 hm0 m0 Φ hx hm) : (am_I hx 302 2 = nI 44 ∧ (∀ d Q, am_J d 205 0 [some (.ref 349), some (.int (nI 44))] [] hm Q ↔ Q (some (.int (nI 1))) hm) ∧ SX t n o ltx ltm hx0 hm0 m0 (fun hm' q C P N F k m W => Φ hm' q C P N F k m W ∧ lx_K t n q = 44) hx hm) ∨ ((∃ K, K ≤ 263 ∧ K ≠ 44 ∧ am_I hx 302 2 = nI K) ∧ ∀ d Q, am_J d 205 0 [some (.ref 349), some (.int (nI 44))] [] hm Q ↔ Q (some (.int (nI 0))) hm) := by
  obtain ⟨F1, F2, ⟨y, B, BB⟩ | ⟨q, C, P, N, F, k, m, W, lnx, lpx, lnm, lpm, X, LX, Y, LM, hk, hmk, hm0, hΦ⟩⟩ := Z
  · exact Or.inr ⟨⟨263, Nat.le_refl _, by decide, bx_tok B⟩, fun d Q => bm_sign BB (by decide)⟩
  · have tk := x_tok X
    by_cases e : lx_K t n q = 44
    · refine Or.inl ⟨by rw [tk]; exact congrArg nI e, fun d Q => ?_, F1, F2, Or.inr ⟨q, C, P, N, F, k, m, W, lnx, lpx, lnm, lpm, X, LX, Y, LM, hk, hmk, hm0, hΦ, e⟩⟩
      rw [m_sign Y (by decide), show decide (mdK t n (.inl q) = mcode 44) = true from decide_eq_true e]; rfl
    · refine Or.inr ⟨⟨lx_K t n q, mdK_lt X, e, tk⟩, fun d Q => ?_⟩
      rw [m_sign Y (by decide), show decide (mdK t n (.inl q) = mcode 44) = false from decide_eq_false e]; rfl
end FNS
/-- behind the arguments of a function -/
def phG (so on na vis : Nat) (oM : Int64) (agM cnM fnM : Nat → Int64) (o : Nat) (hm1 : am_H) (q1 : Nat) (C1 : List (Int32 × Int64)) (P1 : List Int32) (N1 : List Nat) (F1 : Int32) (k1 m1 gv : Nat) (a b c : Int32) : phT := fun hm' q' C' P' N' F' k' m' W' =>
  (q1 < q' ∧ k1 ≤ k' ∧ k' ≤ 40 ∧ m1 ≤ m' ∧ m' ≤ m1 + (k' - k1) ∧ C'.length ≤ C1.length + 3 * (k' - k1) ∧ P'.length ≤ P1.length + (q' - q1) + 2 * (k' - k1) ∧ C1.length ≤ C'.length ∧ P1.length ≤ P'.length) ∧ (∀ i, i < m1 → tb hm' 3648 i = tb hm1 3648 i) ∧ (∀ z, W' = some z → q1 ≤ z.2 ∧ z.2 < q') ∧
  (W' = none → ∃ Dx Ex Lx Gx, C' = C1 ++ Dx ∧ P' = P1 ++ Ex.map nI ∧ N' = Lx.foldl nadd N1 ∧ F' = Gx.foldl gF F1 ∧ ∀ (T' : ntT) M' r g, g ≤ 8 → pFm so on oM fnM (4 * g + gv) ≠ [] → m' ≤ r → r < M' → (∀ i, i < m' → T' i = tb hm' 3648 i) → T' r = (nI 8, a, b, c, lN g) → Rp (decide (so = 2)) (knO so na vis) T' M' (pNm so agM cnM) (pFm so on oM fnM) (k' - k1 + 41 * (10 - o) + 42) r (ST :: Dx ++ [(nI 30, lN (g * 4 + gv))]) (pFm so on oM fnM (4 * g + gv) ++ 40 :: Ex ++ [41]) Lx (Gx ++ [(g, gv)]) ∧ NC T' m1 m' Gx)
section FN2
variable {so s vis on na nc nf : Nat} {oX oM : Int64} {agX agM cnX cnM fnX fnM : Nat → Int64} {fnA : Nat → Nat} {t : Nat → Nat} {n : Nat} {D f : Nat} {d : Nat}
variable {hx1 hm1 : am_H} {o m1 q1 k1 : Nat} {C1 : List (Int32 × Int64)} {P1 : List Int32} {N1 : List Nat} {F1 : Int32} {ltx ltm : Option (Nat × Nat)} {v3 v4 v5 v6 v7 : Option Value} {x y : Int64} {p : Int32}
theorem J_fnargs (hD : 10 ≤ D) (Lv : JR t n so s vis on na nc nf oX oM agX agM cnX cnM fnX fnM fnA (lxL 0) lm3 77 211 D f) (hf : 11 ≤ f + o) (ho : o ≤ 10) (hn : n ≤ 240) (Gv : am_Gv hx1) (KX : cfX hx1 so s vis on na nc nf oX agX cnX fnX fnA) (KM : cfM hm1 so s vis on na nc nf oM agM cnM fnM fnA) (KR : cfR so na nc nf oX oM agX agM cnX cnM fnX fnM fnA) (hC : C1.length + 2 ≤ 3 * k1) (hP : P1.length ≤ q1 + 2 * k1) (Z0 : SX t n o ltx ltm hx1 hm1 m1 (ph0 hm1 q1 C1 P1 N1 F1 k1 m1) hx1 hm1) : ∃ hx' hm' a b c gv, 1 ≤ gv ∧ gv ≤ 3 ∧ (∀ Q, am_J (D + 1) 94 0 [some (.ref 301), some (.long x), none, some (.int p), none] [] hx1 Q ↔ am_J (D + 1) 94 43 [some (.ref 301), some (.long x), none, some (.int p), some (.int (nI gv))] [] hx' Q) ∧ (∀ Q, am_J (D + 1) 219 146 [some (.ref 349), some (.long y), none, v3, v4, v5, v6, v7, none, none] [] hm1 Q ↔ am_J (D + 1) 219 211 [some (.ref 349), some (.long y), none, v3, some (.int a), some (.int b), some (.int c), some (.int (nI gv)), none, none] [] hm' Q) ∧ SX t n o ltx ltm hx1 hm1 m1 (phG so on na vis oM agM cnM fnM o hm1 q1 C1 P1 N1 F1 k1 m1 gv a b c) hx' hm' := by
  obtain ⟨e, rfl⟩ : ∃ e, D = e + 10 := ⟨D - 10, by omega⟩
  obtain ⟨S0, T0⟩ := SX_S Z0
  obtain ⟨h1, m1', r1, x1, y1, Z1⟩ := st_level (by omega) Lv hf ho hn Gv KX KM KR Z0 (by rintro q C P N F k m W ⟨-, rfl, rfl, rfl, rfl, rfl, rfl, rfl, -⟩; exact ⟨by omega, hP⟩)
  obtain ⟨S1, T1⟩ := SX_S Z1
  have Wx1 : ∀ Q, am_J (e + 11) 94 0 [some (.ref 301), some (.long x), none, some (.int p), none] [] hx1 Q ↔ am_J (e + 11) 94 8 [some (.ref 301), some (.long x), none, some (.int p), some (.int (nI 1))] [] h1 Q := by
    intro Q
    simp (disch := first | with_reducible assumption | omega | exact Or.inl rfl | exact Or.inr rfl | exact bI_01 | exact c_cat | exact vt_ref | exact vt_null | rfl | with_reducible repeat (first | assumption | omega | apply S_I | apply S_L | apply S_D | apply ob_I | apply ob_L | apply ob_D | apply ob_R | apply ax_I | apply ax_L | apply ax_D | apply ax_R | apply o303 | apply o307 | apply o302 | apply o301 | apply ax304 | apply ax305 | apply ax306 | apply ax308 | apply ax309 | apply ax310 | apply lt_S | apply ar305 | apply ar308 | apply ar309)) only [g94_0, g94_1, g94_3, g94_4, g94_5, Option.toList, List.nil_append, List.cons_append, va_rf, x1 _]
  rcases st_isComma Z1 with ⟨tk1, s1, Z1'⟩ | ⟨⟨K1, hK1, hK1', tk1⟩, s1⟩
  · obtain ⟨h2, m2, x2, y2, Z2⟩ := st_comma (d := e + 6) Z1' (fun _ _ _ _ _ _ _ _ q => q.2)
    obtain ⟨S2, T2⟩ := SX_S Z2
    obtain ⟨h3, m3, r3, x3, y3, Z3⟩ := st_level (by omega) Lv hf ho hn Gv KX KM KR Z2 (by
      rintro q C P N F k m W ⟨q', P', ⟨⟨q6, C6, P6, N6, F6, k6, m6', W6, W62, r6', ⟨-, rfl, rfl, rfl, rfl, rfl, rfl, rfl, -⟩, -, -, g6, -⟩, -⟩, -, hq7, rfl, -⟩
      have a2 := xpad_len (P := P') (w := nI 44)
      constructor <;> omega)
    obtain ⟨S3, T3⟩ := SX_S Z3
    have Wx3 : ∀ Q, am_J (e + 11) 94 8 [some (.ref 301), some (.long x), none, some (.int p), some (.int (nI 1))] [] h1 Q ↔ am_J (e + 11) 94 8 [some (.ref 301), some (.long x), none, some (.int p), some (.int (nI 2))] [] h3 Q := by
      intro Q
      rw [g94_8]
      simp (disch := first | with_reducible assumption | omega | exact Or.inl rfl | exact Or.inr rfl | exact bI_01 | exact c_cat | exact vt_ref | exact vt_null | rfl | with_reducible repeat (first | assumption | omega | apply S_I | apply S_L | apply S_D | apply ob_I | apply ob_L | apply ob_D | apply ob_R | apply ax_I | apply ax_L | apply ax_D | apply ax_R | apply o303 | apply o307 | apply o302 | apply o301 | apply ax304 | apply ax305 | apply ax306 | apply ax308 | apply ax309 | apply ax310 | apply lt_S | apply ar305 | apply ar308 | apply ar309)) only [g94_10, g94_11, g94_14, g94_15, g94_18, g94_21, g94_23, g94_26, g94_27, g94_29, g94_32, g94_33, g94_34, g94_37, g94_40, Option.toList, List.nil_append, List.cons_append, va_rf, nI_ltI, nI_leI, nI_eq, nI_add, nI_sub, nI_lt0, nI_e0, nI_m1, m1_nI, Nat.reduceEqDiff, Nat.reduceLT, Nat.reduceLeDiff, Nat.reduceAdd, Nat.reduceSub, Nat.reduceMul, ↓reduceIte, eq_self, tk1, x2 _, x3 _]
    rcases st_isComma Z3 with ⟨tk3, s3, Z3'⟩ | ⟨⟨K3, hK3, hK3', tk3⟩, s3⟩
    · obtain ⟨h4, m4, x4, y4, Z4⟩ := st_comma (d := e + 6) Z3' (fun _ _ _ _ _ _ _ _ q => q.2)
      obtain ⟨S4, T4⟩ := SX_S Z4
      obtain ⟨h5, m5, r5, x5, y5, Z5⟩ := st_level (by omega) Lv hf ho hn Gv KX KM KR Z4 (by
        rintro q C P N F k m W ⟨q9, P9, ⟨⟨q8, C8, P8, N8, F8, k8, m8, W8, W82, r8, ⟨q', P', ⟨⟨q6, C6, P6, N6, F6, k6, m6', W6, W62, r6', ⟨-, rfl, rfl, rfl, rfl, rfl, rfl, rfl, -⟩, -, -, g6, -⟩, -⟩, -, hq7, rfl, -⟩, -, -, g8, -⟩, -⟩, -, hq9, rfl, -⟩
        have a2 := xpad_len (P := P') (w := nI 44)
        have a3 := xpad_len (P := P9) (w := nI 44)
        constructor <;> omega)
      refine ⟨h5, m5, r1, r3, r5, 3, by decide, by decide, fun Q => ?_, fun Q => ?_, SX_imp Z5 ?_⟩
      · rw [Wx1, Wx3, g94_8]
        simp (disch := first | with_reducible assumption | omega | exact Or.inl rfl | exact Or.inr rfl | exact bI_01 | exact c_cat | exact vt_ref | exact vt_null | rfl | with_reducible repeat (first | assumption | omega | apply S_I | apply S_L | apply S_D | apply ob_I | apply ob_L | apply ob_D | apply ob_R | apply ax_I | apply ax_L | apply ax_D | apply ax_R | apply o303 | apply o307 | apply o302 | apply o301 | apply ax304 | apply ax305 | apply ax306 | apply ax308 | apply ax309 | apply ax310 | apply lt_S | apply ar305 | apply ar308 | apply ar309)) only [g94_10, g94_11, g94_14, g94_15, g94_18, g94_21, g94_23, g94_26, g94_27, g94_29, g94_32, g94_33, g94_34, g94_37, g94_40, Option.toList, List.nil_append, List.cons_append, va_rf, nI_ltI, nI_leI, nI_eq, nI_add, nI_sub, nI_lt0, nI_e0, nI_m1, m1_nI, Nat.reduceEqDiff, Nat.reduceLT, Nat.reduceLeDiff, Nat.reduceAdd, Nat.reduceSub, Nat.reduceMul, ↓reduceIte, eq_self, tk3, x4 _, x5 _]
        rw [g94_8]
        simp (disch := first | with_reducible assumption | omega | exact Or.inl rfl | exact Or.inr rfl | exact bI_01 | exact c_cat | exact vt_ref | exact vt_null | rfl | with_reducible repeat (first | assumption | omega | apply S_I | apply S_L | apply S_D | apply ob_I | apply ob_L | apply ob_D | apply ob_R | apply ax_I | apply ax_L | apply ax_D | apply ax_R | apply o303 | apply o307 | apply o302 | apply o301 | apply ax304 | apply ax305 | apply ax306 | apply ax308 | apply ax309 | apply ax310 | apply lt_S | apply ar305 | apply ar308 | apply ar309)) only [g94_10, g94_11, nI_ltI, nI_leI, nI_eq, nI_add, nI_sub, nI_lt0, nI_e0, nI_m1, m1_nI, Nat.reduceEqDiff, Nat.reduceLT, Nat.reduceLeDiff, Nat.reduceAdd, Nat.reduceSub, Nat.reduceMul, ↓reduceIte, eq_self, Nat.le_refl]
      · simp (disch := first | with_reducible assumption | omega | exact Or.inl rfl | exact Or.inr rfl | exact bI_01 | exact c_cat | exact vt_ref | exact vt_null | rfl | with_reducible repeat (first | assumption | omega | apply S_I | apply S_L | apply S_D | apply ob_I | apply ob_L | apply ob_D | apply ob_R | apply ax_I | apply ax_L | apply ax_D | apply ax_R | apply o303 | apply o307 | apply o302 | apply o301 | apply ax304 | apply ax305 | apply ax306 | apply ax308 | apply ax309 | apply ax310 | apply lt_S | apply ar305 | apply ar308 | apply ar309)) only [g219_146, g219_147, g219_150, g219_152, g219_153, g219_155, g219_156, g219_158, g219_159, g219_161, g219_162, g219_164, g219_167, g219_170, g219_171, g219_174, g219_175, g219_178, g219_180, g219_181, g219_183, g219_185, g219_186, g219_189, g219_190, g219_192, g219_195, g219_198, g219_199, g219_202, g219_203, g219_206, g219_208, g219_209, Option.toList, List.nil_append, List.cons_append, va_rf, nI_ltI, nI_leI, nI_eq, nI_add, nI_sub, nI_lt0, nI_e0, nI_m1, m1_nI, Nat.reduceEqDiff, Nat.reduceLT, Nat.reduceLeDiff, Nat.reduceAdd, Nat.reduceSub, Nat.reduceMul, ↓reduceIte, eq_self, y1 _, s1 _, y2 _, y3 _, s3 _, y4 _, y5 _]
      · rintro q C P N F k m W hq0 ⟨q10, C10, P10, N10, F10, k10, m10, W10, W102, r10, ⟨q9, P9, ⟨⟨q8, C8, P8, N8, F8, k8, m8, W8, W82, r8, ⟨q', P', ⟨⟨q6, C6, P6, N6, F6, k6, m6', W6, W62, r6', ⟨-, rfl, rfl, rfl, rfl, rfl, rfl, rfl, rfl⟩, rfl, rfl, g6, tg6, wg6, sg6⟩, -⟩, -, hq7, rfl, tp7⟩, rfl, rfl, g8, tg8, wg8, sg8⟩, -⟩, -, hq9, rfl, tp9⟩, rfl, rfl, g10, tg10, wg10, sg10⟩
        have a2 := xpad_len (P := P') (w := nI 44)
        have a3 := xpad_len (P := P9) (w := nI 44)
        have b2 := xpad_ge (P := P') (w := nI 44)
        have b3 := xpad_ge (P := P9) (w := nI 44)
        refine ⟨⟨by omega, by omega, by omega, by omega, by omega, by omega, by omega, by omega, by omega⟩, fun i hi => by rw [tg10 i (by omega), tp9 i (by omega), tg8 i (by omega), tp7 i (by omega), tg6 i hi], ?_, fun ez => ?_⟩
        · rw [mgO_none]
          exact mgO_bd (mgO_bd wg6 wg8 (by omega) (by omega)) wg10 (by omega) (by omega)
        · obtain ⟨w1, w3⟩ := mgO_eq_none ez
          obtain ⟨w0, w2⟩ := mgO_eq_none w1
          obtain ⟨w00, w01⟩ := mgO_eq_none w0
          obtain ⟨D1, E1, L1, G1, R1, u1, u2, u3, u4⟩ := sg6 w01
          obtain ⟨D2, E2, L2, G2, R2, u5, u6, u7, u8⟩ := sg8 w2
          obtain ⟨D3, E3, L3, G3, R3, u9, u10, u11, u12⟩ := sg10 w3
          refine ⟨D1 ++ D2 ++ D3, E1 ++ 44 :: E2 ++ 44 :: E3, L1 ++ L2 ++ L3, G1 ++ G2 ++ G3, ?_, ?_, ?_, ?_, ?_⟩
          · rw [u9, u5, u1]; simp
          · rw [u10, xpad_eq (by omega) (by decide), u6, xpad_eq (by omega) (by decide), u2]; simp
          · rw [u11, u7, u3]; simp
          · rw [u12, u8, u4]; simp
          · intro T' M' r' g hg hgn hr1 hr2 hT hr3
            refine ⟨Rp_mk ?_, NC_app (NC_app (NC_T R1.2 (fun i hi => by rw [hT i (by omega), tg10 i (by omega), tp9 i (by omega), tg8 i (by omega), tp7 i (by omega)])) (NC_T R2.2 (fun i hi => by rw [hT i (by omega), tg10 i (by omega), tp9 i (by omega)]))) (NC_T R3.2 hT)⟩
            refine ⟨hr2, Or.inr (Or.inr (Or.inr (Or.inr (Or.inr (Or.inr (Or.inr (Or.inr (Or.inr (Or.inr (Or.inr (Or.inr (Or.inr (Or.inr (Or.inr (Or.inl ⟨g, r6', r8, r10, D1, E1, L1, G1, D2, E2, L2, G2, D3, E3, L3, G3, hg, hgn, by omega, by omega, by omega, hr3, ?_, ?_, ?_, ?_, ?_, rfl, ?_⟩)))))))))))))))⟩
            · exact Rp_mono (M := m8) (by omega) (fun i hi => by rw [hT i (by omega), tg10 i (by omega), tp9 i (by omega), tg8 i (by omega), tp7 i (by omega)]) (by omega) R1.1
            · exact Rp_mono (M := m10) (by omega) (fun i hi => by rw [hT i (by omega), tg10 i (by omega), tp9 i (by omega)]) (by omega) R2.1
            · exact Rp_mono (M := m) (by omega) (fun i hi => hT i hi) (by omega) R3.1
            · simp
            · simp
            · simp
    · refine ⟨h3, m3, r1, r3, -1, 2, by decide, by decide, fun Q => ?_, fun Q => ?_, SX_imp Z3 ?_⟩
      · rw [Wx1, Wx3, g94_8]
        simp (disch := first | with_reducible assumption | omega | exact Or.inl rfl | exact Or.inr rfl | exact bI_01 | exact c_cat | exact vt_ref | exact vt_null | rfl | with_reducible repeat (first | assumption | omega | apply S_I | apply S_L | apply S_D | apply ob_I | apply ob_L | apply ob_D | apply ob_R | apply ax_I | apply ax_L | apply ax_D | apply ax_R | apply o303 | apply o307 | apply o302 | apply o301 | apply ax304 | apply ax305 | apply ax306 | apply ax308 | apply ax309 | apply ax310 | apply lt_S | apply ar305 | apply ar308 | apply ar309)) only [g94_10, g94_11, g94_14, g94_15, g94_18, g94_21, g94_23, Option.toList, List.nil_append, List.cons_append, va_rf, nI_ltI, nI_leI, nI_eq, nI_add, nI_sub, nI_lt0, nI_e0, nI_m1, m1_nI, Nat.reduceEqDiff, Nat.reduceLT, Nat.reduceLeDiff, Nat.reduceAdd, Nat.reduceSub, Nat.reduceMul, ↓reduceIte, eq_self, tk3, hK3']
      · simp (disch := first | with_reducible assumption | omega | exact Or.inl rfl | exact Or.inr rfl | exact bI_01 | exact c_cat | exact vt_ref | exact vt_null | rfl | with_reducible repeat (first | assumption | omega | apply S_I | apply S_L | apply S_D | apply ob_I | apply ob_L | apply ob_D | apply ob_R | apply ax_I | apply ax_L | apply ax_D | apply ax_R | apply o303 | apply o307 | apply o302 | apply o301 | apply ax304 | apply ax305 | apply ax306 | apply ax308 | apply ax309 | apply ax310 | apply lt_S | apply ar305 | apply ar308 | apply ar309)) only [g219_146, g219_147, g219_150, g219_152, g219_153, g219_155, g219_156, g219_158, g219_159, g219_161, g219_162, g219_164, g219_167, g219_170, g219_171, g219_174, g219_175, g219_178, g219_180, g219_181, g219_183, g219_185, g219_186, g219_189, g219_190, g219_192, g219_195, g219_198, g219_199, g219_202, g219_203, g219_206, g219_208, g219_209, Option.toList, List.nil_append, List.cons_append, va_rf, nI_ltI, nI_leI, nI_eq, nI_add, nI_sub, nI_lt0, nI_e0, nI_m1, m1_nI, Nat.reduceEqDiff, Nat.reduceLT, Nat.reduceLeDiff, Nat.reduceAdd, Nat.reduceSub, Nat.reduceMul, ↓reduceIte, eq_self, y1 _, s1 _, y2 _, y3 _, s3 _]
      · rintro q C P N F k m W hq0 ⟨q8, C8, P8, N8, F8, k8, m8, W8, W82, r8, ⟨q', P', ⟨⟨q6, C6, P6, N6, F6, k6, m6', W6, W62, r6', ⟨-, rfl, rfl, rfl, rfl, rfl, rfl, rfl, rfl⟩, rfl, rfl, g6, tg6, wg6, sg6⟩, -⟩, -, hq7, rfl, tp7⟩, rfl, rfl, g8, tg8, wg8, sg8⟩
        have a2 := xpad_len (P := P') (w := nI 44)
        have b2 := xpad_ge (P := P') (w := nI 44)
        refine ⟨⟨by omega, by omega, by omega, by omega, by omega, by omega, by omega, by omega, by omega⟩, fun i hi => by rw [tg8 i (by omega), tp7 i (by omega), tg6 i hi], ?_, fun ez => ?_⟩
        · rw [mgO_none]
          exact mgO_bd wg6 wg8 (by omega) (by omega)
        · obtain ⟨w0, w2⟩ := mgO_eq_none ez
          obtain ⟨w00, w01⟩ := mgO_eq_none w0
          obtain ⟨D1, E1, L1, G1, R1, u1, u2, u3, u4⟩ := sg6 w01
          obtain ⟨D2, E2, L2, G2, R2, u5, u6, u7, u8⟩ := sg8 w2
          refine ⟨D1 ++ D2, E1 ++ 44 :: E2, L1 ++ L2, G1 ++ G2, ?_, ?_, ?_, ?_, ?_⟩
          · rw [u5, u1]; simp
          · rw [u6, xpad_eq (by omega) (by decide), u2]; simp
          · rw [u7, u3]; simp
          · rw [u8, u4]; simp
          · intro T' M' r' g hg hgn hr1 hr2 hT hr3
            refine ⟨Rp_mk ?_, NC_app (NC_T R1.2 (fun i hi => by rw [hT i (by omega), tg8 i (by omega), tp7 i (by omega)])) (NC_T R2.2 hT)⟩
            refine ⟨hr2, Or.inr (Or.inr (Or.inr (Or.inr (Or.inr (Or.inr (Or.inr (Or.inr (Or.inr (Or.inr (Or.inr (Or.inr (Or.inr (Or.inr (Or.inl ⟨g, r6', r8, D1, E1, L1, G1, D2, E2, L2, G2, hg, hgn, by omega, by omega, hr3, ?_, ?_, ?_, ?_, rfl, ?_⟩))))))))))))))⟩
            · exact Rp_mono (M := m8) (by omega) (fun i hi => by rw [hT i (by omega), tg8 i (by omega), tp7 i (by omega)]) (by omega) R1.1
            · exact Rp_mono (M := m) (by omega) (fun i hi => hT i hi) (by omega) R2.1
            · simp
            · simp
            · simp
  · refine ⟨h1, m1', r1, -1, -1, 1, by decide, by decide, fun Q => ?_, fun Q => ?_, SX_imp Z1 ?_⟩
    · rw [Wx1, g94_8]
      simp (disch := first | with_reducible assumption | omega | exact Or.inl rfl | exact Or.inr rfl | exact bI_01 | exact c_cat | exact vt_ref | exact vt_null | rfl | with_reducible repeat (first | assumption | omega | apply S_I | apply S_L | apply S_D | apply ob_I | apply ob_L | apply ob_D | apply ob_R | apply ax_I | apply ax_L | apply ax_D | apply ax_R | apply o303 | apply o307 | apply o302 | apply o301 | apply ax304 | apply ax305 | apply ax306 | apply ax308 | apply ax309 | apply ax310 | apply lt_S | apply ar305 | apply ar308 | apply ar309)) only [g94_10, g94_11, g94_14, g94_15, g94_18, g94_21, g94_23, Option.toList, List.nil_append, List.cons_append, va_rf, nI_ltI, nI_leI, nI_eq, nI_add, nI_sub, nI_lt0, nI_e0, nI_m1, m1_nI, Nat.reduceEqDiff, Nat.reduceLT, Nat.reduceLeDiff, Nat.reduceAdd, Nat.reduceSub, Nat.reduceMul, ↓reduceIte, eq_self, tk1, hK1']
    · simp (disch := first | with_reducible assumption | omega | exact Or.inl rfl | exact Or.inr rfl | exact bI_01 | exact c_cat | exact vt_ref | exact vt_null | rfl | with_reducible repeat (first | assumption | omega | apply S_I | apply S_L | apply S_D | apply ob_I | apply ob_L | apply ob_D | apply ob_R | apply ax_I | apply ax_L | apply ax_D | apply ax_R | apply o303 | apply o307 | apply o302 | apply o301 | apply ax304 | apply ax305 | apply ax306 | apply ax308 | apply ax309 | apply ax310 | apply lt_S | apply ar305 | apply ar308 | apply ar309)) only [g219_146, g219_147, g219_150, g219_152, g219_153, g219_155, g219_156, g219_158, g219_159, g219_161, g219_162, g219_164, g219_167, g219_170, g219_171, g219_174, g219_175, g219_178, g219_180, g219_181, g219_183, g219_185, g219_186, g219_189, g219_190, g219_192, g219_195, g219_198, g219_199, g219_202, g219_203, g219_206, g219_208, g219_209, Option.toList, List.nil_append, List.cons_append, va_rf, nI_ltI, nI_leI, nI_eq, nI_add, nI_sub, nI_lt0, nI_e0, nI_m1, m1_nI, Nat.reduceEqDiff, Nat.reduceLT, Nat.reduceLeDiff, Nat.reduceAdd, Nat.reduceSub, Nat.reduceMul, ↓reduceIte, eq_self, y1 _, s1 _]
    · rintro q C P N F k m W hq0 ⟨q6, C6, P6, N6, F6, k6, m6', W6, W62, r6', ⟨-, rfl, rfl, rfl, rfl, rfl, rfl, rfl, rfl⟩, rfl, rfl, g6, tg6, wg6, sg6⟩
      refine ⟨⟨by omega, by omega, by omega, by omega, by omega, by omega, by omega, by omega, by omega⟩, tg6, by rw [mgO_none]; exact wg6, fun ez => ?_⟩
      obtain ⟨w00, w01⟩ := mgO_eq_none ez
      obtain ⟨D1, E1, L1, G1, R1, u1, u2, u3, u4⟩ := sg6 w01
      refine ⟨D1, E1, L1, G1, u1, u2, u3, u4, ?_⟩
      intro T' M' r' g hg hgn hr1 hr2 hT hr3
      refine ⟨Rp_mk ?_, NC_T R1.2 hT⟩
      refine ⟨hr2, Or.inr (Or.inr (Or.inr (Or.inr (Or.inr (Or.inr (Or.inr (Or.inr (Or.inr (Or.inr (Or.inr (Or.inr (Or.inr (Or.inl ⟨g, r6', D1, E1, L1, G1, hg, hgn, by omega, hr3, ?_, rfl, ?_, rfl, rfl⟩)))))))))))))⟩
      · exact Rp_mono (M := m) (by omega) (fun i hi => hT i hi) (by omega) R1.1
      · simp
end FN2

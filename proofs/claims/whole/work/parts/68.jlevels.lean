/-! BOTH PARSERS: levels, whole (by wip/whole/gen_two.py) -/
section JLW
variable {so s vis on na nc nf : Nat} {oX oM : Int64} {agX agM cnX cnM fnX fnM : Nat → Int64} {fnA : Nat → Nat} {t : Nat → Nat} {n : Nat} {D f : Nat}
theorem J_lev2 (hD : 5 ≤ D) (Sub : JR t n so s vis on na nc nf oX oM agX agM cnX cnM fnX fnM fnA (lxL 3) lm1 77 214 D f) : JR t n so s vis on na nc nf oX oM agX agM cnX cnM fnX fnM fnA (lxL 2) lm3 77 213 (D + 1) f := by
  obtain ⟨e, rfl⟩ : ∃ e, D = e + 3 := ⟨D - 3, by omega⟩
  have he : 1 ≤ e := by omega
  intro hx hm q C P N F k o m ltx ltm hf J
  obtain ⟨hx1, hm1, mr1, rx1, rm1, Fx1, Fm1, J1⟩ := Sub hx hm q C P N F k o m ltx ltm hf J
  have Sx : am_S hx := by
    obtain ⟨⟨lnx, lpx, X, -⟩, -⟩ := J
    exact X.1
  have XX : ∃ lnx lpx, PX hx t n (.inl q) C P N F (nI k) (nI o) lnx lpx := by
    obtain ⟨⟨lnx, lpx, X, -⟩, -⟩ := J
    exact ⟨lnx, lpx, X⟩
  obtain ⟨lnx0, lpx0, X0⟩ := XX
  have Sm : am_S hm := by
    obtain ⟨-, ⟨lnm, lpm, Y, -⟩, -⟩ := J
    exact Y.1
  have hk40 : k ≤ 40 := by
    obtain ⟨-, -, -, -, -, -, -, -, -, hk, -⟩ := J
    exact hk
  obtain ⟨R0, R1, R2, R3, R4, R5⟩ := S303r Sx
  have zC := X0.2.2.2.1.1
  have zP := X0.2.2.2.2.1.1
  unfold lxL at rx1 ⊢
  unfold lm1 at rm1
  unfold lm3
  have Wx : ∀ Q, am_J (e + 4) 77 0 [some (.ref 301), some (.int (nI 2)), none, none, none, none, none] [] hx Q ↔ am_J (e + 4) 77 51 [some (.ref 301), some (.int (nI 2)), some (.int (nI C.length)), some (.int (nI P.length)), some (.int (nI 40)), some (.int (nI 0)), none] [] hx1 Q := by
    intro Q
    simp (disch := first | with_reducible assumption | omega | exact Or.inl rfl | exact Or.inr rfl | exact bI_01 | exact c_cat | exact vt_ref | exact vt_null | rfl | with_reducible repeat (first | assumption | omega | apply S_I | apply S_L | apply S_D | apply ob_I | apply ob_L | apply ob_D | apply ob_R | apply ax_I | apply ax_L | apply ax_D | apply ax_R | apply o303 | apply o307 | apply o302 | apply o301 | apply ax304 | apply ax305 | apply ax306 | apply ax308 | apply ax309 | apply ax310 | apply lt_S | apply ar305 | apply ar308 | apply ar309)) only [g77_0, g77_1, g77_2, g77_5, g77_6, g77_9, g77_10, g77_11, g77_14, g77_17, g77_18, g77_19, g77_22, g77_25, g77_28, g77_29, g77_30, g77_31, g77_32, g77_33, g77_36, g77_37, g77_40, g77_41, g77_44, g77_46, g77_48, g77_49, nI_ltI, nI_leI, nI_eq, nI_add, nI_sub, nI_lt0, nI_e0, nI_m1, m1_nI, Nat.reduceEqDiff, Nat.reduceLT, Nat.reduceLeDiff, Nat.reduceAdd, Nat.reduceSub, Nat.reduceMul, ↓reduceIte, eq_self, Option.toList, List.nil_append, List.cons_append, va_rf, zC, R2, zP, rx1 _]
  have Wm : ∀ Q, am_J (e + 4) 213 0 [some (.ref 349), none, none, none] [] hm Q ↔ am_J (e + 4) 213 5 [some (.ref 349), some (.int mr1), none, none] [] hm1 Q := by
    intro Q
    simp (disch := first | with_reducible assumption | omega | exact Or.inl rfl | exact Or.inr rfl | exact bI_01 | exact c_cat | exact vt_ref | exact vt_null | rfl | with_reducible repeat (first | assumption | omega | apply S_I | apply S_L | apply S_D | apply ob_I | apply ob_L | apply ob_D | apply ob_R | apply ax_I | apply ax_L | apply ax_D | apply ax_R | apply o303 | apply o307 | apply o302 | apply o301 | apply ax304 | apply ax305 | apply ax306 | apply ax308 | apply ax309 | apply ax310 | apply lt_S | apply ar305 | apply ar308 | apply ar309)) only [g213_0, g213_1, g213_4, Option.toList, List.nil_append, List.cons_append, va_rf, rm1 _]
  have mexB : ∀ y h (B : BM h t n y m) (a : Int32) (v2 v3 : Option Value) Q, am_J (e + 4) 213 5 [some (.ref 349), some (.int a), v2, v3] [] h Q ↔ Q (some (.int a)) h := by
    intro y h B a v2 v3 Q
    have SB := (bm_S B).1
    rw [g213_5]
    simp (disch := first | with_reducible assumption | omega | exact Or.inl rfl | exact Or.inr rfl | exact bI_01 | exact c_cat | exact vt_ref | exact vt_null | rfl | with_reducible repeat (first | assumption | omega | apply S_I | apply S_L | apply S_D | apply ob_I | apply ob_L | apply ob_D | apply ob_R | apply ax_I | apply ax_L | apply ax_D | apply ax_R | apply o303 | apply o307 | apply o302 | apply o301 | apply ax304 | apply ax305 | apply ax306 | apply ax308 | apply ax309 | apply ax310 | apply lt_S | apply ar305 | apply ar308 | apply ar309)) only [g213_6, g213_8, g213_11, g213_14, g213_15, g213_17, g213_20, g213_23, g213_24, g213_26, g213_29, g213_67, g213_68, bm_sign B (v := 42) (by decide), bm_sign B (v := 47) (by decide), bm_sign B (v := 37) (by decide), Option.toList, List.nil_append, List.cons_append, va_rf, nI_ltI, nI_leI, nI_eq, nI_add, nI_sub, nI_lt0, nI_e0, nI_m1, m1_nI, Nat.reduceEqDiff, Nat.reduceLT, Nat.reduceLeDiff, Nat.reduceAdd, Nat.reduceSub, Nat.reduceMul, ↓reduceIte, eq_self]
  have mexG : ∀ h q' k' m' lnm lpm, MX h t n (.inl q') k' (nI o) m' lnm lpm → lx_K t n q' ≠ 42 → lx_K t n q' ≠ 47 → lx_K t n q' ≠ 37 → ∀ (a : Int32) (v2 v3 : Option Value) Q, am_J (e + 4) 213 5 [some (.ref 349), some (.int a), v2, v3] [] h Q ↔ Q (some (.int a)) h := by
    intro h q' k' m' lnm lpm Y n42 n47 n37 a v2 v3 Q
    have SB := Y.1
    have s42 : ∀ Q, am_J (e + 3) 205 0 [some (.ref 349), some (.int (nI 42))] [] h Q ↔ Q (some (.int (nI 0))) h := fun Q => by rw [m_sign Y (by decide), show decide (mdK t n (.inl q') = mcode 42) = false from decide_eq_false n42]; rfl
    have s47 : ∀ Q, am_J (e + 3) 205 0 [some (.ref 349), some (.int (nI 47))] [] h Q ↔ Q (some (.int (nI 0))) h := fun Q => by rw [m_sign Y (by decide), show decide (mdK t n (.inl q') = mcode 47) = false from decide_eq_false n47]; rfl
    have s37 : ∀ Q, am_J (e + 3) 205 0 [some (.ref 349), some (.int (nI 37))] [] h Q ↔ Q (some (.int (nI 0))) h := fun Q => by rw [m_sign Y (by decide), show decide (mdK t n (.inl q') = mcode 37) = false from decide_eq_false n37]; rfl
    rw [g213_5]
    simp (disch := first | with_reducible assumption | omega | exact Or.inl rfl | exact Or.inr rfl | exact bI_01 | exact c_cat | exact vt_ref | exact vt_null | rfl | with_reducible repeat (first | assumption | omega | apply S_I | apply S_L | apply S_D | apply ob_I | apply ob_L | apply ob_D | apply ob_R | apply ax_I | apply ax_L | apply ax_D | apply ax_R | apply o303 | apply o307 | apply o302 | apply o301 | apply ax304 | apply ax305 | apply ax306 | apply ax308 | apply ax309 | apply ax310 | apply lt_S | apply ar305 | apply ar308 | apply ar309)) only [g213_6, g213_8, g213_11, g213_14, g213_15, g213_17, g213_20, g213_23, g213_24, g213_26, g213_29, g213_67, g213_68, s42, s47, s37, Option.toList, List.nil_append, List.cons_append, va_rf, nI_ltI, nI_leI, nI_eq, nI_add, nI_sub, nI_lt0, nI_e0, nI_m1, m1_nI, Nat.reduceEqDiff, Nat.reduceLT, Nat.reduceLeDiff, Nat.reduceAdd, Nat.reduceSub, Nat.reduceMul, ↓reduceIte, eq_self]
  have rk : ∀ K, K ∈ [37, 40, 41, 42, 43, 44, 45, 47, 58, 60, 61, 256, 257, 258, 259, 260, 261, 262, 263] → rkI K = nI 2 → K = 42 ∨ K = 47 ∨ K = 37 := by decide +kernel
  -- the loop
  have LP : ∀ rem hx1 hm1 mr1 turn v6 v2 v3 k1, 40 - k1 = rem → XF hx hx1 → MF hm hm1 m → turn + 1 ≤ k1 - k → (∃ q1 C1 P1 N1 F1 m1 W r lnx lpx lnm lpm, (q < q1 ∧ k < k1 ∧ k1 ≤ 40 ∧ m ≤ m1 ∧ m1 ≤ m + (k1 - k) ∧ r < m1 ∧ C1.length ≤ C.length + 3 * (k1 - k) ∧ P1.length ≤ P.length + (q1 - q) + 2 * (k1 - k) ∧ C.length ≤ C1.length ∧ P.length ≤ P1.length) ∧ mr1 = nI r ∧ PX hx1 t n (.inl q1) C1 P1 N1 F1 (nI k1) (nI o) lnx lpx ∧ LT lnx lpx (mgO ltx W) ∧ MX hm1 t n (.inl q1) (nI k1) (nI o) m1 lnm lpm ∧ LT lnm lpm (mgO ltm W) ∧ (∀ z, W = some z → q ≤ z.2 ∧ z.2 < q1) ∧ (W = none → ∃ D E L G, (Rp (decide (so = 2)) (knO so na vis) (tb hm1 3648) m1 (pNm so agM cnM) (pFm so on oM fnM) (k1 - k + 41 * (10 - o)) r D E L G ∧ NC (tb hm1 3648) m m1 G) ∧ C1 = C ++ D ∧ P1 = P ++ E.map nI ∧ N1 = L.foldl nadd N ∧ F1 = G.foldl gF F)) → ∃ hx' hm' mr', (∀ Q, am_J (e + 4) 77 51 [some (.ref 301), some (.int (nI 2)), some (.int (nI C.length)), some (.int (nI P.length)), some (.int (nI 40)), some (.int (nI turn)), v6] [] hx1 Q ↔ Q none hx') ∧ (∀ Q, am_J (e + 4) 213 5 [some (.ref 349), some (.int mr1), v2, v3] [] hm1 Q ↔ Q (some (.int mr')) hm') ∧ JP t n so on na vis oM agM cnM fnM hx hm hx' hm' q C P N F k o m ltx ltm mr' := by
    intro rem
    induction rem using Nat.strongRecOn with
    | ind rem ih =>
      intro hx1 hm1 mr1 turn v6 v2 v3 k1 hrem Fx1 Fm1 htn ⟨q1, C1, P1, N1, F1, m1, W, r, lnx, lpx, lnm, lpm, g1, e1, X1, LX1, Y1, LM1, hW, hR⟩
      subst e1
      by_cases hK : lx_K t n q1 = 42 ∨ lx_K t n q1 = 47 ∨ lx_K t n q1 = 37
      · obtain ⟨hx2, hm2, mr2, w6, w2, w3, Wx2, Wm2, Fx2, Fm2, J2⟩ := J_turn2 he Sub hf J Fx1 Fm1 g1 X1 LX1 Y1 LM1 hW hR hK (most := nI 40) (turn := turn) (nI_lt (by omega) (by decide)) (v6 := v6) (v2 := v2) (v3 := v3)
        rcases J2 with ⟨y, B1, BB1⟩ | ⟨q3, C3, P3, N3, F3, k3, m3, W3, r3, lnx3, lpx3, lnm3, lpm3, ⟨c1, c2, c3, c4⟩, rest⟩
        · refine ⟨hx2, hm2, mr2, fun Q => ?_, fun Q => ?_, Fx2, Fm2, Or.inl ⟨y, B1, BB1⟩⟩
          · rw [Wx2]; exact bx_exit (d := e + 3) B1 (by decide)
          · rw [Wm2]; exact mexB y hm2 BB1 mr2 w2 w3 Q
        · obtain ⟨hx', hm', mr', a1, a2, a3⟩ := ih (40 - k3) (by omega) hx2 hm2 mr2 (turn + 1) w6 w2 w3 k3 rfl Fx2 Fm2 (by omega) ⟨q3, C3, P3, N3, F3, m3, W3, r3, lnx3, lpx3, lnm3, lpm3, ⟨c1, by omega, c3, c4⟩, rest⟩
          exact ⟨hx', hm', mr', fun Q => by rw [Wx2, a1], fun Q => by rw [Wm2, a2], a3⟩
      · refine ⟨hx1, hm1, nI r, fun Q => ?_, fun Q => ?_, Fx1, Fm1, Or.inr ⟨q1, C1, P1, N1, F1, k1, m1, W, r, lnx, lpx, lnm, lpm, g1, rfl, X1, LX1, Y1, LM1, hW, hR⟩⟩
        · exact x_exit (d := e + 3) X1 (fun e => hK (rk _ (lx_K_mem t n q1) e))
        · exact mexG hm1 q1 _ m1 lnm lpm Y1 (fun e => hK (Or.inl e)) (fun e => hK (Or.inr (Or.inl e))) (fun e => hK (Or.inr (Or.inr (e)))) _ v2 v3 Q
  rcases J1 with ⟨y, B1, BB1⟩ | ⟨q1, C1, P1, N1, F1, k1, m1, W, r, lnx, lpx, lnm, lpm, g1, rest⟩
  · refine ⟨hx1, hm1, mr1, fun Q => ?_, fun Q => ?_, Fx1, Fm1, Or.inl ⟨y, B1, BB1⟩⟩
    · rw [Wx]; exact bx_exit (d := e + 3) B1 (by decide)
    · rw [Wm]; exact mexB y hm1 BB1 mr1 none none Q
  · obtain ⟨hx', hm', mr', a1, a2, a3⟩ := LP (40 - k1) hx1 hm1 mr1 0 none none none k1 rfl Fx1 Fm1 (by omega) ⟨q1, C1, P1, N1, F1, m1, W, r, lnx, lpx, lnm, lpm, g1, rest⟩
    exact ⟨hx', hm', mr', fun Q => by rw [Wx, a1], fun Q => by rw [Wm, a2], a3⟩
theorem J_lev1 (hD : 5 ≤ D) (Sub : JR t n so s vis on na nc nf oX oM agX agM cnX cnM fnX fnM fnA (lxL 2) lm3 77 213 D f) : JR t n so s vis on na nc nf oX oM agX agM cnX cnM fnX fnM fnA (lxL 1) lm3 77 212 (D + 1) f := by
  obtain ⟨e, rfl⟩ : ∃ e, D = e + 3 := ⟨D - 3, by omega⟩
  have he : 1 ≤ e := by omega
  intro hx hm q C P N F k o m ltx ltm hf J
  obtain ⟨hx1, hm1, mr1, rx1, rm1, Fx1, Fm1, J1⟩ := Sub hx hm q C P N F k o m ltx ltm hf J
  have Sx : am_S hx := by
    obtain ⟨⟨lnx, lpx, X, -⟩, -⟩ := J
    exact X.1
  have XX : ∃ lnx lpx, PX hx t n (.inl q) C P N F (nI k) (nI o) lnx lpx := by
    obtain ⟨⟨lnx, lpx, X, -⟩, -⟩ := J
    exact ⟨lnx, lpx, X⟩
  obtain ⟨lnx0, lpx0, X0⟩ := XX
  have Sm : am_S hm := by
    obtain ⟨-, ⟨lnm, lpm, Y, -⟩, -⟩ := J
    exact Y.1
  have hk40 : k ≤ 40 := by
    obtain ⟨-, -, -, -, -, -, -, -, -, hk, -⟩ := J
    exact hk
  obtain ⟨R0, R1, R2, R3, R4, R5⟩ := S303r Sx
  have zC := X0.2.2.2.1.1
  have zP := X0.2.2.2.2.1.1
  unfold lxL at rx1 ⊢
  unfold lm3 at rm1
  unfold lm3
  have Wx : ∀ Q, am_J (e + 4) 77 0 [some (.ref 301), some (.int (nI 1)), none, none, none, none, none] [] hx Q ↔ am_J (e + 4) 77 51 [some (.ref 301), some (.int (nI 1)), some (.int (nI C.length)), some (.int (nI P.length)), some (.int (nI 40)), some (.int (nI 0)), none] [] hx1 Q := by
    intro Q
    simp (disch := first | with_reducible assumption | omega | exact Or.inl rfl | exact Or.inr rfl | exact bI_01 | exact c_cat | exact vt_ref | exact vt_null | rfl | with_reducible repeat (first | assumption | omega | apply S_I | apply S_L | apply S_D | apply ob_I | apply ob_L | apply ob_D | apply ob_R | apply ax_I | apply ax_L | apply ax_D | apply ax_R | apply o303 | apply o307 | apply o302 | apply o301 | apply ax304 | apply ax305 | apply ax306 | apply ax308 | apply ax309 | apply ax310 | apply lt_S | apply ar305 | apply ar308 | apply ar309)) only [g77_0, g77_1, g77_2, g77_5, g77_6, g77_9, g77_10, g77_11, g77_14, g77_17, g77_18, g77_19, g77_22, g77_25, g77_28, g77_29, g77_30, g77_31, g77_32, g77_33, g77_36, g77_37, g77_40, g77_41, g77_44, g77_46, g77_48, g77_49, nI_ltI, nI_leI, nI_eq, nI_add, nI_sub, nI_lt0, nI_e0, nI_m1, m1_nI, Nat.reduceEqDiff, Nat.reduceLT, Nat.reduceLeDiff, Nat.reduceAdd, Nat.reduceSub, Nat.reduceMul, ↓reduceIte, eq_self, Option.toList, List.nil_append, List.cons_append, va_rf, zC, R2, zP, rx1 _]
  have Wm : ∀ Q, am_J (e + 4) 212 0 [some (.ref 349), none, none, none] [] hm Q ↔ am_J (e + 4) 212 5 [some (.ref 349), some (.int mr1), none, none] [] hm1 Q := by
    intro Q
    simp (disch := first | with_reducible assumption | omega | exact Or.inl rfl | exact Or.inr rfl | exact bI_01 | exact c_cat | exact vt_ref | exact vt_null | rfl | with_reducible repeat (first | assumption | omega | apply S_I | apply S_L | apply S_D | apply ob_I | apply ob_L | apply ob_D | apply ob_R | apply ax_I | apply ax_L | apply ax_D | apply ax_R | apply o303 | apply o307 | apply o302 | apply o301 | apply ax304 | apply ax305 | apply ax306 | apply ax308 | apply ax309 | apply ax310 | apply lt_S | apply ar305 | apply ar308 | apply ar309)) only [g212_0, g212_1, g212_4, Option.toList, List.nil_append, List.cons_append, va_rf, rm1 _]
  have mexB : ∀ y h (B : BM h t n y m) (a : Int32) (v2 v3 : Option Value) Q, am_J (e + 4) 212 5 [some (.ref 349), some (.int a), v2, v3] [] h Q ↔ Q (some (.int a)) h := by
    intro y h B a v2 v3 Q
    have SB := (bm_S B).1
    rw [g212_5]
    simp (disch := first | with_reducible assumption | omega | exact Or.inl rfl | exact Or.inr rfl | exact bI_01 | exact c_cat | exact vt_ref | exact vt_null | rfl | with_reducible repeat (first | assumption | omega | apply S_I | apply S_L | apply S_D | apply ob_I | apply ob_L | apply ob_D | apply ob_R | apply ax_I | apply ax_L | apply ax_D | apply ax_R | apply o303 | apply o307 | apply o302 | apply o301 | apply ax304 | apply ax305 | apply ax306 | apply ax308 | apply ax309 | apply ax310 | apply lt_S | apply ar305 | apply ar308 | apply ar309)) only [g212_6, g212_8, g212_11, g212_14, g212_15, g212_17, g212_20, g212_58, g212_59, bm_sign B (v := 43) (by decide), bm_sign B (v := 45) (by decide), Option.toList, List.nil_append, List.cons_append, va_rf, nI_ltI, nI_leI, nI_eq, nI_add, nI_sub, nI_lt0, nI_e0, nI_m1, m1_nI, Nat.reduceEqDiff, Nat.reduceLT, Nat.reduceLeDiff, Nat.reduceAdd, Nat.reduceSub, Nat.reduceMul, ↓reduceIte, eq_self]
  have mexG : ∀ h q' k' m' lnm lpm, MX h t n (.inl q') k' (nI o) m' lnm lpm → lx_K t n q' ≠ 43 → lx_K t n q' ≠ 45 → ∀ (a : Int32) (v2 v3 : Option Value) Q, am_J (e + 4) 212 5 [some (.ref 349), some (.int a), v2, v3] [] h Q ↔ Q (some (.int a)) h := by
    intro h q' k' m' lnm lpm Y n43 n45 a v2 v3 Q
    have SB := Y.1
    have s43 : ∀ Q, am_J (e + 3) 205 0 [some (.ref 349), some (.int (nI 43))] [] h Q ↔ Q (some (.int (nI 0))) h := fun Q => by rw [m_sign Y (by decide), show decide (mdK t n (.inl q') = mcode 43) = false from decide_eq_false n43]; rfl
    have s45 : ∀ Q, am_J (e + 3) 205 0 [some (.ref 349), some (.int (nI 45))] [] h Q ↔ Q (some (.int (nI 0))) h := fun Q => by rw [m_sign Y (by decide), show decide (mdK t n (.inl q') = mcode 45) = false from decide_eq_false n45]; rfl
    rw [g212_5]
    simp (disch := first | with_reducible assumption | omega | exact Or.inl rfl | exact Or.inr rfl | exact bI_01 | exact c_cat | exact vt_ref | exact vt_null | rfl | with_reducible repeat (first | assumption | omega | apply S_I | apply S_L | apply S_D | apply ob_I | apply ob_L | apply ob_D | apply ob_R | apply ax_I | apply ax_L | apply ax_D | apply ax_R | apply o303 | apply o307 | apply o302 | apply o301 | apply ax304 | apply ax305 | apply ax306 | apply ax308 | apply ax309 | apply ax310 | apply lt_S | apply ar305 | apply ar308 | apply ar309)) only [g212_6, g212_8, g212_11, g212_14, g212_15, g212_17, g212_20, g212_58, g212_59, s43, s45, Option.toList, List.nil_append, List.cons_append, va_rf, nI_ltI, nI_leI, nI_eq, nI_add, nI_sub, nI_lt0, nI_e0, nI_m1, m1_nI, Nat.reduceEqDiff, Nat.reduceLT, Nat.reduceLeDiff, Nat.reduceAdd, Nat.reduceSub, Nat.reduceMul, ↓reduceIte, eq_self]
  have rk : ∀ K, K ∈ [37, 40, 41, 42, 43, 44, 45, 47, 58, 60, 61, 256, 257, 258, 259, 260, 261, 262, 263] → rkI K = nI 1 → K = 43 ∨ K = 45 := by decide +kernel
  -- the loop
  have LP : ∀ rem hx1 hm1 mr1 turn v6 v2 v3 k1, 40 - k1 = rem → XF hx hx1 → MF hm hm1 m → turn + 1 ≤ k1 - k → (∃ q1 C1 P1 N1 F1 m1 W r lnx lpx lnm lpm, (q < q1 ∧ k < k1 ∧ k1 ≤ 40 ∧ m ≤ m1 ∧ m1 ≤ m + (k1 - k) ∧ r < m1 ∧ C1.length ≤ C.length + 3 * (k1 - k) ∧ P1.length ≤ P.length + (q1 - q) + 2 * (k1 - k) ∧ C.length ≤ C1.length ∧ P.length ≤ P1.length) ∧ mr1 = nI r ∧ PX hx1 t n (.inl q1) C1 P1 N1 F1 (nI k1) (nI o) lnx lpx ∧ LT lnx lpx (mgO ltx W) ∧ MX hm1 t n (.inl q1) (nI k1) (nI o) m1 lnm lpm ∧ LT lnm lpm (mgO ltm W) ∧ (∀ z, W = some z → q ≤ z.2 ∧ z.2 < q1) ∧ (W = none → ∃ D E L G, (Rp (decide (so = 2)) (knO so na vis) (tb hm1 3648) m1 (pNm so agM cnM) (pFm so on oM fnM) (k1 - k + 41 * (10 - o)) r D E L G ∧ NC (tb hm1 3648) m m1 G) ∧ C1 = C ++ D ∧ P1 = P ++ E.map nI ∧ N1 = L.foldl nadd N ∧ F1 = G.foldl gF F)) → ∃ hx' hm' mr', (∀ Q, am_J (e + 4) 77 51 [some (.ref 301), some (.int (nI 1)), some (.int (nI C.length)), some (.int (nI P.length)), some (.int (nI 40)), some (.int (nI turn)), v6] [] hx1 Q ↔ Q none hx') ∧ (∀ Q, am_J (e + 4) 212 5 [some (.ref 349), some (.int mr1), v2, v3] [] hm1 Q ↔ Q (some (.int mr')) hm') ∧ JP t n so on na vis oM agM cnM fnM hx hm hx' hm' q C P N F k o m ltx ltm mr' := by
    intro rem
    induction rem using Nat.strongRecOn with
    | ind rem ih =>
      intro hx1 hm1 mr1 turn v6 v2 v3 k1 hrem Fx1 Fm1 htn ⟨q1, C1, P1, N1, F1, m1, W, r, lnx, lpx, lnm, lpm, g1, e1, X1, LX1, Y1, LM1, hW, hR⟩
      subst e1
      by_cases hK : lx_K t n q1 = 43 ∨ lx_K t n q1 = 45
      · obtain ⟨hx2, hm2, mr2, w6, w2, w3, Wx2, Wm2, Fx2, Fm2, J2⟩ := J_turn1 he Sub hf J Fx1 Fm1 g1 X1 LX1 Y1 LM1 hW hR hK (most := nI 40) (turn := turn) (nI_lt (by omega) (by decide)) (v6 := v6) (v2 := v2) (v3 := v3)
        rcases J2 with ⟨y, B1, BB1⟩ | ⟨q3, C3, P3, N3, F3, k3, m3, W3, r3, lnx3, lpx3, lnm3, lpm3, ⟨c1, c2, c3, c4⟩, rest⟩
        · refine ⟨hx2, hm2, mr2, fun Q => ?_, fun Q => ?_, Fx2, Fm2, Or.inl ⟨y, B1, BB1⟩⟩
          · rw [Wx2]; exact bx_exit (d := e + 3) B1 (by decide)
          · rw [Wm2]; exact mexB y hm2 BB1 mr2 w2 w3 Q
        · obtain ⟨hx', hm', mr', a1, a2, a3⟩ := ih (40 - k3) (by omega) hx2 hm2 mr2 (turn + 1) w6 w2 w3 k3 rfl Fx2 Fm2 (by omega) ⟨q3, C3, P3, N3, F3, m3, W3, r3, lnx3, lpx3, lnm3, lpm3, ⟨c1, by omega, c3, c4⟩, rest⟩
          exact ⟨hx', hm', mr', fun Q => by rw [Wx2, a1], fun Q => by rw [Wm2, a2], a3⟩
      · refine ⟨hx1, hm1, nI r, fun Q => ?_, fun Q => ?_, Fx1, Fm1, Or.inr ⟨q1, C1, P1, N1, F1, k1, m1, W, r, lnx, lpx, lnm, lpm, g1, rfl, X1, LX1, Y1, LM1, hW, hR⟩⟩
        · exact x_exit (d := e + 3) X1 (fun e => hK (rk _ (lx_K_mem t n q1) e))
        · exact mexG hm1 q1 _ m1 lnm lpm Y1 (fun e => hK (Or.inl e)) (fun e => hK (Or.inr (e))) _ v2 v3 Q
  rcases J1 with ⟨y, B1, BB1⟩ | ⟨q1, C1, P1, N1, F1, k1, m1, W, r, lnx, lpx, lnm, lpm, g1, rest⟩
  · refine ⟨hx1, hm1, mr1, fun Q => ?_, fun Q => ?_, Fx1, Fm1, Or.inl ⟨y, B1, BB1⟩⟩
    · rw [Wx]; exact bx_exit (d := e + 3) B1 (by decide)
    · rw [Wm]; exact mexB y hm1 BB1 mr1 none none Q
  · obtain ⟨hx', hm', mr', a1, a2, a3⟩ := LP (40 - k1) hx1 hm1 mr1 0 none none none k1 rfl Fx1 Fm1 (by omega) ⟨q1, C1, P1, N1, F1, m1, W, r, lnx, lpx, lnm, lpm, g1, rest⟩
    exact ⟨hx', hm', mr', fun Q => by rw [Wx, a1], fun Q => by rw [Wm, a2], a3⟩
theorem J_lev0 (hD : 5 ≤ D) (Sub : JR t n so s vis on na nc nf oX oM agX agM cnX cnM fnX fnM fnA (lxL 1) lm3 77 212 D f) : JR t n so s vis on na nc nf oX oM agX agM cnX cnM fnX fnM fnA (lxL 0) lm3 77 211 (D + 1) f := by
  obtain ⟨e, rfl⟩ : ∃ e, D = e + 3 := ⟨D - 3, by omega⟩
  have he : 1 ≤ e := by omega
  intro hx hm q C P N F k o m ltx ltm hf J
  obtain ⟨hx1, hm1, mr1, rx1, rm1, Fx1, Fm1, J1⟩ := Sub hx hm q C P N F k o m ltx ltm hf J
  have Sx : am_S hx := by
    obtain ⟨⟨lnx, lpx, X, -⟩, -⟩ := J
    exact X.1
  have XX : ∃ lnx lpx, PX hx t n (.inl q) C P N F (nI k) (nI o) lnx lpx := by
    obtain ⟨⟨lnx, lpx, X, -⟩, -⟩ := J
    exact ⟨lnx, lpx, X⟩
  obtain ⟨lnx0, lpx0, X0⟩ := XX
  have Sm : am_S hm := by
    obtain ⟨-, ⟨lnm, lpm, Y, -⟩, -⟩ := J
    exact Y.1
  have hk40 : k ≤ 40 := by
    obtain ⟨-, -, -, -, -, -, -, -, -, hk, -⟩ := J
    exact hk
  obtain ⟨R0, R1, R2, R3, R4, R5⟩ := S303r Sx
  have zC := X0.2.2.2.1.1
  have zP := X0.2.2.2.2.1.1
  unfold lxL at rx1 ⊢
  unfold lm3 at rm1
  unfold lm3
  have Wx : ∀ Q, am_J (e + 4) 77 0 [some (.ref 301), some (.int (nI 0)), none, none, none, none, none] [] hx Q ↔ am_J (e + 4) 77 51 [some (.ref 301), some (.int (nI 0)), some (.int (nI C.length)), some (.int (nI P.length)), some (.int (nI 1)), some (.int (nI 0)), none] [] hx1 Q := by
    intro Q
    simp (disch := first | with_reducible assumption | omega | exact Or.inl rfl | exact Or.inr rfl | exact bI_01 | exact c_cat | exact vt_ref | exact vt_null | rfl | with_reducible repeat (first | assumption | omega | apply S_I | apply S_L | apply S_D | apply ob_I | apply ob_L | apply ob_D | apply ob_R | apply ax_I | apply ax_L | apply ax_D | apply ax_R | apply o303 | apply o307 | apply o302 | apply o301 | apply ax304 | apply ax305 | apply ax306 | apply ax308 | apply ax309 | apply ax310 | apply lt_S | apply ar305 | apply ar308 | apply ar309)) only [g77_0, g77_1, g77_2, g77_5, g77_6, g77_9, g77_10, g77_11, g77_14, g77_17, g77_18, g77_19, g77_22, g77_25, g77_28, g77_29, g77_30, g77_31, g77_32, g77_33, g77_36, g77_37, g77_40, g77_41, g77_44, g77_46, g77_48, g77_49, nI_ltI, nI_leI, nI_eq, nI_add, nI_sub, nI_lt0, nI_e0, nI_m1, m1_nI, Nat.reduceEqDiff, Nat.reduceLT, Nat.reduceLeDiff, Nat.reduceAdd, Nat.reduceSub, Nat.reduceMul, ↓reduceIte, eq_self, Option.toList, List.nil_append, List.cons_append, va_rf, zC, R2, zP, rx1 _]
  have Wm : ∀ Q, am_J (e + 4) 211 0 [some (.ref 349), none, none, none] [] hm Q ↔ am_J (e + 4) 211 5 [some (.ref 349), some (.int mr1), none, none] [] hm1 Q := by
    intro Q
    simp (disch := first | with_reducible assumption | omega | exact Or.inl rfl | exact Or.inr rfl | exact bI_01 | exact c_cat | exact vt_ref | exact vt_null | rfl | with_reducible repeat (first | assumption | omega | apply S_I | apply S_L | apply S_D | apply ob_I | apply ob_L | apply ob_D | apply ob_R | apply ax_I | apply ax_L | apply ax_D | apply ax_R | apply o303 | apply o307 | apply o302 | apply o301 | apply ax304 | apply ax305 | apply ax306 | apply ax308 | apply ax309 | apply ax310 | apply lt_S | apply ar305 | apply ar308 | apply ar309)) only [g211_0, g211_1, g211_4, Option.toList, List.nil_append, List.cons_append, va_rf, rm1 _]
  have mexB : ∀ y h (B : BM h t n y m) (a : Int32) (v2 v3 : Option Value) Q, am_J (e + 4) 211 5 [some (.ref 349), some (.int a), v2, v3] [] h Q ↔ Q (some (.int a)) h := by
    intro y h B a v2 v3 Q
    have SB := (bm_S B).1
    rw [g211_5]
    simp (disch := first | with_reducible assumption | omega | exact Or.inl rfl | exact Or.inr rfl | exact bI_01 | exact c_cat | exact vt_ref | exact vt_null | rfl | with_reducible repeat (first | assumption | omega | apply S_I | apply S_L | apply S_D | apply ob_I | apply ob_L | apply ob_D | apply ob_R | apply ax_I | apply ax_L | apply ax_D | apply ax_R | apply o303 | apply o307 | apply o302 | apply o301 | apply ax304 | apply ax305 | apply ax306 | apply ax308 | apply ax309 | apply ax310 | apply lt_S | apply ar305 | apply ar308 | apply ar309)) only [g211_6, g211_8, g211_11, g211_14, g211_15, g211_17, g211_20, g211_23, g211_24, g211_26, g211_29, g211_32, g211_33, g211_35, g211_38, g211_73, g211_74, bm_sign B (v := 60) (by decide), bm_sign B (v := 76) (by decide), bm_sign B (v := 61) (by decide), bm_sign B (v := 78) (by decide), Option.toList, List.nil_append, List.cons_append, va_rf, nI_ltI, nI_leI, nI_eq, nI_add, nI_sub, nI_lt0, nI_e0, nI_m1, m1_nI, Nat.reduceEqDiff, Nat.reduceLT, Nat.reduceLeDiff, Nat.reduceAdd, Nat.reduceSub, Nat.reduceMul, ↓reduceIte, eq_self]
  have mexG : ∀ h q' k' m' lnm lpm, MX h t n (.inl q') k' (nI o) m' lnm lpm → lx_K t n q' ≠ 60 → lx_K t n q' ≠ 256 → lx_K t n q' ≠ 61 → lx_K t n q' ≠ 257 → ∀ (a : Int32) (v2 v3 : Option Value) Q, am_J (e + 4) 211 5 [some (.ref 349), some (.int a), v2, v3] [] h Q ↔ Q (some (.int a)) h := by
    intro h q' k' m' lnm lpm Y n60 n76 n61 n78 a v2 v3 Q
    have SB := Y.1
    have s60 : ∀ Q, am_J (e + 3) 205 0 [some (.ref 349), some (.int (nI 60))] [] h Q ↔ Q (some (.int (nI 0))) h := fun Q => by rw [m_sign Y (by decide), show decide (mdK t n (.inl q') = mcode 60) = false from decide_eq_false n60]; rfl
    have s76 : ∀ Q, am_J (e + 3) 205 0 [some (.ref 349), some (.int (nI 76))] [] h Q ↔ Q (some (.int (nI 0))) h := fun Q => by rw [m_sign Y (by decide), show decide (mdK t n (.inl q') = mcode 76) = false from decide_eq_false n76]; rfl
    have s61 : ∀ Q, am_J (e + 3) 205 0 [some (.ref 349), some (.int (nI 61))] [] h Q ↔ Q (some (.int (nI 0))) h := fun Q => by rw [m_sign Y (by decide), show decide (mdK t n (.inl q') = mcode 61) = false from decide_eq_false n61]; rfl
    have s78 : ∀ Q, am_J (e + 3) 205 0 [some (.ref 349), some (.int (nI 78))] [] h Q ↔ Q (some (.int (nI 0))) h := fun Q => by rw [m_sign Y (by decide), show decide (mdK t n (.inl q') = mcode 78) = false from decide_eq_false n78]; rfl
    rw [g211_5]
    simp (disch := first | with_reducible assumption | omega | exact Or.inl rfl | exact Or.inr rfl | exact bI_01 | exact c_cat | exact vt_ref | exact vt_null | rfl | with_reducible repeat (first | assumption | omega | apply S_I | apply S_L | apply S_D | apply ob_I | apply ob_L | apply ob_D | apply ob_R | apply ax_I | apply ax_L | apply ax_D | apply ax_R | apply o303 | apply o307 | apply o302 | apply o301 | apply ax304 | apply ax305 | apply ax306 | apply ax308 | apply ax309 | apply ax310 | apply lt_S | apply ar305 | apply ar308 | apply ar309)) only [g211_6, g211_8, g211_11, g211_14, g211_15, g211_17, g211_20, g211_23, g211_24, g211_26, g211_29, g211_32, g211_33, g211_35, g211_38, g211_73, g211_74, s60, s76, s61, s78, Option.toList, List.nil_append, List.cons_append, va_rf, nI_ltI, nI_leI, nI_eq, nI_add, nI_sub, nI_lt0, nI_e0, nI_m1, m1_nI, Nat.reduceEqDiff, Nat.reduceLT, Nat.reduceLeDiff, Nat.reduceAdd, Nat.reduceSub, Nat.reduceMul, ↓reduceIte, eq_self]
  have rk : ∀ K, K ∈ [37, 40, 41, 42, 43, 44, 45, 47, 58, 60, 61, 256, 257, 258, 259, 260, 261, 262, 263] → rkI K = nI 0 → K = 60 ∨ K = 256 ∨ K = 61 ∨ K = 257 := by decide +kernel
  rcases J1 with ⟨y, B1, BB1⟩ | ⟨q1, C1, P1, N1, F1, k1, m1, W, r, lnx, lpx, lnm, lpm, g1, e1, X1, LX1, Y1, LM1, hW, hR⟩
  · refine ⟨hx1, hm1, mr1, fun Q => ?_, fun Q => ?_, Fx1, Fm1, Or.inl ⟨y, B1, BB1⟩⟩
    · rw [Wx]; exact bx_exit (d := e + 3) B1 (by decide)
    · rw [Wm]; exact mexB y hm1 BB1 mr1 none none Q
  · subst e1
    by_cases hK : lx_K t n q1 = 60 ∨ lx_K t n q1 = 256 ∨ lx_K t n q1 = 61 ∨ lx_K t n q1 = 257
    · obtain ⟨hx2, hm2, mr2, w6, w2, w3, Wx2, Wm2, Fx2, Fm2, J2⟩ := J_turn0 he Sub hf J Fx1 Fm1 g1 X1 LX1 Y1 LM1 hW hR hK (most := nI 1) (turn := 0) (by decide) (v6 := none) (v2 := none) (v3 := none)
      have SM2 : am_S hm2 := MF_S Fm2 (by obtain ⟨-, ⟨lnm, lpm, Y, -⟩, -⟩ := J; exact Y.1)
      have Sx2 : am_S hx2 := fr_S Fx2.1 Sx
      have ex2 : ∀ Q, am_J (e + 4) 77 51 [some (.ref 301), some (.int (nI 0)), some (.int (nI C.length)), some (.int (nI P.length)), some (.int (nI 1)), some (.int (nI 1)), w6] [] hx2 Q ↔ Q none hx2 := fun Q => by
        rw [g77_51]
        simp (disch := first | with_reducible assumption | omega | exact Or.inl rfl | exact Or.inr rfl | exact bI_01 | exact c_cat | exact vt_ref | exact vt_null | rfl | with_reducible repeat (first | assumption | omega | apply S_I | apply S_L | apply S_D | apply ob_I | apply ob_L | apply ob_D | apply ob_R | apply ax_I | apply ax_L | apply ax_D | apply ax_R | apply o303 | apply o307 | apply o302 | apply o301 | apply ax304 | apply ax305 | apply ax306 | apply ax308 | apply ax309 | apply ax310 | apply lt_S | apply ar305 | apply ar308 | apply ar309)) only [g77_53, g77_55, g77_163, nI_ltI, nI_leI, nI_eq, nI_add, nI_sub, nI_lt0, nI_e0, nI_m1, m1_nI, Nat.reduceEqDiff, Nat.reduceLT, Nat.reduceLeDiff, Nat.reduceAdd, Nat.reduceSub, Nat.reduceMul, ↓reduceIte, eq_self, Nat.le_refl]
      refine ⟨hx2, hm2, mr2, fun Q => ?_, fun Q => ?_, Fx2, Fm2, ?_⟩
      · rw [Wx, Wx2, ex2]
      · rw [Wm, Wm2]
        simp (disch := first | with_reducible assumption | omega | exact Or.inl rfl | exact Or.inr rfl | exact bI_01 | exact c_cat | exact vt_ref | exact vt_null | rfl | with_reducible repeat (first | assumption | omega | apply S_I | apply S_L | apply S_D | apply ob_I | apply ob_L | apply ob_D | apply ob_R | apply ax_I | apply ax_L | apply ax_D | apply ax_R | apply o303 | apply o307 | apply o302 | apply o301 | apply ax304 | apply ax305 | apply ax306 | apply ax308 | apply ax309 | apply ax310 | apply lt_S | apply ar305 | apply ar308 | apply ar309)) only [g211_73, g211_74]
      · rcases J2 with ⟨y, B1, BB1⟩ | ⟨q3, C3, P3, N3, F3, k3, m3, W3, r3, lnx3, lpx3, lnm3, lpm3, ⟨c1, c2, c3⟩, rest⟩
        · exact Or.inl ⟨y, B1, BB1⟩
        · exact Or.inr ⟨q3, C3, P3, N3, F3, k3, m3, W3, r3, lnx3, lpx3, lnm3, lpm3, ⟨c1, by omega, c3⟩, rest⟩
    · refine ⟨hx1, hm1, nI r, fun Q => ?_, fun Q => ?_, Fx1, Fm1, Or.inr ⟨q1, C1, P1, N1, F1, k1, m1, W, r, lnx, lpx, lnm, lpm, g1, rfl, X1, LX1, Y1, LM1, hW, hR⟩⟩
      · rw [Wx]; exact x_exit (d := e + 3) X1 (fun e => hK (rk _ (lx_K_mem t n q1) e))
      · rw [Wm]; exact mexG hm1 q1 _ m1 lnm lpm Y1 (fun e => hK (Or.inl e)) (fun e => hK (Or.inr (Or.inl e))) (fun e => hK (Or.inr (Or.inr (Or.inl e)))) (fun e => hK (Or.inr (Or.inr (Or.inr (e))))) _ none none Q
end JLW

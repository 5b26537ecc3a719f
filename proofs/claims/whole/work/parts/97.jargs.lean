/-! BOTH: the arguments of a function's head -/
section JAR
variable {t : Nat → Nat} {n : Nat} {p : Int32} {w1 w2 : Option Value}
theorem mdR_inr {f : Nat} {md : Nat ⊕ (Nat × Nat)} : ∃ y, mdR f md = .inr y := by
  cases md with
  | inl q => exact ⟨_, rfl⟩
  | inr y => exact ⟨_, rfl⟩
theorem mdK_sign {md : Nat ⊕ (Nat × Nat)} {c : Nat} (hc : c < 128) (h : mdK t n md = c) : ∃ q, md = .inl q ∧ lx_K t n q = c := by
  cases md with
  | inl q => exact ⟨q, rfl, h⟩
  | inr y => exact absurd (show (263 : Nat) = c from h) (by omega)
theorem LT_mgO {ln lp : Int32} {b W : Option (Nat × Nat)} {f p : Nat} (h : LT ln lp (mgO b W)) (hp : p ≤ 1000) (hf : f ≠ 0 ∧ f < 100) : LT (xlat ln lp (nI f) (nI p)).1 (xlat ln lp (nI f) (nI p)).2 (mgO b (mgO W (some (f, p)))) := by
  rw [← mgO_assoc]
  exact LT_mg h hp hf
theorem J_args (hn : n ≤ 240) : ∀ r a (hx hm : am_H) q0 lnx lpx lnm lpm W (agX agM : Nat → Int64) v2, 3 - a = r → a < 3 → PX hx t n (mdA t n (.inl q0)) [] [] [] (nI 0) (nI 0) (nI 0) lnx lpx → am_Gv hx → am_I hx 301 4 = nI a → (∀ i, i < a → am_L hx 310 i = agX i) → MX hm t n (.inl q0) (nI 0) (nI 1) 0 lnm lpm → am_I hm 349 31 = nI a → (∀ i, i < a → am_L hm 363 i = agM i) → (∀ i, i < a → NM (agX i) (agM i)) → LT lnx lpx (mgO (some (0, 2000)) W) → LT lnm lpm W → (∀ z, W = some z → z.2 ≤ 240) →
    ∃ hx1 hx', am_run 102 109 [some (.ref 301), none, none, none] hx none hx1 ∧ (∀ Q, am_J 103 108 32 [some (.ref 301), w1, w2] [] hx1 Q ↔ am_J 103 108 66 [some (.ref 301), w1, w2] [] hx' Q) ∧ XA hx hx' ∧ am_S hx1 ∧ ((∃ y hm', BX hx' t n y ∧ MHF hm hm' ∧ (∀ Q, am_J 102 200 63 [some (.ref 349), some (.int p), v2] [] hm Q ↔ Q none hm') ∧ BM hm' t n y 0 ∧ ∃ a', a' ≤ 3 ∧ am_I hx' 301 4 = nI a') ∨ ∃ hm' md' a', ∃ (agX' agM' : Nat → Int64), ∃ W' lnx' lpx' lnm' lpm' v2', a < a' ∧ a' ≤ 3 ∧ MHF hm hm' ∧ (∀ Q, am_J 102 200 63 [some (.ref 349), some (.int p), v2] [] hm Q ↔ am_J 102 200 196 [some (.ref 349), some (.int p), v2'] [] hm' Q) ∧ PX hx' t n md' [] [] [] (nI 0) (nI 0) (nI 0) lnx' lpx' ∧ MX hm' t n md' (nI 0) (nI 1) 0 lnm' lpm' ∧ am_I hx' 301 4 = nI a' ∧ (∀ i, i < a' → am_L hx' 310 i = agX' i) ∧ am_I hm' 349 31 = nI a' ∧ (∀ i, i < a' → am_L hm' 363 i = agM' i) ∧ (∀ i, i < a' → NM (agX' i) (agM' i)) ∧ LT lnx' lpx' (mgO (some (0, 2000)) W') ∧ LT lnm' lpm' W' ∧ ∀ z, W' = some z → z.2 ≤ 240) := by
  intro r
  induction r with
  | zero => intro a hx hm q0 lnx lpx lnm lpm W agX agM v2 hr ha; omega
  | succ r ih =>
    intro a hx hm q0 lnx lpx lnm lpm W agX agM v2 hr ha X Gx e4 hgX Y e31 hgM hNM LX LM hW
    obtain ⟨hx1, md1', x, rx, hN, X1, A1, e41, g1, gx1⟩ := x_arg (d := 98) X Gx ha e4 hgX
    have S1 := X1.1
    have tk1 := x_tok X1
    have tl1 := mdK_lt X1
    obtain ⟨hm1, H1, hM⟩ := m_arg1 (d := 94) (p := p) (v2 := v2) Y ha e31 hgM
    rcases hN with ⟨q, eq, hK, hw, rfl, rfl⟩ | ⟨hb, rfl, rfl⟩
    · rcases hM with ⟨hb', -⟩ | ⟨q', v2', eq', -, -, V1, Y1, e311, gm1, gmy⟩
      · rw [eq] at hb'; exact absurd ⟨hK, hw⟩ hb'
      · rw [eq] at eq'
        cases eq'
        have ef : fdI agM (lN (lx_w 32 96 t q (lx_E t n q - q))) a = fdI agX (lN (lx_w 256 0 t q (lx_E t n q - q))) a := (fdI_congr (fun i hi => NM_iff (hNM i hi) (lx_NM hK))).symm
        rw [ef] at Y1
        rw [eq] at X
        have ep : am_I hx 302 3 = nI q := X.2.2.1.1.2.2.1
        have hq : q ≤ n := X.2.2.1.2.2.1
        rw [ep, eq] at X1
        rw [eq] at tk1 tl1
        generalize ex : lN (lx_w 256 0 t q (lx_E t n q - q)) = x at X1 Y1 gx1
        generalize ey : lN (lx_w 32 96 t q (lx_E t n q - q)) = y at gmy
        have hxy : NM x y := by rw [← ex, ← ey]; exact lx_NM hK
        obtain ⟨W1, lnx1, lpx1, lnm1, lpm1, X2, Y2, LX1, LM1, hW1⟩ : ∃ W1 lnx1 lpx1 lnm1 lpm1, PX hx1 t n (mdA t n (.inl q)) [] [] [] (nI 0) (nI 0) (nI 0) lnx1 lpx1 ∧ MX hm1 t n (mdA t n (.inl q)) (nI 0) (nI 1) 0 lnm1 lpm1 ∧ LT lnx1 lpx1 (mgO (some (0, 2000)) W1) ∧ LT lnm1 lpm1 W1 ∧ ∀ z, W1 = some z → z.2 ≤ 240 := by
          by_cases c : fdI agX x a < a
          · rw [if_pos c, if_pos c] at X1 Y1
            refine ⟨mgO W (some (5, q)), _, _, _, _, X1, Y1, LT_mgO LX (by omega) (by decide), LT_mg LM (by omega), fun z hz => ?_⟩
            have := mgO_bd (a := 0) (b := 241) (c := 0) (e := 241) (fun z hz => ⟨Nat.zero_le _, by have := hW z hz; omega⟩) (fun z hz => ⟨Nat.zero_le _, by cases hz; show q < 241; omega⟩) (Nat.zero_le _) (Nat.le_refl _) z hz
            omega
          · rw [if_neg c, if_neg c] at X1 Y1
            exact ⟨W, _, _, _, _, X1, Y1, LX, LM, hW⟩
        have hgX1 : ∀ i, i < a + 1 → am_L hx1 310 i = (fun i => if i < a then agX i else x) i := fun i hi => by
          by_cases c : i < a
          · rw [g1 i c]; exact (if_pos c).symm
          · rw [show i = a by omega, gx1]; exact (if_neg (Nat.lt_irrefl _)).symm
        have hgM1 : ∀ i, i < a + 1 → am_L hm1 363 i = (fun i => if i < a then agM i else y) i := fun i hi => by
          by_cases c : i < a
          · rw [gm1 i c]; exact (if_pos c).symm
          · rw [show i = a by omega, gmy]; exact (if_neg (Nat.lt_irrefl _)).symm
        have hNM1 : ∀ i, i < a + 1 → NM ((fun i => if i < a then agX i else x) i) ((fun i => if i < a then agM i else y) i) := fun i hi => by
          by_cases c : i < a
          · show NM (if i < a then agX i else x) (if i < a then agM i else y)
            rw [if_pos c, if_pos c]; exact hNM i c
          · show NM (if i < a then agX i else x) (if i < a then agM i else y)
            rw [if_neg c, if_neg c]; exact hxy
        have T1 := Y2.1
        have sg := fun Q => m_sign (d := 101) (Q := Q) Y2 (v := 44) (by decide)
        rw [show mcode 44 = 44 from rfl] at sg
        by_cases c : mdK t n (mdA t n (.inl q)) = 44 ∧ a + 1 < 3
        · obtain ⟨q1, eq1, hK1⟩ := mdK_sign (by decide) c.1
          rw [decide_eq_true c.1] at sg
          have sg' : ∀ Q, am_J 101 205 0 [some (.ref 349), some (.int (nI 44))] [] hm1 Q ↔ Q (some (.int (nI 1))) hm1 := sg
          rw [eq1] at X2 Y2
          obtain ⟨hx2, r2, X3, F3⟩ := x_adv (d := 100) (v1 := none) X2
          have S2x := X3.1
          have Gx2 : am_Gv hx2 := Gv_fr (fr_trans A1.1 F3.1) (by unfold rX; omega) (by unfold rX; omega) (by unfold rX; omega) Gx
          obtain ⟨hx3, hx', r3, W3, A3, S3, E3⟩ := ih (a + 1) hx2 hm1 q1 lnx1 lpx1 lnm1 lpm1 W1 _ _ v2' (by omega) c.2 X3 Gx2 (by rw [F3.2.1 4 (by decide)]; exact e41) (fun i hi => by rw [F3.2.2.2 i]; exact hgX1 i hi) Y2 e311 hgM1 hNM1 LX1 LM1 hW1
          have V2 : ∀ Q, am_J 102 200 63 [some (.ref 349), some (.int p), v2] [] hm Q ↔ am_J 102 200 63 [some (.ref 349), some (.int p), v2'] [] hm1 Q := fun Q => by
            rw [V1, g200_179]
            simp (disch := first | with_reducible assumption | omega | exact Or.inl rfl | exact Or.inr rfl | exact bI_01 | exact c_cat | exact vt_ref | exact vt_null | rfl | with_reducible repeat (first | assumption | omega | apply S_I | apply S_L | apply S_D | apply ob_I | apply ob_L | apply ob_D | apply ob_R | apply ax_I | apply ax_L | apply ax_D | apply ax_R | apply o303 | apply o307 | apply o302 | apply o301 | apply ax304 | apply ax305 | apply ax306 | apply ax308 | apply ax309 | apply ax310 | apply lt_S | apply ar305 | apply ar308 | apply ar309)) only [g200_180, g200_182, g200_185, g200_188, g200_189, g200_192, g200_193, Option.toList, List.nil_append, List.cons_append, va_rf, nI_ltI, nI_leI, nI_eq, nI_add, nI_sub, nI_lt0, nI_e0, nI_m1, m1_nI, Nat.reduceEqDiff, Nat.reduceLT, Nat.reduceLeDiff, Nat.reduceAdd, Nat.reduceSub, Nat.reduceMul, ↓reduceIte, eq_self, sg' _, e311, c.2]
          refine ⟨hx1, hx', rx, fun Q => ?_, XA_trans A1 (XA_trans (XA_of F3) A3), S1, ?_⟩
          · rw [← W3, g108_32]
            simp (disch := first | with_reducible assumption | omega | exact Or.inl rfl | exact Or.inr rfl | exact bI_01 | exact c_cat | exact vt_ref | exact vt_null | rfl | with_reducible repeat (first | assumption | omega | apply S_I | apply S_L | apply S_D | apply ob_I | apply ob_L | apply ob_D | apply ob_R | apply ax_I | apply ax_L | apply ax_D | apply ax_R | apply o303 | apply o307 | apply o302 | apply o301 | apply ax304 | apply ax305 | apply ax306 | apply ax308 | apply ax309 | apply ax310 | apply lt_S | apply ar305 | apply ar308 | apply ar309)) only [g108_33, g108_36, g108_37, g108_40, g108_41, g108_44, g108_47, g108_49, g108_52, g108_53, g108_56, g108_59, g108_60, g108_63, Option.toList, List.nil_append, List.cons_append, va_rf, nI_ltI, nI_leI, nI_eq, nI_add, nI_sub, nI_lt0, nI_e0, nI_m1, m1_nI, Nat.reduceEqDiff, Nat.reduceLT, Nat.reduceLeDiff, Nat.reduceAdd, Nat.reduceSub, Nat.reduceMul, ↓reduceIte, eq_self, e41, show ¬ 3 ≤ a + 1 by omega, tk1, c.1, r2 _, r3 _]
          · rcases E3 with ⟨y', hm', B, H, V, BB, hz⟩ | ⟨hm', md', a', agX', agM', W', a1, a2, a3, a4, v2'', u1, u2, H, V, rest⟩
            · exact Or.inl ⟨y', hm', B, MHF_trans H1 H, fun Q => by rw [V2, V], BB, hz⟩
            · exact Or.inr ⟨hm', md', a', agX', agM', W', a1, a2, a3, a4, v2'', by omega, u2, MHF_trans H1 H, fun Q => by rw [V2, V], rest⟩
        · refine ⟨hx1, hx1, rx, fun Q => ?_, A1, S1, Or.inr ⟨hm1, _, a + 1, _, _, W1, lnx1, lpx1, lnm1, lpm1, v2', Nat.lt_succ_self _, by omega, H1, fun Q => ?_, X2, Y2, e41, hgX1, e311, hgM1, hNM1, LX1, LM1, hW1⟩⟩
          · rw [g108_32]
            by_cases c3 : 3 ≤ a + 1
            · simp (disch := first | with_reducible assumption | omega | exact Or.inl rfl | exact Or.inr rfl | exact bI_01 | exact c_cat | exact vt_ref | exact vt_null | rfl | with_reducible repeat (first | assumption | omega | apply S_I | apply S_L | apply S_D | apply ob_I | apply ob_L | apply ob_D | apply ob_R | apply ax_I | apply ax_L | apply ax_D | apply ax_R | apply o303 | apply o307 | apply o302 | apply o301 | apply ax304 | apply ax305 | apply ax306 | apply ax308 | apply ax309 | apply ax310 | apply lt_S | apply ar305 | apply ar308 | apply ar309)) only [g108_33, g108_36, g108_37, g108_40, g108_41, g108_44, g108_47, g108_49, g108_52, g108_53, g108_56, g108_59, g108_60, g108_63, Option.toList, List.nil_append, List.cons_append, va_rf, nI_ltI, nI_leI, nI_eq, nI_add, nI_sub, nI_lt0, nI_e0, nI_m1, m1_nI, Nat.reduceEqDiff, Nat.reduceLT, Nat.reduceLeDiff, Nat.reduceAdd, Nat.reduceSub, Nat.reduceMul, ↓reduceIte, eq_self, e41, c3]
            · have c4 : ¬ mdK t n (mdA t n (.inl q)) = 44 := fun e => c ⟨e, by omega⟩
              simp (disch := first | with_reducible assumption | omega | exact Or.inl rfl | exact Or.inr rfl | exact bI_01 | exact c_cat | exact vt_ref | exact vt_null | rfl | with_reducible repeat (first | assumption | omega | apply S_I | apply S_L | apply S_D | apply ob_I | apply ob_L | apply ob_D | apply ob_R | apply ax_I | apply ax_L | apply ax_D | apply ax_R | apply o303 | apply o307 | apply o302 | apply o301 | apply ax304 | apply ax305 | apply ax306 | apply ax308 | apply ax309 | apply ax310 | apply lt_S | apply ar305 | apply ar308 | apply ar309)) only [g108_33, g108_36, g108_37, g108_40, g108_41, g108_44, g108_47, g108_49, g108_52, g108_53, g108_56, g108_59, g108_60, g108_63, Option.toList, List.nil_append, List.cons_append, va_rf, nI_ltI, nI_leI, nI_eq, nI_add, nI_sub, nI_lt0, nI_e0, nI_m1, m1_nI, Nat.reduceEqDiff, Nat.reduceLT, Nat.reduceLeDiff, Nat.reduceAdd, Nat.reduceSub, Nat.reduceMul, ↓reduceIte, eq_self, e41, c3, tk1, c4]
          · rw [V1, g200_179]
            by_cases c4 : mdK t n (mdA t n (.inl q)) = 44
            · rw [decide_eq_true c4] at sg
              have sg' : ∀ Q, am_J 101 205 0 [some (.ref 349), some (.int (nI 44))] [] hm1 Q ↔ Q (some (.int (nI 1))) hm1 := sg
              have c3 : ¬ a + 1 < 3 := fun e => c ⟨c4, e⟩
              simp (disch := first | with_reducible assumption | omega | exact Or.inl rfl | exact Or.inr rfl | exact bI_01 | exact c_cat | exact vt_ref | exact vt_null | rfl | with_reducible repeat (first | assumption | omega | apply S_I | apply S_L | apply S_D | apply ob_I | apply ob_L | apply ob_D | apply ob_R | apply ax_I | apply ax_L | apply ax_D | apply ax_R | apply o303 | apply o307 | apply o302 | apply o301 | apply ax304 | apply ax305 | apply ax306 | apply ax308 | apply ax309 | apply ax310 | apply lt_S | apply ar305 | apply ar308 | apply ar309)) only [g200_180, g200_182, g200_185, g200_188, g200_189, g200_192, g200_193, Option.toList, List.nil_append, List.cons_append, va_rf, nI_ltI, nI_leI, nI_eq, nI_add, nI_sub, nI_lt0, nI_e0, nI_m1, m1_nI, Nat.reduceEqDiff, Nat.reduceLT, Nat.reduceLeDiff, Nat.reduceAdd, Nat.reduceSub, Nat.reduceMul, ↓reduceIte, eq_self, sg' _, e311, c3]
            · rw [decide_eq_false c4] at sg
              have sg' : ∀ Q, am_J 101 205 0 [some (.ref 349), some (.int (nI 44))] [] hm1 Q ↔ Q (some (.int (nI 0))) hm1 := sg
              simp (disch := first | with_reducible assumption | omega | exact Or.inl rfl | exact Or.inr rfl | exact bI_01 | exact c_cat | exact vt_ref | exact vt_null | rfl | with_reducible repeat (first | assumption | omega | apply S_I | apply S_L | apply S_D | apply ob_I | apply ob_L | apply ob_D | apply ob_R | apply ax_I | apply ax_L | apply ax_D | apply ax_R | apply o303 | apply o307 | apply o302 | apply o301 | apply ax304 | apply ax305 | apply ax306 | apply ax308 | apply ax309 | apply ax310 | apply lt_S | apply ar305 | apply ar308 | apply ar309)) only [g200_180, g200_182, g200_185, g200_188, g200_189, g200_192, g200_193, Option.toList, List.nil_append, List.cons_append, va_rf, nI_ltI, nI_leI, nI_eq, nI_add, nI_sub, nI_lt0, nI_e0, nI_m1, m1_nI, Nat.reduceEqDiff, Nat.reduceLT, Nat.reduceLeDiff, Nat.reduceAdd, Nat.reduceSub, Nat.reduceMul, ↓reduceIte, eq_self, sg' _]
    · rcases hM with ⟨-, V1, Y1⟩ | ⟨q', v2', eq', hK', hw', -⟩
      · obtain ⟨y, ey⟩ := mdR_inr (f := 2) (md := mdA t n (.inl q0))
        rw [ey] at X1 Y1 tk1
        have tk2 : am_I hx1 302 2 = nI 263 := tk1
        refine ⟨hx1, hx1, rx, fun Q => ?_, A1, S1, Or.inl ⟨y, hm1, BX_of X1, H1, V1, BM_of Y1 (Nat.le_refl _), a + 1, by omega, e41⟩⟩
        rw [g108_32]
        by_cases c3 : 3 ≤ a + 1
        · simp (disch := first | with_reducible assumption | omega | exact Or.inl rfl | exact Or.inr rfl | exact bI_01 | exact c_cat | exact vt_ref | exact vt_null | rfl | with_reducible repeat (first | assumption | omega | apply S_I | apply S_L | apply S_D | apply ob_I | apply ob_L | apply ob_D | apply ob_R | apply ax_I | apply ax_L | apply ax_D | apply ax_R | apply o303 | apply o307 | apply o302 | apply o301 | apply ax304 | apply ax305 | apply ax306 | apply ax308 | apply ax309 | apply ax310 | apply lt_S | apply ar305 | apply ar308 | apply ar309)) only [g108_33, g108_36, g108_37, g108_40, g108_41, g108_44, g108_47, g108_49, g108_52, g108_53, g108_56, g108_59, g108_60, g108_63, Option.toList, List.nil_append, List.cons_append, va_rf, nI_ltI, nI_leI, nI_eq, nI_add, nI_sub, nI_lt0, nI_e0, nI_m1, m1_nI, Nat.reduceEqDiff, Nat.reduceLT, Nat.reduceLeDiff, Nat.reduceAdd, Nat.reduceSub, Nat.reduceMul, ↓reduceIte, eq_self, e41, c3]
        · simp (disch := first | with_reducible assumption | omega | exact Or.inl rfl | exact Or.inr rfl | exact bI_01 | exact c_cat | exact vt_ref | exact vt_null | rfl | with_reducible repeat (first | assumption | omega | apply S_I | apply S_L | apply S_D | apply ob_I | apply ob_L | apply ob_D | apply ob_R | apply ax_I | apply ax_L | apply ax_D | apply ax_R | apply o303 | apply o307 | apply o302 | apply o301 | apply ax304 | apply ax305 | apply ax306 | apply ax308 | apply ax309 | apply ax310 | apply lt_S | apply ar305 | apply ar308 | apply ar309)) only [g108_33, g108_36, g108_37, g108_40, g108_41, g108_44, g108_47, g108_49, g108_52, g108_53, g108_56, g108_59, g108_60, g108_63, Option.toList, List.nil_append, List.cons_append, va_rf, nI_ltI, nI_leI, nI_eq, nI_add, nI_sub, nI_lt0, nI_e0, nI_m1, m1_nI, Nat.reduceEqDiff, Nat.reduceLT, Nat.reduceLeDiff, Nat.reduceAdd, Nat.reduceSub, Nat.reduceMul, ↓reduceIte, eq_self, e41, c3, tk2]
      · rw [eq'] at hb; exact absurd ⟨hK', hw'⟩ hb
end JAR

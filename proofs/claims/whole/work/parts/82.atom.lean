/-! BOTH PARSERS: an atom, and E -/
section ATM
variable {so s vis on na nc nf : Nat} {oX oM : Int64} {agX agM cnX cnM fnX fnM : Nat → Int64} {fnA : Nat → Nat} {t : Nat → Nat} {n : Nat} {D f : Nat} {d e : Nat}
variable {hx1 hm1 : am_H} {o : Nat} {ltx ltm : Option (Nat × Nat)} {v1 v2 v3 v4 v5 v6 v7 : Option Value}
variable {hx hm : am_H} {q q2 k m : Nat} {C C2 : List (Int32 × Int64)} {P P2 : List Int32} {N : List Nat} {F : Int32}
theorem J_noc (HO : FE so on na nf oM fnM fnA) (Lv : JR t n so s vis on na nc nf oX oM agX agM cnX cnM fnX fnM fnA (lxL 0) lm3 77 211 (e + 10) f) (hf : 11 ≤ f + 1 + o) (hK : lx_K t n q = 258) (J : JS t n so s vis on na nc nf oX oM agX agM cnX cnM fnX fnM fnA hx hm q C P N F k o m ltx ltm) : ∃ hx' hm' mr, am_run (e + 14) 78 [some (.ref 301)] hx none hx' ∧ am_run (e + 14) 214 [some (.ref 349), none] hm (some (.int mr)) hm' ∧ JP t n so on na vis oM agM cnM fnM hx hm hx' hm' q C P N F k o m ltx ltm mr := by
  obtain ⟨hx1, hm1, Wx, Wn, Ww, Z⟩ := st_noc (e := e) hK J
  obtain ⟨⟨lnx, lpx, X, LX0⟩, ⟨lnm, lpm, Y, LM0⟩, Gv, KX, KM, KR, hC, hP, hmk, hk, ho, hq, hn⟩ := J
  have S := X.1
  have SM := Y.1
  have tk : am_I hx 302 2 = nI (lx_K t n q) := x_tok X
  rw [hK] at tk
  obtain ⟨⟨m1', m2', m3', m4'⟩, mk, mq, f22, f4⟩ := Y.2.2.2.1
  rw [hK, show mtok 258 = 1 by decide] at m2'
  have hne : ∀ v, v ∈ [37, 40, 41, 42, 43, 44, 45, 47, 58, 60, 61, 76, 78] → decide (mdK t n (.inl q) = mcode v) = false := by
    intro v hv
    apply decide_eq_false
    show ¬ lx_K t n q = mcode v
    have : ∀ v, v ∈ [37, 40, 41, 42, 43, 44, 45, 47, 58, 60, 61, 76, 78] → mcode v < 258 := by decide
    have := this v hv
    omega
  have s45 : ∀ Q, am_J (e + 11) 205 0 [some (.ref 349), some (.int (nI 45))] [] hm Q ↔ Q (some (.int (nI 0))) hm := fun Q => by rw [m_sign Y (by decide), hne 45 (by decide)]; rfl
  have s40 : ∀ Q, am_J (e + 11) 205 0 [some (.ref 349), some (.int (nI 40))] [] hm Q ↔ Q (some (.int (nI 0))) hm := fun Q => by rw [m_sign Y (by decide), hne 40 (by decide)]; rfl
  have nT := fun Q => m_needT (d := e + 11) (Q := Q) SM
  rw [bI_t] at nT
  have wh := fun Q => m_wordHere (d := e + 6) (Q := Q) (v1 := none) (v2 := none) (v3 := none) Y hK
  have hwd : lx_wd t n q ≤ 12 := scan_le (by decide)
  by_cases c : lx_wd t n q < 12
  · rw [show xI 12 (lx_wd t n q) = nI (lx_wd t n q) from if_pos c] at wh Wx
    obtain ⟨hx', hm', mr, r1, r2, JJ⟩ := J_nocW (v1 := some (.long (lN (lx_w 256 0 t q (lx_E t n q - q))))) HO Lv hf ho hK c hC hP hmk hn Gv KX KM KR Z
    have R2 : am_run (e + 12) 214 [some (.ref 349), none] hm (some (.int mr)) hm' := fun Q => by
      simp (disch := first | with_reducible assumption | omega | exact Or.inl rfl | exact Or.inr rfl | exact bI_01 | exact c_cat | exact vt_ref | exact vt_null | rfl | with_reducible repeat (first | assumption | omega | apply S_I | apply S_L | apply S_D | apply ob_I | apply ob_L | apply ob_D | apply ob_R | apply ax_I | apply ax_L | apply ax_D | apply ax_R | apply o303 | apply o307 | apply o302 | apply o301 | apply ax304 | apply ax305 | apply ax306 | apply ax308 | apply ax309 | apply ax310 | apply lt_S | apply ar305 | apply ar308 | apply ar309)) only [g214_0, g214_1, g214_4, g214_7, g214_8, g214_9, g214_10, g214_12, g214_15, g214_93, g214_94, g214_96, g214_99, g214_133, g214_134, g214_137, g214_138, g214_141, g214_142, g214_145, g214_146, g214_149, g214_150, g214_153, g214_154, g214_155, g214_158, g214_159, g214_204, g214_205, g214_206, g214_209, g214_210, g214_213, g214_214, g214_217, g214_218, g214_221, g214_222, g214_225, g214_228, g214_229, g214_230, g214_231, g214_234, g214_235, g214_238, g214_239, g214_242, g214_245, g214_246, g214_247, g214_250, g214_253, f22, s45, s40, nT _, Option.toList, List.nil_append, List.cons_append, va_rf, m2', wh _, Ww _ _, r2 _, nI_ltI, nI_leI, nI_eq, nI_add, nI_sub, nI_lt0, nI_e0, nI_m1, m1_nI, Nat.reduceEqDiff, Nat.reduceLT, Nat.reduceLeDiff, Nat.reduceAdd, Nat.reduceSub, Nat.reduceMul, ↓reduceIte, eq_self]
    refine ⟨hx', hm', mr, fun Q => ?_, am_runD R2 (by omega), JJ⟩
    rw [g78_0, g78_1 S, g78_4 S, tk, g78_7_258]
    simp (disch := first | with_reducible assumption | omega | exact Or.inl rfl | exact Or.inr rfl | exact bI_01 | exact c_cat | exact vt_ref | exact vt_null | rfl | with_reducible repeat (first | assumption | omega | apply S_I | apply S_L | apply S_D | apply ob_I | apply ob_L | apply ob_D | apply ob_R | apply ax_I | apply ax_L | apply ax_D | apply ax_R | apply o303 | apply o307 | apply o302 | apply o301 | apply ax304 | apply ax305 | apply ax306 | apply ax308 | apply ax309 | apply ax310 | apply lt_S | apply ar305 | apply ar308 | apply ar309)) only [g78_164, g78_165, g78_168, g78_179, Option.toList, List.nil_append, List.cons_append, va_rf, Wx _, r1 _]
  · rw [show xI 12 (lx_wd t n q) = -1 from if_neg c] at wh Wx
    obtain ⟨hx', hm', mr, r1, r2, JJ⟩ := J_nocN HO Lv hf ho hK hC hP hmk hn Gv KX KM KR Z
    have R2 : am_run (e + 12) 214 [some (.ref 349), none] hm (some (.int mr)) hm' := fun Q => by
      simp (disch := first | with_reducible assumption | omega | exact Or.inl rfl | exact Or.inr rfl | exact bI_01 | exact c_cat | exact vt_ref | exact vt_null | rfl | with_reducible repeat (first | assumption | omega | apply S_I | apply S_L | apply S_D | apply ob_I | apply ob_L | apply ob_D | apply ob_R | apply ax_I | apply ax_L | apply ax_D | apply ax_R | apply o303 | apply o307 | apply o302 | apply o301 | apply ax304 | apply ax305 | apply ax306 | apply ax308 | apply ax309 | apply ax310 | apply lt_S | apply ar305 | apply ar308 | apply ar309)) only [g214_0, g214_1, g214_4, g214_7, g214_8, g214_9, g214_10, g214_12, g214_15, g214_93, g214_94, g214_96, g214_99, g214_133, g214_134, g214_137, g214_138, g214_141, g214_142, g214_145, g214_146, g214_149, g214_150, g214_153, g214_154, g214_155, g214_158, g214_159, g214_204, g214_205, g214_206, g214_209, g214_210, g214_213, g214_214, g214_217, g214_218, g214_221, g214_222, g214_225, g214_228, g214_229, g214_230, g214_231, g214_234, g214_235, g214_238, g214_239, g214_242, g214_245, g214_246, g214_247, g214_250, g214_253, f22, s45, s40, nT _, Option.toList, List.nil_append, List.cons_append, va_rf, m2', wh _, Wn _, r2 _, nI_ltI, nI_leI, nI_eq, nI_add, nI_sub, nI_lt0, nI_e0, nI_m1, m1_nI, Nat.reduceEqDiff, Nat.reduceLT, Nat.reduceLeDiff, Nat.reduceAdd, Nat.reduceSub, Nat.reduceMul, ↓reduceIte, eq_self]
    refine ⟨hx', hm', mr, fun Q => ?_, am_runD R2 (by omega), JJ⟩
    rw [g78_0, g78_1 S, g78_4 S, tk, g78_7_258]
    simp (disch := first | with_reducible assumption | omega | exact Or.inl rfl | exact Or.inr rfl | exact bI_01 | exact c_cat | exact vt_ref | exact vt_null | rfl | with_reducible repeat (first | assumption | omega | apply S_I | apply S_L | apply S_D | apply ob_I | apply ob_L | apply ob_D | apply ob_R | apply ax_I | apply ax_L | apply ax_D | apply ax_R | apply o303 | apply o307 | apply o302 | apply o301 | apply ax304 | apply ax305 | apply ax306 | apply ax308 | apply ax309 | apply ax310 | apply lt_S | apply ar305 | apply ar308 | apply ar309)) only [g78_164, g78_165, g78_168, g78_179, Option.toList, List.nil_append, List.cons_append, va_rf, Wx _, r1 _]
/-- what can't begin an atom -/
theorem J_none (hK : lx_K t n q ∉ [40, 45, 258, 259, 260, 261]) (J : JS t n so s vis on na nc nf oX oM agX agM cnX cnM fnX fnM fnA hx hm q C P N F k o m ltx ltm) : ∃ hx' hm' mr, am_run (d + 10) 78 [some (.ref 301)] hx none hx' ∧ am_run (d + 10) 214 [some (.ref 349), none] hm (some (.int mr)) hm' ∧ JP t n so on na vis oM agM cnM fnM hx hm hx' hm' q C P N F k o m ltx ltm mr := by
  obtain ⟨⟨lnx, lpx, X, LX0⟩, ⟨lnm, lpm, Y, LM0⟩, Gv, KX, KM, KR, hC, hP, hmk, hk, ho, hq, hn⟩ := J
  have S := X.1
  have SM := Y.1
  simp only [List.mem_cons, List.not_mem_nil, or_false, not_or] at hK
  have tk : am_I hx 302 2 = nI (lx_K t n q) := x_tok X
  have hk3 : lx_K t n q ≤ 263 := mdK_lt X
  obtain ⟨⟨m1', m2', m3', m4'⟩, mk, mq, f22, f4⟩ := Y.2.2.2.1
  have s45 : ∀ Q, am_J (d + 9) 205 0 [some (.ref 349), some (.int (nI 45))] [] hm Q ↔ Q (some (.int (nI 0))) hm := fun Q => by
    rw [m_sign Y (by decide), show decide (mdK t n (.inl q) = mcode 45) = false from decide_eq_false (show ¬ lx_K t n q = 45 by omega)]; rfl
  have s40 : ∀ Q, am_J (d + 9) 205 0 [some (.ref 349), some (.int (nI 40))] [] hm Q ↔ Q (some (.int (nI 0))) hm := fun Q => by
    rw [m_sign Y (by decide), show decide (mdK t n (.inl q) = mcode 40) = false from decide_eq_false (show ¬ lx_K t n q = 40 by omega)]; rfl
  have hm5 : mtok (lx_K t n q) = 0 ∨ mtok (lx_K t n q) = 5 := by
    have : ∀ K, K ∈ [37, 40, 41, 42, 43, 44, 45, 47, 58, 60, 61, 256, 257, 258, 259, 260, 261, 262, 263] → K ≠ 258 → K ≠ 259 → K ≠ 260 → K ≠ 261 → mtok K = 0 ∨ mtok K = 5 := by decide +kernel
    exact this _ (lx_K_mem t n q) (by omega) (by omega) (by omega) (by omega)
  obtain ⟨h1, r1, X1, G1⟩ := x_ref (d := d + 9) X (f := 2) (by decide) (by decide)
  obtain ⟨m1, p1, Y1, H1⟩ := m_needF (d := d + 8) Y
  rw [bI_f] at p1
  have BB1 := BM_of Y1 (Nat.le_refl m)
  obtain ⟨T1, f1, f10, f1h, f1e⟩ := bm_S BB1
  refine ⟨h1, m1, nI 0, fun Q => ?_, fun Q => ?_, G1, H1, Or.inl ⟨(2, q), BX_of X1, BB1⟩⟩
  · have Wd : am_J (d + 10) 78 7 [some (.ref 301)] [.int (nI (lx_K t n q))] hx Q ↔ am_J (d + 10) 78 171 [some (.ref 301)] [] hx Q := by
      have hmem := lx_K_mem t n q
      simp only [List.mem_cons, List.not_mem_nil, or_false] at hmem
      rcases hmem with e | e | e | e | e | e | e | e | e | e | e | e | e | e | e | e | e | e | e <;> rw [e] at hK ⊢ <;> first | omega | simp only [g78_7_37, g78_7_41, g78_7_42, g78_7_43, g78_7_44, g78_7_47, g78_7_58, g78_7_60, g78_7_61, g78_7_256, g78_7_257, g78_7_262, g78_7_263]
    rw [g78_0, g78_1 S, g78_4 S, tk, Wd]
    simp (disch := first | with_reducible assumption | omega | exact Or.inl rfl | exact Or.inr rfl | exact bI_01 | exact c_cat | exact vt_ref | exact vt_null | rfl | with_reducible repeat (first | assumption | omega | apply S_I | apply S_L | apply S_D | apply ob_I | apply ob_L | apply ob_D | apply ob_R | apply ax_I | apply ax_L | apply ax_D | apply ax_R | apply o303 | apply o307 | apply o302 | apply o301 | apply ax304 | apply ax305 | apply ax306 | apply ax308 | apply ax309 | apply ax310 | apply lt_S | apply ar305 | apply ar308 | apply ar309)) only [g78_171, g78_172, g78_175, g78_176, g78_179, Option.toList, List.nil_append, List.cons_append, va_rf, r1 _]
  · rcases hm5 with e | e <;> rw [e] at m2' <;> simp (disch := first | with_reducible assumption | omega | exact Or.inl rfl | exact Or.inr rfl | exact bI_01 | exact c_cat | exact vt_ref | exact vt_null | rfl | with_reducible repeat (first | assumption | omega | apply S_I | apply S_L | apply S_D | apply ob_I | apply ob_L | apply ob_D | apply ob_R | apply ax_I | apply ax_L | apply ax_D | apply ax_R | apply o303 | apply o307 | apply o302 | apply o301 | apply ax304 | apply ax305 | apply ax306 | apply ax308 | apply ax309 | apply ax310 | apply lt_S | apply ar305 | apply ar308 | apply ar309)) only [g214_0, g214_1, g214_4, g214_7, g214_8, g214_9, g214_10, g214_12, g214_15, g214_93, g214_94, g214_96, g214_99, g214_133, g214_134, g214_137, g214_138, g214_141, g214_142, g214_145, g214_146, g214_149, g214_150, g214_153, g214_154, g214_155, g214_158, g214_159, g214_204, g214_205, g214_206, g214_209, g214_210, g214_213, g214_214, g214_217, g214_218, g214_221, g214_222, g214_225, g214_228, g214_229, f22, s45, s40, p1 _, Option.toList, List.nil_append, List.cons_append, va_rf, m2', f1e, f10, nI_ltI, nI_leI, nI_eq, nI_add, nI_sub, nI_lt0, nI_e0, nI_m1, m1_nI, Nat.reduceEqDiff, Nat.reduceLT, Nat.reduceLeDiff, Nat.reduceAdd, Nat.reduceSub, Nat.reduceMul, ↓reduceIte, eq_self]
theorem JR_up {lx lm : am_Lo} {mx mm D' : Nat} (h : JR t n so s vis on na nc nf oX oM agX agM cnX cnM fnX fnM fnA lx lm mx mm D f) (hD : D ≤ D') : JR t n so s vis on na nc nf oX oM agX agM cnX cnM fnX fnM fnA lx lm mx mm D' f := by
  intro hx hm q C P N F k o m ltx ltm hf J
  obtain ⟨hx', hm', mr, r1, r2, JJ⟩ := h hx hm q C P N F k o m ltx ltm hf J
  exact ⟨hx', hm', mr, am_runD r1 hD, am_runD r2 hD, JJ⟩
theorem J_levels (hD : 10 ≤ D) (h : JR t n so s vis on na nc nf oX oM agX agM cnX cnM fnX fnM fnA lxA lm1 78 214 D f) : JR t n so s vis on na nc nf oX oM agX agM cnX cnM fnX fnM fnA (lxL 0) lm3 77 211 (D + 4) f :=
  J_lev0 (by omega) (J_lev1 (by omega) (J_lev2 (by omega) (J_l3 h)))
theorem J_atom (HO : FE so on na nf oM fnM fnA) : ∀ f, JR t n so s vis on na nc nf oX oM agX agM cnX cnM fnX fnM fnA lxA lm1 78 214 (10 + 8 * f) f := by
  intro f
  induction f with
  | zero =>
    intro hx hm q C P N F k o m ltx ltm hf J
    obtain ⟨-, -, -, -, -, -, -, -, -, -, ho, -⟩ := J
    omega
  | succ f ih =>
    intro hx hm q C P N F k o m ltx ltm hf J
    have Lv := J_levels (by omega) ih
    rw [show 10 + 8 * (f + 1) = 8 * f + 18 by omega]
    by_cases c1 : lx_K t n q = 40
    · obtain ⟨hx', hm', mr, r1, r2, JJ⟩ := J_group (by omega) Lv (by omega) c1 J
      exact ⟨hx', hm', mr, am_runD r1 (by omega), am_runD r2 (by omega), JJ⟩
    · by_cases c2 : lx_K t n q = 45
      · obtain ⟨hx', hm', mr, r1, r2, JJ⟩ := J_minus (by omega) ih (by omega) c2 J
        exact ⟨hx', hm', mr, am_runD r1 (by omega), am_runD r2 (by omega), JJ⟩
      · by_cases c3 : lx_K t n q = 258
        · rw [show 10 + 8 * f + 4 = (8 * f + 4) + 10 by omega] at Lv
          obtain ⟨hx', hm', mr, r1, r2, JJ⟩ := J_noc HO Lv (by omega) c3 J
          exact ⟨hx', hm', mr, r1, r2, JJ⟩
        · by_cases c4 : lx_K t n q = 259
          · exact J_ref (d := 8 * f + 8) c4 J
          · by_cases c5 : lx_K t n q = 260 ∨ lx_K t n q = 261
            · exact J_num (d := 8 * f + 8) c5 J
            · exact J_none (d := 8 * f + 8) (by simp only [List.mem_cons, List.not_mem_nil, or_false, not_or]; omega) J
/-- an E, on both sides -/
theorem J_E (HO : FE so on na nf oM fnM fnA) : JR t n so s vis on na nc nf oX oM agX agM cnX cnM fnX fnM fnA (lxL 0) lm3 77 211 102 11 := J_levels (by omega) (J_atom HO 11)
end ATM

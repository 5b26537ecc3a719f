/-! THE MODEL: root -/
theorem cm_lt0 {v : VL} (h : okV v) : (0 ≤ Op.cmpValue (Jvm.FP.dcmp (vD v) Jvm.FP.dconst0) .g) = (lt0 v = false) := by
  have n1 := okD_nn (ok_vD h)
  have n0 : am_nn Jvm.FP.dconst0 := u_nn unit0
  unfold lt0
  rw [cm_ge n1 n0, dlt_key n1 n0]
  exact propext ⟨fun q => decide_eq_false (by omega), fun q => by have := of_decide_eq_false q; omega⟩
theorem bI_eq (a b : Bool) : (bI a = bI b) = (a = b) := by cases a <;> cases b <;> decide
theorem mid_ok {l h : UInt64} {v : VL} (e : mid l h = .inl v) : okD (vD v) ∧ midD l h = vD v := by
  have e2 : midD l h = vD v := by unfold midD; rw [e]
  refine ⟨?_, e2⟩
  unfold mid gv at e
  split at e
  · split at e
    · rename_i c
      obtain rfl := Sum.inl.inj e
      exact finB_ok.mp c
    · cases e
  · cases e
section MRT
variable {h : am_H} {r : Nat} {rt : Nat → Nat} {cv : Nat → Option (Option VL)} {cs : Nat → Nat → VL} {f s b sh dp tm tmc tmf d n t gf : Nat} {as : List VL} {g g' : am_H} {σ : SR} {tt : Nat → ntT}
theorem m_rootLoop {r0 xn : Nat} {bl : Bool} (S : am_S h) (hg : gf < 8) (h1f : t + 1 ≤ tmf) (h6 : tmf ≤ 600) (er : am_I h 356 (48 + gf) = nI r0) (ert : rt (48 + gf) = r0) (hdp : dp ≤ 20) (W : dp < 20 → ∀ as', as'.length = 1 → Wk h r tt rt cv cs f (48 + gf) as' t 0 (dp + 1) tmf (d + 1) r0) :
    ∀ k i lo hi σ g v12 v13, i + k = 60 → okD lo → okD hi → σ.1 < f + 1 → MW h g r dp t σ → am_I g 349 64 = nI 0 →
    ∃ g', (∀ Q, am_J (d + 4) 253 135 [some (.ref 349), some (.int (nI s)), some (.int (nI b)), some (.int (nI sh)), some (.int (nI xn)), some (.int (nI gf)), some (.double lo), none, some (.double hi), none, some (.int (bI bl)), some (.int (nI i)), v12, v13] [] g Q ↔ Q none g') ∧ MW h g' r dp t (evRootL (apX tt rt cv cs f dp gf) bl k lo hi σ).2 ∧ AK g g' t ∧ MO h g' r (evRootL (apX tt rt cv cs f dp gf) bl k lo hi σ).1 ∧ (evRootL (apX tt rt cv cs f dp gf) bl k lo hi σ).2.1 ≤ σ.1 := by
  intro k
  induction k with
  | zero =>
    intro i lo hi σ g v12 v13 hi2 kl kh hf A sp
    have Sg := MW_S A S
    obtain rfl : i = 60 := by omega
    obtain ⟨g1, r1, A1, K1, O1⟩ := m_middle (d := d + 1) A S sp kl kh
    refine ⟨g1, fun Q => ?_, A1, K1, O1, Nat.le_refl _⟩
    rw [g253_135]
    simp (disch := first | with_reducible assumption | omega | exact Or.inl rfl | exact Or.inr rfl | exact bI_01 | exact c_cat | exact vt_ref | exact vt_null | rfl | with_reducible repeat (first | assumption | omega | apply S_I | apply S_L | apply S_D | apply ob_I | apply ob_L | apply ob_D | apply ob_R | apply ax_I | apply ax_L | apply ax_D | apply ax_R | apply o303 | apply o307 | apply o302 | apply o301 | apply ax304 | apply ax305 | apply ax306 | apply ax308 | apply ax309 | apply ax310 | apply lt_S | apply ar305 | apply ar308 | apply ar309)) only [g253_137, g253_139, g253_142, g253_143, g253_145, g253_147, g253_150, g253_152, g253_153, g253_156, g253_159, g253_160, g253_161, g253_163, g253_165, g253_168, g253_171, g253_172, g253_173, g253_176, g253_177, g253_178, g253_181, g253_182, g253_185, g253_186, g253_188, g253_191, g253_193, g253_195, g253_198, g253_200, g253_202, g253_205, g253_208, g253_209, g253_211, g253_213, g253_216, g253_218, Option.toList, List.nil_append, List.cons_append, va_rf, nI_ltI, nI_leI, nI_eq, nI_add, nI_sub, nI_lt0, nI_e0, nI_m1, m1_nI, Nat.reduceEqDiff, Nat.reduceLT, Nat.reduceLeDiff, Nat.reduceAdd, Nat.reduceSub, Nat.reduceMul, ↓reduceIte, eq_self, r1 _]
  | succ k ih =>
    intro i lo hi σ g v12 v13 hi2 kl kh hf A sp
    have Sg := MW_S A S
    obtain ⟨g1, r1, A1, K1, O1⟩ := m_middle (d := d + 1) A S sp kl kh
    have S1 := MW_S A1 S
    rw [evRootL]
    match hm : mid lo hi with
    | .inr q =>
      rw [hm] at O1
      have t0 := MO_t0 O1
      refine ⟨g1, fun Q => ?_, A1, K1, O1, Nat.le_refl _⟩
      rw [g253_135]
      simp (disch := first | with_reducible assumption | omega | exact Or.inl rfl | exact Or.inr rfl | exact bI_01 | exact c_cat | exact vt_ref | exact vt_null | rfl | with_reducible repeat (first | assumption | omega | apply S_I | apply S_L | apply S_D | apply ob_I | apply ob_L | apply ob_D | apply ob_R | apply ax_I | apply ax_L | apply ax_D | apply ax_R | apply o303 | apply o307 | apply o302 | apply o301 | apply ax304 | apply ax305 | apply ax306 | apply ax308 | apply ax309 | apply ax310 | apply lt_S | apply ar305 | apply ar308 | apply ar309)) only [g253_137, g253_139, g253_142, g253_143, g253_145, g253_147, g253_150, g253_152, g253_153, g253_156, g253_159, g253_160, g253_161, g253_163, g253_165, g253_168, g253_171, g253_172, g253_173, g253_176, g253_177, g253_178, g253_181, g253_182, g253_185, g253_186, g253_188, g253_191, g253_193, g253_195, g253_198, g253_200, g253_202, g253_205, Option.toList, List.nil_append, List.cons_append, va_rf, nI_ltI, nI_leI, nI_eq, nI_add, nI_sub, nI_lt0, nI_e0, nI_m1, m1_nI, Nat.reduceEqDiff, Nat.reduceLT, Nat.reduceLeDiff, Nat.reduceAdd, Nat.reduceSub, Nat.reduceMul, ↓reduceIte, eq_self, show ¬ 60 ≤ i by omega, r1 _, t0]
    | .inl m =>
      rw [hm] at O1
      obtain ⟨U1, sp1⟩ := O1
      obtain ⟨τ, hτ, eτ⟩ := rv_t U1
      obtain ⟨km, em⟩ := mid_ok hm
      rw [em] at r1
      obtain ⟨g2, r2, A2, K2, O2, L2⟩ := m_workOf (d := d) (x := vD m) (f := f) (tt := tt) (rt := rt) (cv := cv) (cs := cs) S hg A1 sp1 km h1f h6 er ert hf hdp W
      have S2 := MW_S A2 S
      dsimp only
      generalize wo (apX tt rt cv cs f dp gf) (vD m) σ = q at r2 A2 O2 L2 ⊢
      obtain ⟨q, σ1⟩ := q
      match q, O2 with
      | .inr q, O2 =>
        refine ⟨g2, fun Q => ?_, A2, AK_trans K1 K2, O2, L2⟩
        rw [g253_135]
        simp (disch := first | with_reducible assumption | omega | exact Or.inl rfl | exact Or.inr rfl | exact bI_01 | exact c_cat | exact vt_ref | exact vt_null | rfl | with_reducible repeat (first | assumption | omega | apply S_I | apply S_L | apply S_D | apply ob_I | apply ob_L | apply ob_D | apply ob_R | apply ax_I | apply ax_L | apply ax_D | apply ax_R | apply o303 | apply o307 | apply o302 | apply o301 | apply ax304 | apply ax305 | apply ax306 | apply ax308 | apply ax309 | apply ax310 | apply lt_S | apply ar305 | apply ar308 | apply ar309)) only [g253_137, g253_139, g253_142, g253_143, g253_145, g253_147, g253_150, g253_152, g253_153, g253_156, g253_159, g253_160, g253_161, g253_163, g253_165, g253_168, g253_171, g253_172, g253_173, g253_176, g253_177, g253_178, g253_181, g253_182, g253_185, g253_186, g253_188, g253_191, g253_193, g253_195, g253_198, g253_200, g253_202, g253_205, Option.toList, List.nil_append, List.cons_append, va_rf, nI_ltI, nI_leI, nI_eq, nI_add, nI_sub, nI_lt0, nI_e0, nI_m1, m1_nI, Nat.reduceEqDiff, Nat.reduceLT, Nat.reduceLeDiff, Nat.reduceAdd, Nat.reduceSub, Nat.reduceMul, ↓reduceIte, eq_self, show ¬ 60 ≤ i by omega, r1 _, eτ, show ¬ τ = 0 by omega, r2 _, okN]
      | .inl v, ⟨U2, sp2⟩ =>
        have rl := m_real (d := d + 3) S2 U2
        have cl := cm_lt0 (rv_ok U2)
        dsimp only
        have step : ∀ lo' hi' Q, ((lt0 v = bl ∧ lo' = vD m ∧ hi' = hi) ∨ (lt0 v ≠ bl ∧ lo' = lo ∧ hi' = vD m)) → (am_J (d + 4) 253 135 [some (.ref 349), some (.int (nI s)), some (.int (nI b)), some (.int (nI sh)), some (.int (nI xn)), some (.int (nI gf)), some (.double lo), none, some (.double hi), none, some (.int (bI bl)), some (.int (nI i)), v12, v13] [] g Q ↔ am_J (d + 4) 253 135 [some (.ref 349), some (.int (nI s)), some (.int (nI b)), some (.int (nI sh)), some (.int (nI xn)), some (.int (nI gf)), some (.double lo'), none, some (.double hi'), none, some (.int (bI bl)), some (.int (nI (i + 1))), some (.double (vD m)), none] [] g2 Q) := fun lo' hi' Q hc => by
          rw [g253_135]
          cases hb : lt0 v with
          | true =>
            rw [hb] at cl hc
            rcases hc with ⟨c1, rfl, rfl⟩ | ⟨c1, rfl, rfl⟩
            · have e1 : (nI 1 = bI bl) = True := eq_true (by rw [← c1]; rfl)
              simp (disch := first | with_reducible assumption | omega | exact Or.inl rfl | exact Or.inr rfl | exact bI_01 | exact c_cat | exact vt_ref | exact vt_null | rfl | with_reducible repeat (first | assumption | omega | apply S_I | apply S_L | apply S_D | apply ob_I | apply ob_L | apply ob_D | apply ob_R | apply ax_I | apply ax_L | apply ax_D | apply ax_R | apply o303 | apply o307 | apply o302 | apply o301 | apply ax304 | apply ax305 | apply ax306 | apply ax308 | apply ax309 | apply ax310 | apply lt_S | apply ar305 | apply ar308 | apply ar309)) only [g253_137, g253_139, g253_142, g253_143, g253_145, g253_147, g253_150, g253_152, g253_153, g253_156, g253_159, g253_160, g253_161, g253_163, g253_165, g253_168, g253_171, g253_172, g253_173, g253_176, g253_177, g253_178, g253_181, g253_182, g253_185, g253_186, g253_188, g253_191, g253_193, g253_195, g253_198, g253_200, g253_202, g253_205, Option.toList, List.nil_append, List.cons_append, va_rf, nI_ltI, nI_leI, nI_eq, nI_add, nI_sub, nI_lt0, nI_e0, nI_m1, m1_nI, Nat.reduceEqDiff, Nat.reduceLT, Nat.reduceLeDiff, Nat.reduceAdd, Nat.reduceSub, Nat.reduceMul, ↓reduceIte, eq_self, show ¬ 60 ≤ i by omega, r1 _, eτ, show ¬ τ = 0 by omega, r2 _, okN, rl _, cl, e1, Bool.true_eq_false]
            · have e1 : (nI 1 = bI bl) = False := eq_false (fun q => c1 ((bI_eq true bl).mp q))
              simp (disch := first | with_reducible assumption | omega | exact Or.inl rfl | exact Or.inr rfl | exact bI_01 | exact c_cat | exact vt_ref | exact vt_null | rfl | with_reducible repeat (first | assumption | omega | apply S_I | apply S_L | apply S_D | apply ob_I | apply ob_L | apply ob_D | apply ob_R | apply ax_I | apply ax_L | apply ax_D | apply ax_R | apply o303 | apply o307 | apply o302 | apply o301 | apply ax304 | apply ax305 | apply ax306 | apply ax308 | apply ax309 | apply ax310 | apply lt_S | apply ar305 | apply ar308 | apply ar309)) only [g253_137, g253_139, g253_142, g253_143, g253_145, g253_147, g253_150, g253_152, g253_153, g253_156, g253_159, g253_160, g253_161, g253_163, g253_165, g253_168, g253_171, g253_172, g253_173, g253_176, g253_177, g253_178, g253_181, g253_182, g253_185, g253_186, g253_188, g253_191, g253_193, g253_195, g253_198, g253_200, g253_202, g253_205, Option.toList, List.nil_append, List.cons_append, va_rf, nI_ltI, nI_leI, nI_eq, nI_add, nI_sub, nI_lt0, nI_e0, nI_m1, m1_nI, Nat.reduceEqDiff, Nat.reduceLT, Nat.reduceLeDiff, Nat.reduceAdd, Nat.reduceSub, Nat.reduceMul, ↓reduceIte, eq_self, show ¬ 60 ≤ i by omega, r1 _, eτ, show ¬ τ = 0 by omega, r2 _, okN, rl _, cl, e1, Bool.true_eq_false]
          | false =>
            rw [hb] at cl hc
            rcases hc with ⟨c1, rfl, rfl⟩ | ⟨c1, rfl, rfl⟩
            · have e1 : (nI 0 = bI bl) = True := eq_true (by rw [← c1]; rfl)
              simp (disch := first | with_reducible assumption | omega | exact Or.inl rfl | exact Or.inr rfl | exact bI_01 | exact c_cat | exact vt_ref | exact vt_null | rfl | with_reducible repeat (first | assumption | omega | apply S_I | apply S_L | apply S_D | apply ob_I | apply ob_L | apply ob_D | apply ob_R | apply ax_I | apply ax_L | apply ax_D | apply ax_R | apply o303 | apply o307 | apply o302 | apply o301 | apply ax304 | apply ax305 | apply ax306 | apply ax308 | apply ax309 | apply ax310 | apply lt_S | apply ar305 | apply ar308 | apply ar309)) only [g253_137, g253_139, g253_142, g253_143, g253_145, g253_147, g253_150, g253_152, g253_153, g253_156, g253_159, g253_160, g253_161, g253_163, g253_165, g253_168, g253_171, g253_172, g253_173, g253_176, g253_177, g253_178, g253_181, g253_182, g253_185, g253_186, g253_188, g253_191, g253_193, g253_195, g253_198, g253_200, g253_202, g253_205, Option.toList, List.nil_append, List.cons_append, va_rf, nI_ltI, nI_leI, nI_eq, nI_add, nI_sub, nI_lt0, nI_e0, nI_m1, m1_nI, Nat.reduceEqDiff, Nat.reduceLT, Nat.reduceLeDiff, Nat.reduceAdd, Nat.reduceSub, Nat.reduceMul, ↓reduceIte, eq_self, show ¬ 60 ≤ i by omega, r1 _, eτ, show ¬ τ = 0 by omega, r2 _, okN, rl _, cl, e1]
            · have e1 : (nI 0 = bI bl) = False := eq_false (fun q => c1 ((bI_eq false bl).mp q))
              simp (disch := first | with_reducible assumption | omega | exact Or.inl rfl | exact Or.inr rfl | exact bI_01 | exact c_cat | exact vt_ref | exact vt_null | rfl | with_reducible repeat (first | assumption | omega | apply S_I | apply S_L | apply S_D | apply ob_I | apply ob_L | apply ob_D | apply ob_R | apply ax_I | apply ax_L | apply ax_D | apply ax_R | apply o303 | apply o307 | apply o302 | apply o301 | apply ax304 | apply ax305 | apply ax306 | apply ax308 | apply ax309 | apply ax310 | apply lt_S | apply ar305 | apply ar308 | apply ar309)) only [g253_137, g253_139, g253_142, g253_143, g253_145, g253_147, g253_150, g253_152, g253_153, g253_156, g253_159, g253_160, g253_161, g253_163, g253_165, g253_168, g253_171, g253_172, g253_173, g253_176, g253_177, g253_178, g253_181, g253_182, g253_185, g253_186, g253_188, g253_191, g253_193, g253_195, g253_198, g253_200, g253_202, g253_205, Option.toList, List.nil_append, List.cons_append, va_rf, nI_ltI, nI_leI, nI_eq, nI_add, nI_sub, nI_lt0, nI_e0, nI_m1, m1_nI, Nat.reduceEqDiff, Nat.reduceLT, Nat.reduceLeDiff, Nat.reduceAdd, Nat.reduceSub, Nat.reduceMul, ↓reduceIte, eq_self, show ¬ 60 ≤ i by omega, r1 _, eτ, show ¬ τ = 0 by omega, r2 _, okN, rl _, cl, e1]
        by_cases hc : lt0 v = bl
        · rw [if_pos hc]
          obtain ⟨g3, r3, A3, K3, O3, L3⟩ := ih (i + 1) (vD m) hi σ1 g2 (some (.double (vD m))) none (by omega) km kh (Nat.lt_of_le_of_lt L2 hf) A2 sp2
          exact ⟨g3, fun Q => (step _ _ Q (Or.inl ⟨hc, rfl, rfl⟩)).trans (r3 Q), A3, AK_trans K1 (AK_trans K2 K3), O3, Nat.le_trans L3 L2⟩
        · rw [if_neg hc]
          obtain ⟨g3, r3, A3, K3, O3, L3⟩ := ih (i + 1) lo (vD m) σ1 g2 (some (.double (vD m))) none (by omega) kl km (Nat.lt_of_le_of_lt L2 hf) A2 sp2
          exact ⟨g3, fun Q => (step _ _ Q (Or.inr ⟨hc, rfl, rfl⟩)).trans (r3 Q), A3, AK_trans K1 (AK_trans K2 K3), O3, Nat.le_trans L3 L2⟩
theorem nd_root {i j r0 : Nat} (S : am_S h) (hs : s < 77) (hn : n < 48) (hi : i < 48) (hj : j < 48) (hg : gf < 8) (hdp : dp ≤ 20) (ht : tb h (48 * s) n = (nI 9, nI i, nI j, -1, lN gf)) (h1c : tm ≤ tmc) (h1f : tm + 1 ≤ tmf) (h6 : tmf ≤ 600) (er : am_I h 356 (48 + gf) = nI r0) (ert : rt (48 + gf) = r0) (W : Wk h r (fun s => tb h (48 * s)) rt cv cs f s as b sh dp tmc (d + 3) i) (W2 : Wk h r (fun s => tb h (48 * s)) rt cv cs f s as b sh dp tmc (d + 3) j) (WF : ∀ as' t, as'.length = 1 → dp < 20 → Wk h r (fun s => tb h (48 * s)) rt cv cs f (48 + gf) as' t 0 (dp + 1) tmf (d + 1) r0) : Nd h r (fun s => tb h (48 * s)) rt cv cs f s as b sh dp tm (d + 5) n := by
  intro t g σ h1 h2 h3 A sp V
  have Sg := MW_S A S
  obtain ⟨u1, u2, -, -, u5⟩ := mw_nd A ht
  have e : evX (fun s => tb h (48 * s)) rt cv cs f s as sh dp n σ = andThen (ev (fun s => tb h (48 * s)) rt cv cs f s as sh dp i σ) (fun u σ => andThen (ev (fun s => tb h (48 * s)) rt cv cs f s as sh dp j σ) (fun v σ => evRoot (apX (fun s => tb h (48 * s)) rt cv cs f dp gf) (vD u) (vD v) σ)) := by
    unfold evX evN
    simp (disch := omega) only [ht, nI_eq, Nat.reduceEqDiff, ↓reduceIte, xN_n, lN_i8]
    rfl
  rw [e]
  obtain ⟨g1, r1, A1, K1, O1, L1⟩ := W t g σ (by omega) h2 h3 A sp V
  have S1 := MW_S A1 S
  obtain ⟨-, -, y3, -, -⟩ := mw_nd A1 ht
  generalize ev (fun s => tb h (48 * s)) rt cv cs f s as sh dp i σ = q at A1 O1 L1 ⊢
  obtain ⟨q, σ1⟩ := q
  match q, O1 with
  | .inr q, O1 =>
    have t0 := MO_t0 O1
    refine ⟨g1, fun Q => ?_, A1, K1, O1, L1⟩
    simp (disch := first | with_reducible assumption | omega | exact Or.inl rfl | exact Or.inr rfl | exact bI_01 | exact c_cat | exact vt_ref | exact vt_null | rfl | with_reducible repeat (first | assumption | omega | apply S_I | apply S_L | apply S_D | apply ob_I | apply ob_L | apply ob_D | apply ob_R | apply ax_I | apply ax_L | apply ax_D | apply ax_R | apply o303 | apply o307 | apply o302 | apply o301 | apply ax304 | apply ax305 | apply ax306 | apply ax308 | apply ax309 | apply ax310 | apply lt_S | apply ar305 | apply ar308 | apply ar309)) only [g241_8, g241_10, g241_11, g241_12, g241_14, g241_15, g241_17, g241_18, g241_21, g241_23, g241_24_9, g241_281, g241_282, g241_283, g241_284, g241_285, g241_287, g241_290, g253_0, g253_1, g253_4, g253_6, g253_7, g253_8, g253_10, g253_11, g253_12, g253_13, g253_14, g253_15, g253_18, g253_20, g253_21, g253_24, g253_25, g253_28, g253_31, g253_32, g253_33, g253_36, g253_38, g253_39, g253_40, g253_41, g253_42, g253_43, g253_46, g253_48, g253_49, g253_52, g253_53, g253_56, g253_59, g253_60, g253_61, g253_64, g253_66, g253_67, g253_69, g253_71, g253_74, g253_77, g253_78, g253_79, g253_82, g253_83, g253_84, g253_87, g253_88, g253_91, g253_92, g253_94, g253_95, g253_97, g253_99, g253_102, g253_105, g253_106, g253_107, g253_110, g253_111, g253_112, g253_115, g253_116, g253_119, g253_120, g253_122, g253_125, g253_126, g253_128, g253_131, g253_132, Option.toList, List.nil_append, List.cons_append, va_rf, nI_ltI, nI_leI, nI_eq, nI_add, nI_sub, nI_lt0, nI_e0, nI_m1, m1_nI, Nat.reduceEqDiff, Nat.reduceLT, Nat.reduceLeDiff, Nat.reduceAdd, Nat.reduceSub, Nat.reduceMul, ↓reduceIte, eq_self, nI_mul, u1, u2, u5, lN_i8, r1 _, t0]
  | .inl u, ⟨U, sp1⟩ =>
    obtain ⟨τ, hτ, eτ⟩ := rv_t U
    have rl1 := m_real (d := d + 3) S1 U
    obtain ⟨g2, r2, A2, K2, O2, L2⟩ := W2 t g1 σ1 (by omega) h2 (Nat.lt_of_le_of_lt L1 h3) A1 sp1 (AV_keep V K1 h2)
    have S2 := MW_S A2 S
    dsimp only [andThen]
    generalize ev (fun s => tb h (48 * s)) rt cv cs f s as sh dp j σ1 = p at A2 O2 L2 ⊢
    obtain ⟨p, σ2⟩ := p
    match p, O2 with
    | .inr q, O2 =>
      have t0 := MO_t0 O2
      refine ⟨g2, fun Q => ?_, A2, AK_trans K1 K2, O2, Nat.le_trans L2 L1⟩
      simp (disch := first | with_reducible assumption | omega | exact Or.inl rfl | exact Or.inr rfl | exact bI_01 | exact c_cat | exact vt_ref | exact vt_null | rfl | with_reducible repeat (first | assumption | omega | apply S_I | apply S_L | apply S_D | apply ob_I | apply ob_L | apply ob_D | apply ob_R | apply ax_I | apply ax_L | apply ax_D | apply ax_R | apply o303 | apply o307 | apply o302 | apply o301 | apply ax304 | apply ax305 | apply ax306 | apply ax308 | apply ax309 | apply ax310 | apply lt_S | apply ar305 | apply ar308 | apply ar309)) only [g241_8, g241_10, g241_11, g241_12, g241_14, g241_15, g241_17, g241_18, g241_21, g241_23, g241_24_9, g241_281, g241_282, g241_283, g241_284, g241_285, g241_287, g241_290, g253_0, g253_1, g253_4, g253_6, g253_7, g253_8, g253_10, g253_11, g253_12, g253_13, g253_14, g253_15, g253_18, g253_20, g253_21, g253_24, g253_25, g253_28, g253_31, g253_32, g253_33, g253_36, g253_38, g253_39, g253_40, g253_41, g253_42, g253_43, g253_46, g253_48, g253_49, g253_52, g253_53, g253_56, g253_59, g253_60, g253_61, g253_64, g253_66, g253_67, g253_69, g253_71, g253_74, g253_77, g253_78, g253_79, g253_82, g253_83, g253_84, g253_87, g253_88, g253_91, g253_92, g253_94, g253_95, g253_97, g253_99, g253_102, g253_105, g253_106, g253_107, g253_110, g253_111, g253_112, g253_115, g253_116, g253_119, g253_120, g253_122, g253_125, g253_126, g253_128, g253_131, g253_132, Option.toList, List.nil_append, List.cons_append, va_rf, nI_ltI, nI_leI, nI_eq, nI_add, nI_sub, nI_lt0, nI_e0, nI_m1, m1_nI, Nat.reduceEqDiff, Nat.reduceLT, Nat.reduceLeDiff, Nat.reduceAdd, Nat.reduceSub, Nat.reduceMul, ↓reduceIte, eq_self, nI_mul, u1, u2, u5, y3, lN_i8, r1 _, eτ, show ¬ τ = 0 by omega, rl1 _, r2 _, t0]
    | .inl v, ⟨U2, sp2⟩ =>
      obtain ⟨τ2, hτ2, eτ2⟩ := rv_t U2
      have rl2 := m_real (d := d + 3) S2 U2
      have ku := ok_vD (rv_ok U)
      have kv := ok_vD (rv_ok U2)
      have hf2 : σ2.1 < f + 1 := Nat.lt_succ_of_lt (Nat.lt_of_le_of_lt (Nat.le_trans L2 L1) h3)
      have WF' := fun (c : dp < 20) as' (hl : as'.length = 1) => WF as' t hl c
      have K02 := AK_trans K1 K2
      have L02 := Nat.le_trans L2 L1
      obtain ⟨g3, r3, A3, K3, O3, L3⟩ := m_workOf (d := d) (x := vD u) (f := f) (tt := fun s => tb h (48 * s)) (rt := rt) (cv := cv) (cs := cs) (tmf := tmf) S hg A2 sp2 ku (by omega) h6 er ert hf2 hdp WF'
      have S3 := MW_S A3 S
      dsimp only
      unfold evRoot
      generalize wo (apX (fun s => tb h (48 * s)) rt cv cs f dp gf) (vD u) σ2 = w3 at r3 A3 O3 L3 ⊢
      obtain ⟨w3, σ3⟩ := w3
      match w3, O3 with
      | .inr q, O3 =>
        refine ⟨g3, fun Q => ?_, A3, AK_trans K02 K3, O3, Nat.le_trans L3 L02⟩
        simp (disch := first | with_reducible assumption | omega | exact Or.inl rfl | exact Or.inr rfl | exact bI_01 | exact c_cat | exact vt_ref | exact vt_null | rfl | with_reducible repeat (first | assumption | omega | apply S_I | apply S_L | apply S_D | apply ob_I | apply ob_L | apply ob_D | apply ob_R | apply ax_I | apply ax_L | apply ax_D | apply ax_R | apply o303 | apply o307 | apply o302 | apply o301 | apply ax304 | apply ax305 | apply ax306 | apply ax308 | apply ax309 | apply ax310 | apply lt_S | apply ar305 | apply ar308 | apply ar309)) only [g241_8, g241_10, g241_11, g241_12, g241_14, g241_15, g241_17, g241_18, g241_21, g241_23, g241_24_9, g241_281, g241_282, g241_283, g241_284, g241_285, g241_287, g241_290, g253_0, g253_1, g253_4, g253_6, g253_7, g253_8, g253_10, g253_11, g253_12, g253_13, g253_14, g253_15, g253_18, g253_20, g253_21, g253_24, g253_25, g253_28, g253_31, g253_32, g253_33, g253_36, g253_38, g253_39, g253_40, g253_41, g253_42, g253_43, g253_46, g253_48, g253_49, g253_52, g253_53, g253_56, g253_59, g253_60, g253_61, g253_64, g253_66, g253_67, g253_69, g253_71, g253_74, g253_77, g253_78, g253_79, g253_82, g253_83, g253_84, g253_87, g253_88, g253_91, g253_92, g253_94, g253_95, g253_97, g253_99, g253_102, g253_105, g253_106, g253_107, g253_110, g253_111, g253_112, g253_115, g253_116, g253_119, g253_120, g253_122, g253_125, g253_126, g253_128, g253_131, g253_132, Option.toList, List.nil_append, List.cons_append, va_rf, nI_ltI, nI_leI, nI_eq, nI_add, nI_sub, nI_lt0, nI_e0, nI_m1, m1_nI, Nat.reduceEqDiff, Nat.reduceLT, Nat.reduceLeDiff, Nat.reduceAdd, Nat.reduceSub, Nat.reduceMul, ↓reduceIte, eq_self, nI_mul, u1, u2, u5, y3, lN_i8, r1 _, eτ, show ¬ τ = 0 by omega, rl1 _, r2 _, eτ2, show ¬ τ2 = 0 by omega, rl2 _, r3 _, okN]
      | .inl p1, ⟨U3, sp3⟩ =>
        have rl3 := m_real (d := d + 3) S3 U3
        have cl3 := cm_lt0 (rv_ok U3)
        obtain ⟨g4, r4, A4, K4, O4, L4⟩ := m_workOf (d := d) (x := vD v) (f := f) (tt := fun s => tb h (48 * s)) (rt := rt) (cv := cv) (cs := cs) (tmf := tmf) S hg A3 sp3 kv (by omega) h6 er ert (Nat.lt_of_le_of_lt L3 hf2) hdp WF'
        have S4 := MW_S A4 S
        dsimp only
        generalize wo (apX (fun s => tb h (48 * s)) rt cv cs f dp gf) (vD v) σ3 = w4 at r4 A4 O4 L4 ⊢
        obtain ⟨w4, σ4⟩ := w4
        have L04 := Nat.le_trans L4 (Nat.le_trans L3 L02)
        have K04 := AK_trans K02 (AK_trans K3 K4)
        -- up to the asking of the high end
        have seg : ∀ Q, am_J (d + 5) 241 8 [some (.ref 349), some (.int (nI s)), some (.int (nI b)), some (.int (nI sh)), some (.int (nI n)), none, none, none, none, none, none] [] g Q ↔ am_J (d + 4) 253 102 [some (.ref 349), some (.int (nI s)), some (.int (nI b)), some (.int (nI sh)), some (.int (nI (48 * s + n))), some (.int (nI gf)), some (.double (vD u)), none, some (.double (vD v)), none, some (.int (bI (lt0 p1))), none, none, none] [.int (nI (okN w4))] g4 (fun r h' => am_J (d + 5) 241 290 [some (.ref 349), some (.int (nI s)), some (.int (nI b)), some (.int (nI sh)), some (.int (nI n)), some (.int (nI (48 * s + n))), none, none, none, none, none] (r.toList ++ []) h' Q) := fun Q => by
          cases hb : lt0 p1 with
          | true =>
            rw [hb] at cl3
            simp (disch := first | with_reducible assumption | omega | exact Or.inl rfl | exact Or.inr rfl | exact bI_01 | exact c_cat | exact vt_ref | exact vt_null | rfl | with_reducible repeat (first | assumption | omega | apply S_I | apply S_L | apply S_D | apply ob_I | apply ob_L | apply ob_D | apply ob_R | apply ax_I | apply ax_L | apply ax_D | apply ax_R | apply o303 | apply o307 | apply o302 | apply o301 | apply ax304 | apply ax305 | apply ax306 | apply ax308 | apply ax309 | apply ax310 | apply lt_S | apply ar305 | apply ar308 | apply ar309)) only [g241_8, g241_10, g241_11, g241_12, g241_14, g241_15, g241_17, g241_18, g241_21, g241_23, g241_24_9, g241_281, g241_282, g241_283, g241_284, g241_285, g241_287, g253_0, g253_1, g253_4, g253_6, g253_7, g253_8, g253_10, g253_11, g253_12, g253_13, g253_14, g253_15, g253_18, g253_20, g253_21, g253_24, g253_25, g253_28, g253_31, g253_32, g253_33, g253_36, g253_38, g253_39, g253_40, g253_41, g253_42, g253_43, g253_46, g253_48, g253_49, g253_52, g253_53, g253_56, g253_59, g253_60, g253_61, g253_64, g253_66, g253_67, g253_69, g253_71, g253_74, g253_77, g253_78, g253_79, g253_82, g253_83, g253_84, g253_87, g253_88, g253_91, g253_92, g253_94, g253_95, g253_97, g253_99, Option.toList, List.nil_append, List.cons_append, va_rf, nI_ltI, nI_leI, nI_eq, nI_add, nI_sub, nI_lt0, nI_e0, nI_m1, m1_nI, Nat.reduceEqDiff, Nat.reduceLT, Nat.reduceLeDiff, Nat.reduceAdd, Nat.reduceSub, Nat.reduceMul, ↓reduceIte, eq_self, nI_mul, u1, u2, u5, y3, lN_i8, r1 _, eτ, show ¬ τ = 0 by omega, rl1 _, r2 _, eτ2, show ¬ τ2 = 0 by omega, rl2 _, r3 _, okN, rl3 _, cl3, r4 _, bI_t, Bool.true_eq_false]
          | false =>
            rw [hb] at cl3
            simp (disch := first | with_reducible assumption | omega | exact Or.inl rfl | exact Or.inr rfl | exact bI_01 | exact c_cat | exact vt_ref | exact vt_null | rfl | with_reducible repeat (first | assumption | omega | apply S_I | apply S_L | apply S_D | apply ob_I | apply ob_L | apply ob_D | apply ob_R | apply ax_I | apply ax_L | apply ax_D | apply ax_R | apply o303 | apply o307 | apply o302 | apply o301 | apply ax304 | apply ax305 | apply ax306 | apply ax308 | apply ax309 | apply ax310 | apply lt_S | apply ar305 | apply ar308 | apply ar309)) only [g241_8, g241_10, g241_11, g241_12, g241_14, g241_15, g241_17, g241_18, g241_21, g241_23, g241_24_9, g241_281, g241_282, g241_283, g241_284, g241_285, g241_287, g253_0, g253_1, g253_4, g253_6, g253_7, g253_8, g253_10, g253_11, g253_12, g253_13, g253_14, g253_15, g253_18, g253_20, g253_21, g253_24, g253_25, g253_28, g253_31, g253_32, g253_33, g253_36, g253_38, g253_39, g253_40, g253_41, g253_42, g253_43, g253_46, g253_48, g253_49, g253_52, g253_53, g253_56, g253_59, g253_60, g253_61, g253_64, g253_66, g253_67, g253_69, g253_71, g253_74, g253_77, g253_78, g253_79, g253_82, g253_83, g253_84, g253_87, g253_88, g253_91, g253_92, g253_94, g253_95, g253_97, g253_99, Option.toList, List.nil_append, List.cons_append, va_rf, nI_ltI, nI_leI, nI_eq, nI_add, nI_sub, nI_lt0, nI_e0, nI_m1, m1_nI, Nat.reduceEqDiff, Nat.reduceLT, Nat.reduceLeDiff, Nat.reduceAdd, Nat.reduceSub, Nat.reduceMul, ↓reduceIte, eq_self, nI_mul, u1, u2, u5, y3, lN_i8, r1 _, eτ, show ¬ τ = 0 by omega, rl1 _, r2 _, eτ2, show ¬ τ2 = 0 by omega, rl2 _, r3 _, okN, rl3 _, cl3, r4 _, bI_f]
        match w4, O4 with
        | .inr q, O4 =>
          refine ⟨g4, fun Q => ?_, A4, K04, O4, L04⟩
          rw [seg]
          simp (disch := first | with_reducible assumption | omega | exact Or.inl rfl | exact Or.inr rfl | exact bI_01 | exact c_cat | exact vt_ref | exact vt_null | rfl | with_reducible repeat (first | assumption | omega | apply S_I | apply S_L | apply S_D | apply ob_I | apply ob_L | apply ob_D | apply ob_R | apply ax_I | apply ax_L | apply ax_D | apply ax_R | apply o303 | apply o307 | apply o302 | apply o301 | apply ax304 | apply ax305 | apply ax306 | apply ax308 | apply ax309 | apply ax310 | apply lt_S | apply ar305 | apply ar308 | apply ar309)) only [g241_290, g253_102, g253_105, g253_106, g253_107, g253_110, g253_111, g253_112, g253_115, g253_116, g253_119, g253_120, g253_122, g253_125, g253_126, g253_128, g253_131, g253_132, Option.toList, List.nil_append, List.cons_append, va_rf, nI_ltI, nI_leI, nI_eq, nI_add, nI_sub, nI_lt0, nI_e0, nI_m1, m1_nI, Nat.reduceEqDiff, Nat.reduceLT, Nat.reduceLeDiff, Nat.reduceAdd, Nat.reduceSub, Nat.reduceMul, ↓reduceIte, eq_self, okN]
        | .inl p2, ⟨U4, sp4⟩ =>
          have rl4 := m_real (d := d + 3) S4 U4
          have cl4 := cm_lt0 (rv_ok U4)
          dsimp only
          by_cases hc : lt0 p2 = lt0 p1
          · rw [if_pos hc]
            have fl := m_fail (d := d + 3) (k := 6) A4 S
            refine ⟨gFa g4 6 r, fun Q => ?_, gFa_W A4, AK_trans K04 gFa_A, gFa_O (by decide) sp4, L04⟩
            rw [seg, ← hc]
            cases hb : lt0 p2 with
            | true =>
              rw [hb] at cl4
              simp (disch := first | with_reducible assumption | omega | exact Or.inl rfl | exact Or.inr rfl | exact bI_01 | exact c_cat | exact vt_ref | exact vt_null | rfl | with_reducible repeat (first | assumption | omega | apply S_I | apply S_L | apply S_D | apply ob_I | apply ob_L | apply ob_D | apply ob_R | apply ax_I | apply ax_L | apply ax_D | apply ax_R | apply o303 | apply o307 | apply o302 | apply o301 | apply ax304 | apply ax305 | apply ax306 | apply ax308 | apply ax309 | apply ax310 | apply lt_S | apply ar305 | apply ar308 | apply ar309)) only [g241_290, g253_102, g253_105, g253_106, g253_107, g253_110, g253_111, g253_112, g253_115, g253_116, g253_119, g253_120, g253_122, g253_125, g253_126, g253_128, g253_131, g253_132, Option.toList, List.nil_append, List.cons_append, va_rf, nI_ltI, nI_leI, nI_eq, nI_add, nI_sub, nI_lt0, nI_e0, nI_m1, m1_nI, Nat.reduceEqDiff, Nat.reduceLT, Nat.reduceLeDiff, Nat.reduceAdd, Nat.reduceSub, Nat.reduceMul, ↓reduceIte, eq_self, okN, rl4 _, cl4, bI_t, fl _, Bool.true_eq_false]
            | false =>
              rw [hb] at cl4
              simp (disch := first | with_reducible assumption | omega | exact Or.inl rfl | exact Or.inr rfl | exact bI_01 | exact c_cat | exact vt_ref | exact vt_null | rfl | with_reducible repeat (first | assumption | omega | apply S_I | apply S_L | apply S_D | apply ob_I | apply ob_L | apply ob_D | apply ob_R | apply ax_I | apply ax_L | apply ax_D | apply ax_R | apply o303 | apply o307 | apply o302 | apply o301 | apply ax304 | apply ax305 | apply ax306 | apply ax308 | apply ax309 | apply ax310 | apply lt_S | apply ar305 | apply ar308 | apply ar309)) only [g241_290, g253_102, g253_105, g253_106, g253_107, g253_110, g253_111, g253_112, g253_115, g253_116, g253_119, g253_120, g253_122, g253_125, g253_126, g253_128, g253_131, g253_132, Option.toList, List.nil_append, List.cons_append, va_rf, nI_ltI, nI_leI, nI_eq, nI_add, nI_sub, nI_lt0, nI_e0, nI_m1, m1_nI, Nat.reduceEqDiff, Nat.reduceLT, Nat.reduceLeDiff, Nat.reduceAdd, Nat.reduceSub, Nat.reduceMul, ↓reduceIte, eq_self, okN, rl4 _, cl4, bI_f, fl _]
          · rw [if_neg hc]
            obtain ⟨g5, r5, A5, K5, O5, L5⟩ := m_rootLoop (d := d) (s := s) (b := b) (sh := sh) (xn := 48 * s + n) (bl := lt0 p1) (f := f) (tt := fun s => tb h (48 * s)) (rt := rt) (cv := cv) (cs := cs) (tmf := tmf) (t := t) S hg (by omega) h6 er ert hdp WF' 60 0 (vD u) (vD v) σ4 g4 none none rfl ku kv (Nat.lt_of_le_of_lt (Nat.le_trans L4 L3) hf2) A4 sp4
            refine ⟨g5, fun Q => ?_, A5, AK_trans K04 K5, O5, Nat.le_trans L5 L04⟩
            rw [seg]
            have e2 : bI (lt0 p2) = bI (lt0 p1) ↔ False := by rw [bI_eq]; exact ⟨hc, False.elim⟩
            cases hb : lt0 p2 with
            | true =>
              rw [hb] at cl4 e2
              rw [bI_t] at e2
              simp (disch := first | with_reducible assumption | omega | exact Or.inl rfl | exact Or.inr rfl | exact bI_01 | exact c_cat | exact vt_ref | exact vt_null | rfl | with_reducible repeat (first | assumption | omega | apply S_I | apply S_L | apply S_D | apply ob_I | apply ob_L | apply ob_D | apply ob_R | apply ax_I | apply ax_L | apply ax_D | apply ax_R | apply o303 | apply o307 | apply o302 | apply o301 | apply ax304 | apply ax305 | apply ax306 | apply ax308 | apply ax309 | apply ax310 | apply lt_S | apply ar305 | apply ar308 | apply ar309)) only [g241_290, g253_102, g253_105, g253_106, g253_107, g253_110, g253_111, g253_112, g253_115, g253_116, g253_119, g253_120, g253_122, g253_125, g253_126, g253_128, g253_131, g253_132, g253_133, Option.toList, List.nil_append, List.cons_append, va_rf, nI_ltI, nI_leI, nI_eq, nI_add, nI_sub, nI_lt0, nI_e0, nI_m1, m1_nI, Nat.reduceEqDiff, Nat.reduceLT, Nat.reduceLeDiff, Nat.reduceAdd, Nat.reduceSub, Nat.reduceMul, ↓reduceIte, eq_self, okN, rl4 _, cl4, e2, r5 _, Bool.true_eq_false]
            | false =>
              rw [hb] at cl4 e2
              rw [bI_f] at e2
              simp (disch := first | with_reducible assumption | omega | exact Or.inl rfl | exact Or.inr rfl | exact bI_01 | exact c_cat | exact vt_ref | exact vt_null | rfl | with_reducible repeat (first | assumption | omega | apply S_I | apply S_L | apply S_D | apply ob_I | apply ob_L | apply ob_D | apply ob_R | apply ax_I | apply ax_L | apply ax_D | apply ax_R | apply o303 | apply o307 | apply o302 | apply o301 | apply ax304 | apply ax305 | apply ax306 | apply ax308 | apply ax309 | apply ax310 | apply lt_S | apply ar305 | apply ar308 | apply ar309)) only [g241_290, g253_102, g253_105, g253_106, g253_107, g253_110, g253_111, g253_112, g253_115, g253_116, g253_119, g253_120, g253_122, g253_125, g253_126, g253_128, g253_131, g253_132, g253_133, Option.toList, List.nil_append, List.cons_append, va_rf, nI_ltI, nI_leI, nI_eq, nI_add, nI_sub, nI_lt0, nI_e0, nI_m1, m1_nI, Nat.reduceEqDiff, Nat.reduceLT, Nat.reduceLeDiff, Nat.reduceAdd, Nat.reduceSub, Nat.reduceMul, ↓reduceIte, eq_self, okN, rl4 _, cl4, e2, r5 _]
end MRT

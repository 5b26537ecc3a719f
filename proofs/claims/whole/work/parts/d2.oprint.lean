/-! THE OPERATION print -/
theorem NM_lt {x m : Int64} (h : NM x m) : ∃ v, v < 2 ^ 40 ∧ m = lN v := by
  obtain ⟨t, q, k, k1, k2, hl, -, rfl⟩ := h
  have p2 : ∀ k, k ≤ 8 → 32 ^ k ≤ 2 ^ 40 := by decide
  have a2 := lx_w_lt (B := 32) (o := 96) (t := t) (q := q) (by decide) k (fun i hi => by have := isL_of (hl i hi); omega)
  exact ⟨_, Nat.lt_of_lt_of_le a2 (p2 k k2), rfl⟩
section OUQ
variable {d s cs p c n M : Nat} {h g g' : am_H}
theorem Pt_cast {x : Int32} {E E' : List Nat} (A : Pt d s cs h x E) (e : E = E') : Pt d s cs h x E' := e ▸ A
theorem Pt_call {k : Nat} {xa xb xc : Int32} {w : Int64} {T : ntT} {H Ea Eb Ec : List Nat} (S : am_S h) (hs : s < 77) (hn : n < 48) (hT : T = tb h (48 * s)) (ht : T n = (nI k, xa, xb, xc, w)) (hk : k = 7 ∨ k = 8 ∨ k = 9)
    (Fr : ∀ g p, am_fr pF2 h g → am_I g 349 3 = nI p → p + H.length ≤ 1989 → ∃ g', (∀ Q, am_J (d + 6) 182 0 [some (.ref 349), some (.int (nI s)), some (.int (nI cs)), some (.int (nI (48 * s + n)))] [] g Q ↔ am_J (d + 6) 182 96 [some (.ref 349), some (.int (nI s)), some (.int (nI cs)), some (.int (nI (48 * s + n)))] [] g' Q) ∧ OB g g' p H)
    (A : Pt (d + 5) s cs h xa Ea) (B : Pc (d + 5) s cs h xb Eb) (C : Pc (d + 5) s cs h xc Ec) : Pt (d + 7) s cs h (nI n) (H ++ (Ea ++ (Eb ++ (Ec ++ [41])))) := by
  intro g p F e hp
  obtain ⟨h1, h2, h3, h4, -⟩ := nd_at hT fr_refl ht
  have Sg := fr_S F S
  have u1 : am_I g 352 (48 * s + n) = nI k := (fr_rdI F (by decide)).trans h1
  rw [List.length_append] at hp
  have l1 : 1 ≤ (Ea ++ (Eb ++ (Ec ++ [41]))).length := by simp only [List.length_append, List.length_cons, List.length_nil]; omega
  obtain ⟨g1, r1, W1⟩ := Fr g p F e (by omega)
  obtain ⟨g2, r2, W2⟩ := m_args (d := d + 5) (x := 48 * s + n) S (by omega) h2 h3 h4 A B C (fr_trans F W1.1.1) (OB_e W1) (by omega)
  have r3 : ∀ Q, am_J (d + 6) 182 0 [some (.ref 349), some (.int (nI s)), some (.int (nI cs)), some (.int (nI (48 * s + n)))] [] g Q ↔ Q none g2 := fun Q => (r1 Q).trans (r2 Q)
  refine ⟨g2, fun Q => ?_, OB_trans W1 W2⟩
  rw [g176_0]
  rcases hk with rfl | rfl | rfl
  · simp (disch := first | with_reducible assumption | omega | exact Or.inl rfl | exact Or.inr rfl | exact bI_01 | exact c_cat | exact vt_ref | exact vt_null | rfl | with_reducible repeat (first | assumption | omega | apply S_I | apply S_L | apply S_D | apply ob_I | apply ob_L | apply ob_D | apply ob_R | apply ax_I | apply ax_L | apply ax_D | apply ax_R | apply o303 | apply o307 | apply o302 | apply o301 | apply ax304 | apply ax305 | apply ax306 | apply ax308 | apply ax309 | apply ax310 | apply lt_S | apply ar305 | apply ar308 | apply ar309)) only [g176_1, g176_2, g176_5, g176_6, g176_8, g176_9, g176_10, g176_11, g176_12, g176_14, g176_15, g176_18, g176_20, g176_76, g176_77, g176_78, g176_81, g176_83, g176_84, g176_85, g176_88, g176_90, g176_91, g176_94, g176_97, g176_98, g176_99, g176_102, g176_104, g176_105, g176_108, g176_111, g176_112, g176_113, g176_116, g176_117, g176_118, g176_119, g176_120, g176_123, g176_125, g176_126, g176_127, g176_128, g176_131, g176_134, g176_135, g176_137, g176_140, g176_141, g176_143, g176_146, g176_147, g176_148, g176_149, g176_150, g176_153, g176_155, g176_156, g176_159, g176_160, g176_162, g176_165, g176_168, g176_169, g176_171, g176_174, g176_175, g176_176, g176_177, g176_178, g176_181, g176_183, g176_184, g176_187, g176_188, g176_189, g176_192, g176_194, g176_195, g176_198, g176_199, g176_200, g176_201, g176_202, g176_205, g176_207, g176_208, g176_211, g176_212, g176_214, g176_217, g176_220, g176_221, g176_222, g176_225, g176_227, g176_228, g176_231, g176_232, g176_234, g176_237, g176_238, g176_239, g176_242, g176_244, g176_245, g176_248, g176_251, g176_252, g176_253, g176_254, g176_256, g176_259, g176_21_7, Option.toList, List.nil_append, List.cons_append, va_rf, nI_ltI, nI_leI, nI_eq, nI_add, nI_sub, nI_lt0, nI_e0, nI_m1, m1_nI, Nat.reduceEqDiff, Nat.reduceLT, Nat.reduceLeDiff, Nat.reduceAdd, Nat.reduceSub, Nat.reduceMul, ↓reduceIte, eq_self, nI_mul, u1, r3 _]
  · simp (disch := first | with_reducible assumption | omega | exact Or.inl rfl | exact Or.inr rfl | exact bI_01 | exact c_cat | exact vt_ref | exact vt_null | rfl | with_reducible repeat (first | assumption | omega | apply S_I | apply S_L | apply S_D | apply ob_I | apply ob_L | apply ob_D | apply ob_R | apply ax_I | apply ax_L | apply ax_D | apply ax_R | apply o303 | apply o307 | apply o302 | apply o301 | apply ax304 | apply ax305 | apply ax306 | apply ax308 | apply ax309 | apply ax310 | apply lt_S | apply ar305 | apply ar308 | apply ar309)) only [g176_1, g176_2, g176_5, g176_6, g176_8, g176_9, g176_10, g176_11, g176_12, g176_14, g176_15, g176_18, g176_20, g176_76, g176_77, g176_78, g176_81, g176_83, g176_84, g176_85, g176_88, g176_90, g176_91, g176_94, g176_97, g176_98, g176_99, g176_102, g176_104, g176_105, g176_108, g176_111, g176_112, g176_113, g176_116, g176_117, g176_118, g176_119, g176_120, g176_123, g176_125, g176_126, g176_127, g176_128, g176_131, g176_134, g176_135, g176_137, g176_140, g176_141, g176_143, g176_146, g176_147, g176_148, g176_149, g176_150, g176_153, g176_155, g176_156, g176_159, g176_160, g176_162, g176_165, g176_168, g176_169, g176_171, g176_174, g176_175, g176_176, g176_177, g176_178, g176_181, g176_183, g176_184, g176_187, g176_188, g176_189, g176_192, g176_194, g176_195, g176_198, g176_199, g176_200, g176_201, g176_202, g176_205, g176_207, g176_208, g176_211, g176_212, g176_214, g176_217, g176_220, g176_221, g176_222, g176_225, g176_227, g176_228, g176_231, g176_232, g176_234, g176_237, g176_238, g176_239, g176_242, g176_244, g176_245, g176_248, g176_251, g176_252, g176_253, g176_254, g176_256, g176_259, g176_21_8, Option.toList, List.nil_append, List.cons_append, va_rf, nI_ltI, nI_leI, nI_eq, nI_add, nI_sub, nI_lt0, nI_e0, nI_m1, m1_nI, Nat.reduceEqDiff, Nat.reduceLT, Nat.reduceLeDiff, Nat.reduceAdd, Nat.reduceSub, Nat.reduceMul, ↓reduceIte, eq_self, nI_mul, u1, r3 _]
  · simp (disch := first | with_reducible assumption | omega | exact Or.inl rfl | exact Or.inr rfl | exact bI_01 | exact c_cat | exact vt_ref | exact vt_null | rfl | with_reducible repeat (first | assumption | omega | apply S_I | apply S_L | apply S_D | apply ob_I | apply ob_L | apply ob_D | apply ob_R | apply ax_I | apply ax_L | apply ax_D | apply ax_R | apply o303 | apply o307 | apply o302 | apply o301 | apply ax304 | apply ax305 | apply ax306 | apply ax308 | apply ax309 | apply ax310 | apply lt_S | apply ar305 | apply ar308 | apply ar309)) only [g176_1, g176_2, g176_5, g176_6, g176_8, g176_9, g176_10, g176_11, g176_12, g176_14, g176_15, g176_18, g176_20, g176_76, g176_77, g176_78, g176_81, g176_83, g176_84, g176_85, g176_88, g176_90, g176_91, g176_94, g176_97, g176_98, g176_99, g176_102, g176_104, g176_105, g176_108, g176_111, g176_112, g176_113, g176_116, g176_117, g176_118, g176_119, g176_120, g176_123, g176_125, g176_126, g176_127, g176_128, g176_131, g176_134, g176_135, g176_137, g176_140, g176_141, g176_143, g176_146, g176_147, g176_148, g176_149, g176_150, g176_153, g176_155, g176_156, g176_159, g176_160, g176_162, g176_165, g176_168, g176_169, g176_171, g176_174, g176_175, g176_176, g176_177, g176_178, g176_181, g176_183, g176_184, g176_187, g176_188, g176_189, g176_192, g176_194, g176_195, g176_198, g176_199, g176_200, g176_201, g176_202, g176_205, g176_207, g176_208, g176_211, g176_212, g176_214, g176_217, g176_220, g176_221, g176_222, g176_225, g176_227, g176_228, g176_231, g176_232, g176_234, g176_237, g176_238, g176_239, g176_242, g176_244, g176_245, g176_248, g176_251, g176_252, g176_253, g176_254, g176_256, g176_259, g176_21_9, Option.toList, List.nil_append, List.cons_append, va_rf, nI_ltI, nI_leI, nI_eq, nI_add, nI_sub, nI_lt0, nI_e0, nI_m1, m1_nI, Nat.reduceEqDiff, Nat.reduceLT, Nat.reduceLeDiff, Nat.reduceAdd, Nat.reduceSub, Nat.reduceMul, ↓reduceIte, eq_self, nI_mul, u1, r3 _]
theorem Pc_none : Pc d s cs h (-1) [] := Or.inl ⟨rfl, rfl⟩
theorem Pc_some {j : Nat} {E : List Nat} (hj : j < 48) (A : Pt d s cs h (nI j) E) : Pc d s cs h (nI j) (44 :: E) := Or.inr ⟨j, E, hj, rfl, rfl, A⟩
theorem Pt_word {w : Nat} {xa xb xc : Int32} {T : ntT} {Ea Eb Ec : List Nat} (S : am_S h) (G : am_Gv h) (hs : s < 77) (hn : n < 48) (hT : T = tb h (48 * s)) (hw : w < 12) (ht : T n = (nI 7, xa, xb, xc, lN w)) (A : Pt (d + 5) s cs h xa Ea) (B : Pc (d + 5) s cs h xb Eb) (C : Pc (d + 5) s cs h xc Ec) : Pt (d + 7) s cs h (nI n) ((wdN w ++ [40]) ++ (Ea ++ (Eb ++ (Ec ++ [41])))) := by
  obtain ⟨u1, -, -, -, u5⟩ := nd_at hT fr_refl ht
  exact Pt_call S hs hn hT ht (Or.inl rfl) (fun g p F e hp => m_frontW S G (by omega) hw u1 u5 F e (by simp only [List.length_append, List.length_cons, List.length_nil] at hp; omega)) A B C
theorem Pt_fun {f v : Nat} {xa xb xc : Int32} {T : ntT} {Ea Eb Ec : List Nat} (S : am_S h) (hs : s < 77) (hn : n < 48) (hT : T = tb h (48 * s)) (hf : f < 8) (hv : v < 2 ^ 40) (en : am_L h 358 f = lN v) (ht : T n = (nI 8, xa, xb, xc, lN f)) (A : Pt (d + 5) s cs h xa Ea) (B : Pc (d + 5) s cs h xb Eb) (C : Pc (d + 5) s cs h xc Ec) : Pt (d + 7) s cs h (nI n) ((ltM (lN v) ++ [40]) ++ (Ea ++ (Eb ++ (Ec ++ [41])))) := by
  obtain ⟨u1, -, -, -, u5⟩ := nd_at hT fr_refl ht
  exact Pt_call S hs hn hT ht (Or.inr (Or.inl rfl)) (fun g p F e hp => m_frontF S (by omega) hf hv u1 u5 en F e (by omega)) A B C
theorem Pt_root {f v : Nat} {xa xb xc : Int32} {T : ntT} {Ea Eb Ec : List Nat} (S : am_S h) (G : am_Gv h) (hs : s < 77) (hn : n < 48) (hT : T = tb h (48 * s)) (hf : f < 8) (hv : v < 2 ^ 40) (en : am_L h 358 f = lN v) (ht : T n = (nI 9, xa, xb, xc, lN f)) (A : Pt (d + 5) s cs h xa Ea) (B : Pc (d + 5) s cs h xb Eb) (C : Pc (d + 5) s cs h xc Ec) : Pt (d + 7) s cs h (nI n) ((wdN 9 ++ ([40] ++ (ltM (lN v) ++ [44]))) ++ (Ea ++ (Eb ++ (Ec ++ [41])))) := by
  obtain ⟨u1, -, -, -, u5⟩ := nd_at hT fr_refl ht
  exact Pt_call S hs hn hT ht (Or.inr (Or.inr rfl)) (fun g p F e hp => m_frontR S G (by omega) hf hv u1 u5 en F e (by simp only [List.length_append, List.length_cons, List.length_nil] at hp; omega)) A B C
theorem m_putNode {kn : Nat} {T : ntT} {pN pF : Nat → List Nat} (S : am_S h) (G : am_Gv h) (hs : s < 77) (hcs : cs < 4) (hM : M ≤ 48) (hT : T = tb h (48 * s)) (hkn : kn % 1000 ≤ 5)
    (hN : ∀ k, k < kn % 1000 → ∃ v, v < 2 ^ 40 ∧ am_L h 359 (5 * cs + k) = lN v ∧ pN k = ltM (lN v)) (hF : ∀ f a, 1 ≤ a → a ≤ 3 → pF (4 * f + a) ≠ [] → f < 8 ∧ ∃ v, v < 2 ^ 40 ∧ am_L h 358 f = lN v ∧ pF (4 * f + a) = ltM (lN v)) :
    ∀ z n D E L G', Rp false kn T M pN pF z n D E L G' → ∀ d, 2 * z + 8 ≤ d → Pt d s cs h (nI n) E := by
  intro z
  induction z using Nat.strongRecOn with
  | _ z ih =>
    intro n D E L G' hR d hd
    obtain ⟨f', rfl, hn, hR⟩ := Rp_S hR
    obtain ⟨d, rfl⟩ : ∃ d', d = d' + 8 := ⟨d - 8, by omega⟩
    have i1 := fun n D E L G' (q : Rp false kn T M pN pF f' n D E L G') => ih f' (by omega) n D E L G' q (d + 7) (by omega)
    have i2 := fun n D E L G' (q : Rp false kn T M pN pF (f' - 41) n D E L G') => ih (f' - 41) (by omega) n D E L G' q (d + 6) (by omega)
    clear ih
    have rw_ := fun i a b (R : rows_ T M i a b) => Pt_rows (d := d + 4) (s := s) (cs := cs) S hs hM hT R
    have hn8 : n < 48 := by omega
    rcases hR with hR | hR | hR | hR | hR | hR | hR | hR | hR | hR | hR | hR | hR | hR | hR | hR | hR
    · obtain ⟨v, c0, ht, -, rfl, -, -⟩ := hR
      intro g p F e hp
      obtain ⟨u1, u2, u3, u4, u5⟩ := nd_at hT F ht
      have Sg := fr_S F S
      obtain ⟨g1, r1, W1⟩ := m_putNumber (d := d + 6) (b := 0) Sg e c0 (by decide) (by omega)
      refine ⟨g1, fun Q => ?_, W1, by rw [dgN_eq]; exact okB_dg _ _ _⟩
      rw [g176_0]
      simp (disch := first | with_reducible assumption | omega | exact Or.inl rfl | exact Or.inr rfl | exact bI_01 | exact c_cat | exact vt_ref | exact vt_null | rfl | with_reducible repeat (first | assumption | omega | apply S_I | apply S_L | apply S_D | apply ob_I | apply ob_L | apply ob_D | apply ob_R | apply ax_I | apply ax_L | apply ax_D | apply ax_R | apply o303 | apply o307 | apply o302 | apply o301 | apply ax304 | apply ax305 | apply ax306 | apply ax308 | apply ax309 | apply ax310 | apply lt_S | apply ar305 | apply ar308 | apply ar309)) only [g176_1, g176_2, g176_5, g176_6, g176_8, g176_9, g176_10, g176_11, g176_12, g176_14, g176_15, g176_18, g176_20, g176_76, g176_77, g176_78, g176_81, g176_83, g176_84, g176_85, g176_88, g176_90, g176_91, g176_94, g176_97, g176_98, g176_99, g176_102, g176_104, g176_105, g176_108, g176_111, g176_112, g176_113, g176_116, g176_117, g176_118, g176_119, g176_120, g176_123, g176_125, g176_126, g176_127, g176_128, g176_131, g176_134, g176_135, g176_137, g176_140, g176_141, g176_143, g176_146, g176_147, g176_148, g176_149, g176_150, g176_153, g176_155, g176_156, g176_159, g176_160, g176_162, g176_165, g176_168, g176_169, g176_171, g176_174, g176_175, g176_176, g176_177, g176_178, g176_181, g176_183, g176_184, g176_187, g176_188, g176_189, g176_192, g176_194, g176_195, g176_198, g176_199, g176_200, g176_201, g176_202, g176_205, g176_207, g176_208, g176_211, g176_212, g176_214, g176_217, g176_220, g176_221, g176_222, g176_225, g176_227, g176_228, g176_231, g176_232, g176_234, g176_237, g176_238, g176_239, g176_242, g176_244, g176_245, g176_248, g176_251, g176_252, g176_253, g176_254, g176_256, g176_259, g176_21_1, Option.toList, List.nil_append, List.cons_append, va_rf, nI_ltI, nI_leI, nI_eq, nI_add, nI_sub, nI_lt0, nI_e0, nI_m1, m1_nI, Nat.reduceEqDiff, Nat.reduceLT, Nat.reduceLeDiff, Nat.reduceAdd, Nat.reduceSub, Nat.reduceMul, ↓reduceIte, eq_self, nI_mul, u1, u2, u5, r1 _]
    · obtain ⟨v, b, c0, c1, c2, ht, -, rfl, -, -⟩ := hR
      intro g p F e hp
      obtain ⟨u1, u2, u3, u4, u5⟩ := nd_at hT F ht
      have Sg := fr_S F S
      obtain ⟨g1, r1, W1⟩ := m_putNumber (d := d + 6) (v := v) (b := b) Sg e (by omega) c2 (by omega)
      refine ⟨g1, fun Q => ?_, W1, by rw [dgN_eq]; exact okB_dg _ _ _⟩
      rw [g176_0]
      simp (disch := first | with_reducible assumption | omega | exact Or.inl rfl | exact Or.inr rfl | exact bI_01 | exact c_cat | exact vt_ref | exact vt_null | rfl | with_reducible repeat (first | assumption | omega | apply S_I | apply S_L | apply S_D | apply ob_I | apply ob_L | apply ob_D | apply ob_R | apply ax_I | apply ax_L | apply ax_D | apply ax_R | apply o303 | apply o307 | apply o302 | apply o301 | apply ax304 | apply ax305 | apply ax306 | apply ax308 | apply ax309 | apply ax310 | apply lt_S | apply ar305 | apply ar308 | apply ar309)) only [g176_1, g176_2, g176_5, g176_6, g176_8, g176_9, g176_10, g176_11, g176_12, g176_14, g176_15, g176_18, g176_20, g176_76, g176_77, g176_78, g176_81, g176_83, g176_84, g176_85, g176_88, g176_90, g176_91, g176_94, g176_97, g176_98, g176_99, g176_102, g176_104, g176_105, g176_108, g176_111, g176_112, g176_113, g176_116, g176_117, g176_118, g176_119, g176_120, g176_123, g176_125, g176_126, g176_127, g176_128, g176_131, g176_134, g176_135, g176_137, g176_140, g176_141, g176_143, g176_146, g176_147, g176_148, g176_149, g176_150, g176_153, g176_155, g176_156, g176_159, g176_160, g176_162, g176_165, g176_168, g176_169, g176_171, g176_174, g176_175, g176_176, g176_177, g176_178, g176_181, g176_183, g176_184, g176_187, g176_188, g176_189, g176_192, g176_194, g176_195, g176_198, g176_199, g176_200, g176_201, g176_202, g176_205, g176_207, g176_208, g176_211, g176_212, g176_214, g176_217, g176_220, g176_221, g176_222, g176_225, g176_227, g176_228, g176_231, g176_232, g176_234, g176_237, g176_238, g176_239, g176_242, g176_244, g176_245, g176_248, g176_251, g176_252, g176_253, g176_254, g176_256, g176_259, g176_21_2, Option.toList, List.nil_append, List.cons_append, va_rf, nI_ltI, nI_leI, nI_eq, nI_add, nI_sub, nI_lt0, nI_e0, nI_m1, m1_nI, Nat.reduceEqDiff, Nat.reduceLT, Nat.reduceLeDiff, Nat.reduceAdd, Nat.reduceSub, Nat.reduceMul, ↓reduceIte, eq_self, nI_mul, u1, u2, u5, r1 _]
    · obtain ⟨c, c0, c1, c2, ht, -, rfl, -, -⟩ := hR
      intro g p F e hp
      obtain ⟨u1, u2, u3, u4, u5⟩ := nd_at hT F ht
      have Sg := fr_S F S
      obtain ⟨g1, r1, W1⟩ := m_putCell (d := d + 6) (c := c) Sg e (by simp only [clN, List.length_cons, List.length_nil] at hp; omega) c2
      refine ⟨g1, fun Q => ?_, W1, okB_cl c2⟩
      rw [g176_0]
      simp (disch := first | with_reducible assumption | omega | exact Or.inl rfl | exact Or.inr rfl | exact bI_01 | exact c_cat | exact vt_ref | exact vt_null | rfl | with_reducible repeat (first | assumption | omega | apply S_I | apply S_L | apply S_D | apply ob_I | apply ob_L | apply ob_D | apply ob_R | apply ax_I | apply ax_L | apply ax_D | apply ax_R | apply o303 | apply o307 | apply o302 | apply o301 | apply ax304 | apply ax305 | apply ax306 | apply ax308 | apply ax309 | apply ax310 | apply lt_S | apply ar305 | apply ar308 | apply ar309)) only [g176_1, g176_2, g176_5, g176_6, g176_8, g176_9, g176_10, g176_11, g176_12, g176_14, g176_15, g176_18, g176_20, g176_76, g176_77, g176_78, g176_81, g176_83, g176_84, g176_85, g176_88, g176_90, g176_91, g176_94, g176_97, g176_98, g176_99, g176_102, g176_104, g176_105, g176_108, g176_111, g176_112, g176_113, g176_116, g176_117, g176_118, g176_119, g176_120, g176_123, g176_125, g176_126, g176_127, g176_128, g176_131, g176_134, g176_135, g176_137, g176_140, g176_141, g176_143, g176_146, g176_147, g176_148, g176_149, g176_150, g176_153, g176_155, g176_156, g176_159, g176_160, g176_162, g176_165, g176_168, g176_169, g176_171, g176_174, g176_175, g176_176, g176_177, g176_178, g176_181, g176_183, g176_184, g176_187, g176_188, g176_189, g176_192, g176_194, g176_195, g176_198, g176_199, g176_200, g176_201, g176_202, g176_205, g176_207, g176_208, g176_211, g176_212, g176_214, g176_217, g176_220, g176_221, g176_222, g176_225, g176_227, g176_228, g176_231, g176_232, g176_234, g176_237, g176_238, g176_239, g176_242, g176_244, g176_245, g176_248, g176_251, g176_252, g176_253, g176_254, g176_256, g176_259, g176_21_3, Option.toList, List.nil_append, List.cons_append, va_rf, nI_ltI, nI_leI, nI_eq, nI_add, nI_sub, nI_lt0, nI_e0, nI_m1, m1_nI, Nat.reduceEqDiff, Nat.reduceLT, Nat.reduceLeDiff, Nat.reduceAdd, Nat.reduceSub, Nat.reduceMul, ↓reduceIte, eq_self, nI_mul, u1, u2, r1 _]
    · obtain ⟨k, c0, ht, -, rfl, -, -⟩ := hR
      obtain ⟨v, v1, v2, v3⟩ := hN k c0
      rw [v3]
      intro g p F e hp
      obtain ⟨u1, u2, u3, u4, u5⟩ := nd_at hT F ht
      have Sg := fr_S F S
      have v2' : am_L g 359 (5 * cs + k) = lN v := (fr_rdL F (by decide)).trans v2
      obtain ⟨g1, r1, W1⟩ := m_putName (d := d + 6) Sg e v1 (by omega)
      refine ⟨g1, fun Q => ?_, W1, okB_lt _ _⟩
      rw [g176_0]
      simp (disch := first | with_reducible assumption | omega | exact Or.inl rfl | exact Or.inr rfl | exact bI_01 | exact c_cat | exact vt_ref | exact vt_null | rfl | with_reducible repeat (first | assumption | omega | apply S_I | apply S_L | apply S_D | apply ob_I | apply ob_L | apply ob_D | apply ob_R | apply ax_I | apply ax_L | apply ax_D | apply ax_R | apply o303 | apply o307 | apply o302 | apply o301 | apply ax304 | apply ax305 | apply ax306 | apply ax308 | apply ax309 | apply ax310 | apply lt_S | apply ar305 | apply ar308 | apply ar309)) only [g176_1, g176_2, g176_5, g176_6, g176_8, g176_9, g176_10, g176_11, g176_12, g176_14, g176_15, g176_18, g176_20, g176_76, g176_77, g176_78, g176_81, g176_83, g176_84, g176_85, g176_88, g176_90, g176_91, g176_94, g176_97, g176_98, g176_99, g176_102, g176_104, g176_105, g176_108, g176_111, g176_112, g176_113, g176_116, g176_117, g176_118, g176_119, g176_120, g176_123, g176_125, g176_126, g176_127, g176_128, g176_131, g176_134, g176_135, g176_137, g176_140, g176_141, g176_143, g176_146, g176_147, g176_148, g176_149, g176_150, g176_153, g176_155, g176_156, g176_159, g176_160, g176_162, g176_165, g176_168, g176_169, g176_171, g176_174, g176_175, g176_176, g176_177, g176_178, g176_181, g176_183, g176_184, g176_187, g176_188, g176_189, g176_192, g176_194, g176_195, g176_198, g176_199, g176_200, g176_201, g176_202, g176_205, g176_207, g176_208, g176_211, g176_212, g176_214, g176_217, g176_220, g176_221, g176_222, g176_225, g176_227, g176_228, g176_231, g176_232, g176_234, g176_237, g176_238, g176_239, g176_242, g176_244, g176_245, g176_248, g176_251, g176_252, g176_253, g176_254, g176_256, g176_259, g176_21_4, Option.toList, List.nil_append, List.cons_append, va_rf, nI_ltI, nI_leI, nI_eq, nI_add, nI_sub, nI_lt0, nI_e0, nI_m1, m1_nI, Nat.reduceEqDiff, Nat.reduceLT, Nat.reduceLeDiff, Nat.reduceAdd, Nat.reduceSub, Nat.reduceMul, ↓reduceIte, eq_self, nI_mul, u1, u2, v2', r1 _]
    · obtain ⟨i, D1, E1, L1, G1, c0, ht, k0, -, rfl, -, -⟩ := hR
      intro g p F e hp
      obtain ⟨u1, u2, u3, u4, u5⟩ := nd_at hT F ht
      simp only [List.length_append, List.length_cons, List.length_nil] at hp
      have Sg := fr_S F S
      obtain ⟨g1, r1, W1⟩ := b_put (d := d + 7) (c := 40) Sg e (by omega) (by decide)
      have S1 := fr_S W1.1.1 Sg
      obtain ⟨g2, r2, W2⟩ := b_put (d := d + 7) (c := 45) S1 (OB_e W1) (by simp only [List.length_cons, List.length_nil]; omega) (by decide)
      have S2 := fr_S W2.1.1 S1
      have F2 := fr_trans F (fr_trans W1.1.1 W2.1.1)
      obtain ⟨g3, r3, W3⟩ := i1 i D1 E1 L1 G1 k0 g2 _ F2 (OB_e W2) (by simp only [List.length_cons, List.length_nil]; omega)
      have S3 := fr_S W3.1.1 S2
      obtain ⟨g4, r4, W4⟩ := b_put (d := d + 7) (c := 41) S3 (OB_e W3) (by simp only [List.length_cons, List.length_nil]; omega) (by decide)
      have v2 : am_I g2 353 (48 * s + n) = nI i := (nd_at hT F2 ht).2.1
      refine ⟨g4, fun Q => ?_, OB_cast (OB_trans W1 (OB_trans W2 (OB_trans W3 W4))) (by simp only [List.append_assoc, List.cons_append, List.nil_append])⟩
      rw [g176_0]
      simp (disch := first | with_reducible assumption | omega | exact Or.inl rfl | exact Or.inr rfl | exact bI_01 | exact c_cat | exact vt_ref | exact vt_null | rfl | with_reducible repeat (first | assumption | omega | apply S_I | apply S_L | apply S_D | apply ob_I | apply ob_L | apply ob_D | apply ob_R | apply ax_I | apply ax_L | apply ax_D | apply ax_R | apply o303 | apply o307 | apply o302 | apply o301 | apply ax304 | apply ax305 | apply ax306 | apply ax308 | apply ax309 | apply ax310 | apply lt_S | apply ar305 | apply ar308 | apply ar309)) only [g176_1, g176_2, g176_5, g176_6, g176_8, g176_9, g176_10, g176_11, g176_12, g176_14, g176_15, g176_18, g176_20, g176_76, g176_77, g176_78, g176_81, g176_83, g176_84, g176_85, g176_88, g176_90, g176_91, g176_94, g176_97, g176_98, g176_99, g176_102, g176_104, g176_105, g176_108, g176_111, g176_112, g176_113, g176_116, g176_117, g176_118, g176_119, g176_120, g176_123, g176_125, g176_126, g176_127, g176_128, g176_131, g176_134, g176_135, g176_137, g176_140, g176_141, g176_143, g176_146, g176_147, g176_148, g176_149, g176_150, g176_153, g176_155, g176_156, g176_159, g176_160, g176_162, g176_165, g176_168, g176_169, g176_171, g176_174, g176_175, g176_176, g176_177, g176_178, g176_181, g176_183, g176_184, g176_187, g176_188, g176_189, g176_192, g176_194, g176_195, g176_198, g176_199, g176_200, g176_201, g176_202, g176_205, g176_207, g176_208, g176_211, g176_212, g176_214, g176_217, g176_220, g176_221, g176_222, g176_225, g176_227, g176_228, g176_231, g176_232, g176_234, g176_237, g176_238, g176_239, g176_242, g176_244, g176_245, g176_248, g176_251, g176_252, g176_253, g176_254, g176_256, g176_259, g176_21_5, Option.toList, List.nil_append, List.cons_append, va_rf, nI_ltI, nI_leI, nI_eq, nI_add, nI_sub, nI_lt0, nI_e0, nI_m1, m1_nI, Nat.reduceEqDiff, Nat.reduceLT, Nat.reduceLeDiff, Nat.reduceAdd, Nat.reduceSub, Nat.reduceMul, ↓reduceIte, eq_self, nI_mul, u1, v2, r1 _, r2 _, r3 _, r4 _]
    · obtain ⟨o, i, j, D1, E1, L1, G1, D2, E2, L2, G2, c0, c1, c2, ht, k0, k1, -, rfl, -, -⟩ := hR
      intro g p F e hp
      obtain ⟨u1, u2, u3, u4, u5⟩ := nd_at hT F ht
      simp only [List.length_append, List.length_cons, List.length_nil] at hp
      have lo : (sgN o).length ≤ 2 := by unfold sgN; split <;> (try split) <;> simp
      have Sg := fr_S F S
      obtain ⟨g1, r1, W1⟩ := b_put (d := d + 7) (c := 40) Sg e (by omega) (by decide)
      have S1 := fr_S W1.1.1 Sg
      have F1 := fr_trans F W1.1.1
      obtain ⟨g2, r2, W2⟩ := i1 i D1 E1 L1 G1 k0 g1 _ F1 (OB_e W1) (by simp only [List.length_cons, List.length_nil]; omega)
      have S2 := fr_S W2.1.1 S1
      have F2 := fr_trans F1 W2.1.1
      obtain ⟨g3, r3, W3⟩ := m_putSign (d := d + 6) (s := o) S2 (OB_e W2) (by simp only [List.length_cons, List.length_nil]; omega) c0
      have S3 := fr_S W3.1 S2
      have F3 := fr_trans F2 W3.1
      obtain ⟨g4, r4, W4⟩ := i1 j D2 E2 L2 G2 k1 g3 _ F3 W3.2.2.1 (by simp only [List.length_cons, List.length_nil]; omega)
      have S4 := fr_S W4.1.1 S3
      obtain ⟨g5, r5, W5⟩ := b_put (d := d + 7) (c := 41) S4 (OB_e W4) (by simp only [List.length_cons, List.length_nil]; omega) (by decide)
      have v1 : am_I g1 354 (48 * s + n) = nI i := (nd_at hT F1 ht).2.2.1
      have v2 : am_I g2 353 (48 * s + n) = nI o := (nd_at hT F2 ht).2.1
      have v3 : am_I g3 355 (48 * s + n) = nI j := (nd_at hT F3 ht).2.2.2.1
      refine ⟨g5, fun Q => ?_, OB_cast (OB_trans W1 (OB_trans W2 (OB_trans ⟨W3, okB_sg c0⟩ (OB_trans W4 W5)))) (by simp only [List.append_assoc, List.cons_append, List.nil_append])⟩
      rw [g176_0]
      simp (disch := first | with_reducible assumption | omega | exact Or.inl rfl | exact Or.inr rfl | exact bI_01 | exact c_cat | exact vt_ref | exact vt_null | rfl | with_reducible repeat (first | assumption | omega | apply S_I | apply S_L | apply S_D | apply ob_I | apply ob_L | apply ob_D | apply ob_R | apply ax_I | apply ax_L | apply ax_D | apply ax_R | apply o303 | apply o307 | apply o302 | apply o301 | apply ax304 | apply ax305 | apply ax306 | apply ax308 | apply ax309 | apply ax310 | apply lt_S | apply ar305 | apply ar308 | apply ar309)) only [g176_1, g176_2, g176_5, g176_6, g176_8, g176_9, g176_10, g176_11, g176_12, g176_14, g176_15, g176_18, g176_20, g176_76, g176_77, g176_78, g176_81, g176_83, g176_84, g176_85, g176_88, g176_90, g176_91, g176_94, g176_97, g176_98, g176_99, g176_102, g176_104, g176_105, g176_108, g176_111, g176_112, g176_113, g176_116, g176_117, g176_118, g176_119, g176_120, g176_123, g176_125, g176_126, g176_127, g176_128, g176_131, g176_134, g176_135, g176_137, g176_140, g176_141, g176_143, g176_146, g176_147, g176_148, g176_149, g176_150, g176_153, g176_155, g176_156, g176_159, g176_160, g176_162, g176_165, g176_168, g176_169, g176_171, g176_174, g176_175, g176_176, g176_177, g176_178, g176_181, g176_183, g176_184, g176_187, g176_188, g176_189, g176_192, g176_194, g176_195, g176_198, g176_199, g176_200, g176_201, g176_202, g176_205, g176_207, g176_208, g176_211, g176_212, g176_214, g176_217, g176_220, g176_221, g176_222, g176_225, g176_227, g176_228, g176_231, g176_232, g176_234, g176_237, g176_238, g176_239, g176_242, g176_244, g176_245, g176_248, g176_251, g176_252, g176_253, g176_254, g176_256, g176_259, g176_21_6, Option.toList, List.nil_append, List.cons_append, va_rf, nI_ltI, nI_leI, nI_eq, nI_add, nI_sub, nI_lt0, nI_e0, nI_m1, m1_nI, Nat.reduceEqDiff, Nat.reduceLT, Nat.reduceLeDiff, Nat.reduceAdd, Nat.reduceSub, Nat.reduceMul, ↓reduceIte, eq_self, nI_mul, u1, v1, v2, v3, r1 _, r2 _, r3 _, r4 _, r5 _]
    · obtain ⟨i, j, l, D1, E1, L1, G1, D2, E2, L2, G2, D3, E3, L3, G3, c0, c1, c2, ht, k0, k1, k2, -, rfl, -, -⟩ := hR
      exact Pt_cast (Pt_word (d := d + 1) S G hs hn8 hT (w := 0) (by decide) ht (i2 _ _ _ _ _ k0) (Pc_some (by omega) (i2 _ _ _ _ _ k1)) (Pc_some (by omega) (i2 _ _ _ _ _ k2))) (by simp only [List.append_assoc, List.cons_append, List.nil_append])
    · obtain ⟨i, j, D1, E1, L1, G1, D2, E2, L2, G2, c0, c1, ht, k0, k1, -, rfl, -, -⟩ := hR
      exact Pt_cast (Pt_word (d := d + 1) S G hs hn8 hT (w := 1) (by decide) ht (i2 _ _ _ _ _ k0) (Pc_some (by omega) (i2 _ _ _ _ _ k1)) Pc_none) (by simp only [List.append_assoc, List.cons_append, List.nil_append])
    · obtain ⟨w, i, a, b, c0, c1, c2, c3, c4, ht, r0, -, rfl, -, -⟩ := hR
      exact Pt_cast (Pt_word (d := d + 1) S G hs hn8 hT (w := w) (by omega) ht (rw_ _ _ _ r0) Pc_none Pc_none) (by simp only [List.append_assoc, List.cons_append, List.nil_append])
    · obtain ⟨i, j, a, b, D2, E2, L2, G2, c0, c1, c2, c3, ht, r0, k0, -, rfl, -, -⟩ := hR
      exact Pt_cast (Pt_word (d := d + 1) S G hs hn8 hT (w := 6) (by decide) ht (rw_ _ _ _ r0) (Pc_some (by omega) (i2 _ _ _ _ _ k0)) Pc_none) (by simp only [List.append_assoc, List.cons_append, List.nil_append])
    · obtain ⟨i, j, l, a, b, a', b', D1, E1, L1, G1, c0, c1, c2, c3, c4, ht, r0, r1, k0, -, rfl, -, -⟩ := hR
      exact Pt_cast (Pt_word (d := d + 1) S G hs hn8 hT (w := 7) (by decide) ht (i2 _ _ _ _ _ k0) (Pc_some (by omega) (rw_ _ _ _ r0)) (Pc_some (by omega) (rw_ _ _ _ r1))) (by simp only [List.append_assoc, List.cons_append, List.nil_append])
    · obtain ⟨i, j, a, b, a', b', c0, c1, c2, c3, ht, r0, r1, -, rfl, -, -⟩ := hR
      exact Pt_cast (Pt_word (d := d + 1) S G hs hn8 hT (w := 8) (by decide) ht (rw_ _ _ _ r0) (Pc_some (by omega) (rw_ _ _ _ r1)) Pc_none) (by simp only [List.append_assoc, List.cons_append, List.nil_append])
    · obtain ⟨w, i, D1, E1, L1, G1, c0, c1, c2, ht, k0, -, rfl, -, -⟩ := hR
      exact Pt_cast (Pt_word (d := d + 1) S G hs hn8 hT (w := w) (by omega) ht (i2 _ _ _ _ _ k0) Pc_none Pc_none) (by simp only [List.append_assoc, List.cons_append, List.nil_append])
    · obtain ⟨f, i, D1, E1, L1, G1, c0, c1, c2, ht, k0, -, rfl, -, -⟩ := hR
      obtain ⟨f8, v, v1, v2, v3⟩ := hF f 1 (by decide) (by decide) c1
      rw [v3]
      exact Pt_cast (Pt_fun (d := d + 1) S hs hn8 hT f8 v1 v2 ht (i2 _ _ _ _ _ k0) Pc_none Pc_none) (by simp only [List.append_assoc, List.cons_append, List.nil_append])
    · obtain ⟨f, i, j, D1, E1, L1, G1, D2, E2, L2, G2, c0, c1, c2, c3, ht, k0, k1, -, rfl, -, -⟩ := hR
      obtain ⟨f8, v, v1, v2, v3⟩ := hF f 2 (by decide) (by decide) c1
      rw [v3]
      exact Pt_cast (Pt_fun (d := d + 1) S hs hn8 hT f8 v1 v2 ht (i2 _ _ _ _ _ k0) (Pc_some (by omega) (i2 _ _ _ _ _ k1)) Pc_none) (by simp only [List.append_assoc, List.cons_append, List.nil_append])
    · obtain ⟨f, i, j, l, D1, E1, L1, G1, D2, E2, L2, G2, D3, E3, L3, G3, c0, c1, c2, c3, c4, ht, k0, k1, k2, -, rfl, -, -⟩ := hR
      obtain ⟨f8, v, v1, v2, v3⟩ := hF f 3 (by decide) (by decide) c1
      rw [v3]
      exact Pt_cast (Pt_fun (d := d + 1) S hs hn8 hT f8 v1 v2 ht (i2 _ _ _ _ _ k0) (Pc_some (by omega) (i2 _ _ _ _ _ k1)) (Pc_some (by omega) (i2 _ _ _ _ _ k2))) (by simp only [List.append_assoc, List.cons_append, List.nil_append])
    · obtain ⟨f, i, j, D1, E1, L1, G1, D2, E2, L2, G2, c0, c1, c2, c3, ht, k0, k1, -, rfl, -, -⟩ := hR
      obtain ⟨f8, v, v1, v2, v3⟩ := hF f 1 (by decide) (by decide) c1
      rw [v3]
      exact Pt_cast (Pt_root (d := d + 1) S G hs hn8 hT f8 v1 v2 ht (i2 _ _ _ _ _ k0) (Pc_some (by omega) (i2 _ _ _ _ _ k1)) Pc_none) (by simp only [List.append_assoc, List.cons_append, List.nil_append])
end OUQ

/-! THE MODEL: the list of needs -/
/-- N is noted -/
def NL (h g : am_H) (N : List Nat) : Prop := am_fr (fun a => a = 349 ∨ a = 390 ∨ a = 398) h g ∧ (∀ k, k ≠ 83 → am_I g 349 k = am_I h 349 k) ∧ am_I g 349 83 = nI N.length ∧ (∀ i c, N[i]? = some c → am_I g 398 i = nI c) ∧ (∀ c, c < 256 → am_I g 390 c = nI (if c ∈ N then 1 else 0)) ∧ N.Nodup ∧ ∀ c, c ∈ N → c < 256
section NDS
variable {d s c n M : Nat} {h g : am_H} {N L : List Nat} {Q : Option Value → am_H → Prop} {a b : Nat}
theorem m_cellsIn (ha : a < 256) (hb : b < 256) (hs : rgS a b = true) : am_J d 235 0 [some (.ref 349), some (.int (nI a)), some (.int (nI b))] [] h Q ↔ Q (some (.int (nI (rgN a b)))) h := by
  obtain ⟨h1, h2, h3⟩ := rgS_of hs
  have n8 : ¬ nI 8 = 0 := by decide
  have e1 : nI (b / 8) - nI (a / 8) + nI 1 = nI (b / 8 - a / 8 + 1) := by rw [nI_sub h2, nI_add]
  have e2 : nI (b % 8) - nI (a % 8) + nI 1 = nI (b % 8 - a % 8 + 1) := by rw [nI_sub h3, nI_add]
  simp (disch := first | with_reducible assumption | omega | exact Or.inl rfl | exact Or.inr rfl | exact bI_01 | exact c_cat | exact vt_ref | exact vt_null | rfl | with_reducible repeat (first | assumption | omega | apply S_I | apply S_L | apply S_D | apply ob_I | apply ob_L | apply ob_D | apply ob_R | apply ax_I | apply ax_L | apply ax_D | apply ax_R | apply o303 | apply o307 | apply o302 | apply o301 | apply ax304 | apply ax305 | apply ax306 | apply ax308 | apply ax309 | apply ax310 | apply lt_S | apply ar305 | apply ar308 | apply ar309)) only [g235_0, g235_1, g235_3, g235_4, g235_5, g235_7, g235_8, g235_9, g235_10, g235_11, g235_12, g235_14, g235_15, g235_16, g235_18, g235_19, g235_20, g235_21, g235_22, g235_23, nI_div, nI_mul, nI_rem2, e1, e2, rgN]
theorem m_cellOf (ha : a < 256) (hb : b < 256) (hs : rgS a b = true) {j : Nat} (hj : j < 100) : am_J d 236 0 [some (.ref 349), some (.int (nI a)), some (.int (nI b)), some (.int (nI j)), none] [] h Q ↔ Q (some (.int (nI (rgC a b j)))) h := by
  obtain ⟨h1, h2, h3⟩ := rgS_of hs
  have n8 : ¬ nI 8 = 0 := by decide
  have e2 : nI (b % 8) - nI (a % 8) + nI 1 = nI (b % 8 - a % 8 + 1) := by rw [nI_sub h3, nI_add]
  have hw : ¬ nI (b % 8 - a % 8 + 1) = 0 := nI_ne0 (by omega) (by omega)
  simp (disch := first | with_reducible assumption | omega | exact Or.inl rfl | exact Or.inr rfl | exact bI_01 | exact c_cat | exact vt_ref | exact vt_null | rfl | with_reducible repeat (first | assumption | omega | apply S_I | apply S_L | apply S_D | apply ob_I | apply ob_L | apply ob_D | apply ob_R | apply ax_I | apply ax_L | apply ax_D | apply ax_R | apply o303 | apply o307 | apply o302 | apply o301 | apply ax304 | apply ax305 | apply ax306 | apply ax308 | apply ax309 | apply ax310 | apply lt_S | apply ar305 | apply ar308 | apply ar309)) only [g236_0, g236_1, g236_3, g236_4, g236_5, g236_7, g236_8, g236_9, g236_10, g236_11, g236_13, g236_14, g236_16, g236_17, g236_19, g236_20, g236_21, g236_22, g236_23, g236_25, g236_26, g236_27, nI_div, nI_mul, nI_rem2, nI_add, e2, rgC, Nat.mul_comm 8]
theorem m_notes (A : NL h g N) (S : am_S h) (hc : c < 256) : ∃ g', am_run d 234 [some (.ref 349), some (.int (nI c))] g none g' ∧ NL h g' (nadd N c) := by
  obtain ⟨F, k1, k2, k3, k4, k5, k6⟩ := A
  have Sg := fr_S F S
  have e := k4 c hc
  by_cases hm : c ∈ N
  · rw [if_pos hm] at e
    refine ⟨g, fun Q => ?_, ?_⟩
    · simp (disch := first | with_reducible assumption | omega | exact Or.inl rfl | exact Or.inr rfl | exact bI_01 | exact c_cat | exact vt_ref | exact vt_null | rfl | with_reducible repeat (first | assumption | omega | apply S_I | apply S_L | apply S_D | apply ob_I | apply ob_L | apply ob_D | apply ob_R | apply ax_I | apply ax_L | apply ax_D | apply ax_R | apply o303 | apply o307 | apply o302 | apply o301 | apply ax304 | apply ax305 | apply ax306 | apply ax308 | apply ax309 | apply ax310 | apply lt_S | apply ar305 | apply ar308 | apply ar309)) only [g234_0, g234_1, g234_4, g234_5, g234_6, g234_9, g234_10, g234_11, g234_14, g234_15, g234_16, g234_17, g234_18, g234_21, g234_22, g234_25, g234_26, g234_27, g234_28, g234_29, g234_32, g234_33, g234_34, g234_37, Option.toList, List.nil_append, List.cons_append, va_rf, nI_ltI, nI_leI, nI_eq, nI_add, nI_sub, nI_lt0, nI_e0, nI_m1, m1_nI, Nat.reduceEqDiff, Nat.reduceLT, Nat.reduceLeDiff, Nat.reduceAdd, Nat.reduceSub, Nat.reduceMul, ↓reduceIte, eq_self, e]
    · rw [show nadd N c = N from if_pos hm]
      exact ⟨F, k1, k2, k3, k4, k5, k6⟩
  · rw [if_neg hm] at e
    have hl : N.length < 256 := by
      have := nodup_le 256 (c :: N) (List.nodup_cons.mpr ⟨hm, k5⟩) (fun x hx => by
        rcases List.mem_cons.mp hx with rfl | hx
        · exact hc
        · exact k6 x hx)
      rw [List.length_cons] at this
      omega
    refine ⟨am_setI (am_setI (am_setI g 390 c (nI 1)) 398 N.length (nI c)) 349 83 (nI (N.length + 1)), fun Q => ?_, ?_⟩
    · simp (disch := first | with_reducible assumption | omega | exact Or.inl rfl | exact Or.inr rfl | exact bI_01 | exact c_cat | exact vt_ref | exact vt_null | rfl | with_reducible repeat (first | assumption | omega | apply S_I | apply S_L | apply S_D | apply ob_I | apply ob_L | apply ob_D | apply ob_R | apply ax_I | apply ax_L | apply ax_D | apply ax_R | apply o303 | apply o307 | apply o302 | apply o301 | apply ax304 | apply ax305 | apply ax306 | apply ax308 | apply ax309 | apply ax310 | apply lt_S | apply ar305 | apply ar308 | apply ar309)) only [g234_0, g234_1, g234_4, g234_5, g234_6, g234_9, g234_10, g234_11, g234_14, g234_15, g234_16, g234_17, g234_18, g234_21, g234_22, g234_25, g234_26, g234_27, g234_28, g234_29, g234_32, g234_33, g234_34, g234_37, Option.toList, List.nil_append, List.cons_append, va_rf, nI_ltI, nI_leI, nI_eq, nI_add, nI_sub, nI_lt0, nI_e0, nI_m1, m1_nI, Nat.reduceEqDiff, Nat.reduceLT, Nat.reduceLeDiff, Nat.reduceAdd, Nat.reduceSub, Nat.reduceMul, ↓reduceIte, eq_self, hI_I, hI_L, hI_D, hI_R, hL_I, hL_L, hL_D, hL_R, hD_I, hD_L, hD_D, hD_R, hR_I, hR_L, hR_D, ↓reduceIte, Nat.reduceEqDiff, e, k2]
    · rw [show nadd N c = N ++ [c] from if_neg hm]
      refine ⟨fr_I (fr_I (fr_I F (Or.inr (Or.inl rfl))) (Or.inr (Or.inr rfl))) (Or.inl rfl), fun k hk => by rw [rI_k hk, rI_a (by decide), rI_a (by decide)]; exact k1 k hk, by rw [rI_eq, List.length_append]; rfl, fun i x hx => ?_, fun x hx => ?_, ?_, fun x hx => ?_⟩
      · rw [rI_a (by decide)]
        by_cases ci : i < N.length
        · rw [List.getElem?_append_left ci] at hx
          rw [rI_k (by omega), rI_a (by decide)]
          exact k3 i x hx
        · have hi : i = N.length := by
            have := (List.getElem?_eq_some_iff.mp hx).1
            rw [List.length_append, List.length_cons, List.length_nil] at this
            omega
          subst hi
          rw [List.getElem?_append_right (Nat.le_refl _), Nat.sub_self] at hx
          simp at hx
          rw [← hx, rI_eq]
      · rw [rI_a (by decide), rI_a (by decide)]
        by_cases cx : x = c
        · subst cx
          rw [rI_eq, if_pos (List.mem_append.mpr (Or.inr (List.mem_singleton.mpr rfl)))]
        · rw [rI_k cx, k4 x hx]
          by_cases cm : x ∈ N
          · rw [if_pos cm, if_pos (List.mem_append.mpr (Or.inl cm))]
          · rw [if_neg cm, if_neg (fun q => (List.mem_append.mp q).elim cm (fun q => cx (List.mem_singleton.mp q)))]
      · rw [List.nodup_append]
        refine ⟨k5, List.nodup_cons.mpr ⟨List.not_mem_nil, List.nodup_nil⟩, fun a ha b hb => ?_⟩
        rw [List.mem_singleton.mp hb]
        exact fun q => hm (q ▸ ha)
      · rcases List.mem_append.mp hx with hx | hx
        · exact k6 x hx
        · rw [List.mem_singleton.mp hx]; exact hc
/-- node x adds L to the needs -/
def Nt (d s : Nat) (h : am_H) (x : Int32) (L : List Nat) : Prop := ∀ g N, NL h g N → ∃ g', am_run d 233 [some (.ref 349), some (.int (nI s)), some (.int x), none, none] g none g' ∧ NL h g' (L.foldl nadd N)
theorem nd_at2 {P : Nat → Prop} {T : ntT} {n : Nat} {k a b c : Int32} {w : Int64} (hT : T = tb h (48 * s)) (F : am_fr P h g) (h1 : ¬ P 352) (h2 : ¬ P 353) (h3 : ¬ P 354) (h4 : ¬ P 355) (h5 : ¬ P 357) (ht : T n = (k, a, b, c, w)) : am_I g 352 (48 * s + n) = k ∧ am_I g 353 (48 * s + n) = a ∧ am_I g 354 (48 * s + n) = b ∧ am_I g 355 (48 * s + n) = c ∧ am_L g 357 (48 * s + n) = w := by
  rw [hT] at ht
  unfold tb at ht
  simp only [Prod.mk.injEq] at ht
  obtain ⟨t1, t2, t3, t4, t5⟩ := ht
  exact ⟨(fr_rdI F h1).trans t1, (fr_rdI F h2).trans t2, (fr_rdI F h3).trans t3, (fr_rdI F h4).trans t4, (fr_rdL F h5).trans t5⟩
theorem Nt_none : Nt d s h (-1) [] := by
  intro g N A
  refine ⟨g, fun Q => ?_, A⟩
  rw [g233_0]
  simp (disch := first | with_reducible assumption | omega | exact Or.inl rfl | exact Or.inr rfl | exact bI_01 | exact c_cat | exact vt_ref | exact vt_null | rfl | with_reducible repeat (first | assumption | omega | apply S_I | apply S_L | apply S_D | apply ob_I | apply ob_L | apply ob_D | apply ob_R | apply ax_I | apply ax_L | apply ax_D | apply ax_R | apply o303 | apply o307 | apply o302 | apply o301 | apply ax304 | apply ax305 | apply ax306 | apply ax308 | apply ax309 | apply ax310 | apply lt_S | apply ar305 | apply ar308 | apply ar309)) only [g233_1, g233_2, g233_5, eq_self, ↓reduceIte]
theorem Nt_rows {T : ntT} (S : am_S h) (hs : s < 77) (hM : M ≤ 48) (hT : T = tb h (48 * s)) (R : rows_ T M n a b) : Nt (d + 2) s h (nI n) (rgL a b) := by
  intro g N A
  obtain ⟨hn, ht, ha, hb, sd⟩ := R
  have r64 := rgN_le sd
  have Lp : ∀ r j g N, rgN a b - j = r → j ≤ rgN a b → NL h g N → ∃ g', (∀ Q, am_J (d + 2) 233 87 [some (.ref 349), some (.int (nI s)), some (.int (nI n)), some (.int (nI (48 * s + n))), some (.int (nI j))] [] g Q ↔ Q none g') ∧ NL h g' (nrng a b N j r) := by
    intro r
    induction r with
    | zero =>
      intro j g N hr hj A
      obtain rfl : j = rgN a b := by omega
      have Sg := fr_S A.1 S
      obtain ⟨u1, u2, u3, u4, u5⟩ := nd_at2 hT A.1 (by decide) (by decide) (by decide) (by decide) (by decide) ht
      have ci := fun Q => m_cellsIn (d := d + 1) (h := g) (Q := Q) ha hb sd
      refine ⟨g, fun Q => ?_, A⟩
      rw [g233_87]
      simp (disch := first | with_reducible assumption | omega | exact Or.inl rfl | exact Or.inr rfl | exact bI_01 | exact c_cat | exact vt_ref | exact vt_null | rfl | with_reducible repeat (first | assumption | omega | apply S_I | apply S_L | apply S_D | apply ob_I | apply ob_L | apply ob_D | apply ob_R | apply ax_I | apply ax_L | apply ax_D | apply ax_R | apply o303 | apply o307 | apply o302 | apply o301 | apply ax304 | apply ax305 | apply ax306 | apply ax308 | apply ax309 | apply ax310 | apply lt_S | apply ar305 | apply ar308 | apply ar309)) only [g233_89, g233_90, g233_91, g233_94, g233_95, g233_96, g233_97, g233_100, g233_101, g233_102, g233_105, g233_108, g233_109, g233_110, g233_111, g233_114, g233_115, g233_116, g233_117, g233_120, g233_121, g233_122, g233_124, g233_127, g233_130, g233_133, g233_136, Option.toList, List.nil_append, List.cons_append, va_rf, nI_ltI, nI_leI, nI_eq, nI_add, nI_sub, nI_lt0, nI_e0, nI_m1, m1_nI, Nat.reduceEqDiff, Nat.reduceLT, Nat.reduceLeDiff, Nat.reduceAdd, Nat.reduceSub, Nat.reduceMul, ↓reduceIte, eq_self, u2, u3, ci _, Nat.le_refl]
    | succ r ih =>
      intro j g N hr hj A
      have Sg := fr_S A.1 S
      obtain ⟨u1, u2, u3, u4, u5⟩ := nd_at2 hT A.1 (by decide) (by decide) (by decide) (by decide) (by decide) ht
      have ci := fun Q => m_cellsIn (d := d + 1) (h := g) (Q := Q) ha hb sd
      have co := fun Q => m_cellOf (d := d + 1) (h := g) (Q := Q) ha hb sd (j := j) (by omega)
      obtain ⟨g1, r1, A1⟩ := m_notes (d := d + 1) A S (rgC_lt hb sd (show j < rgN a b by omega))
      obtain ⟨g', r', A'⟩ := ih (j + 1) g1 (nadd N (rgC a b j)) (by omega) (by omega) A1
      refine ⟨g', fun Q => ?_, A'⟩
      rw [← r' Q, g233_87]
      simp (disch := first | with_reducible assumption | omega | exact Or.inl rfl | exact Or.inr rfl | exact bI_01 | exact c_cat | exact vt_ref | exact vt_null | rfl | with_reducible repeat (first | assumption | omega | apply S_I | apply S_L | apply S_D | apply ob_I | apply ob_L | apply ob_D | apply ob_R | apply ax_I | apply ax_L | apply ax_D | apply ax_R | apply o303 | apply o307 | apply o302 | apply o301 | apply ax304 | apply ax305 | apply ax306 | apply ax308 | apply ax309 | apply ax310 | apply lt_S | apply ar305 | apply ar308 | apply ar309)) only [g233_89, g233_90, g233_91, g233_94, g233_95, g233_96, g233_97, g233_100, g233_101, g233_102, g233_105, g233_108, g233_109, g233_110, g233_111, g233_114, g233_115, g233_116, g233_117, g233_120, g233_121, g233_122, g233_124, g233_127, g233_130, g233_133, g233_136, Option.toList, List.nil_append, List.cons_append, va_rf, nI_ltI, nI_leI, nI_eq, nI_add, nI_sub, nI_lt0, nI_e0, nI_m1, m1_nI, Nat.reduceEqDiff, Nat.reduceLT, Nat.reduceLeDiff, Nat.reduceAdd, Nat.reduceSub, Nat.reduceMul, ↓reduceIte, eq_self, u2, u3, ci _, co _, r1 _, show ¬ rgN a b ≤ j by omega]
  obtain ⟨g', r', A'⟩ := Lp (rgN a b) 0 g N (Nat.sub_zero _) (Nat.zero_le _) A
  rw [nrng_L] at A'
  have Sg := fr_S A.1 S
  obtain ⟨u1, u2, u3, u4, u5⟩ := nd_at2 hT A.1 (by decide) (by decide) (by decide) (by decide) (by decide) ht
  refine ⟨g', fun Q => ?_, A'⟩
  rw [← r' Q, g233_0]
  simp (disch := first | with_reducible assumption | omega | exact Or.inl rfl | exact Or.inr rfl | exact bI_01 | exact c_cat | exact vt_ref | exact vt_null | rfl | with_reducible repeat (first | assumption | omega | apply S_I | apply S_L | apply S_D | apply ob_I | apply ob_L | apply ob_D | apply ob_R | apply ax_I | apply ax_L | apply ax_D | apply ax_R | apply o303 | apply o307 | apply o302 | apply o301 | apply ax304 | apply ax305 | apply ax306 | apply ax308 | apply ax309 | apply ax310 | apply lt_S | apply ar305 | apply ar308 | apply ar309)) only [g233_1, g233_2, g233_5, g233_6, g233_8, g233_9, g233_10, g233_11, g233_12, g233_13, g233_14, g233_17, g233_18, g233_72, g233_73, g233_74, g233_75, g233_78, g233_79, g233_80, g233_83, g233_84, g233_85, g233_19_10, Option.toList, List.nil_append, List.cons_append, va_rf, nI_ltI, nI_leI, nI_eq, nI_add, nI_sub, nI_lt0, nI_e0, nI_m1, m1_nI, Nat.reduceEqDiff, Nat.reduceLT, Nat.reduceLeDiff, Nat.reduceAdd, Nat.reduceSub, Nat.reduceMul, ↓reduceIte, eq_self, nI_mul, u1]
theorem Nt_leaf {k : Nat} {xa xb xc : Int32} {w : Int64} {T : ntT} (S : am_S h) (hs : s < 77) (hn : n < 48) (hT : T = tb h (48 * s)) (hk : k = 1 ∨ k = 2 ∨ k = 4) (ht : T n = (nI k, xa, xb, xc, w)) : Nt d s h (nI n) [] := by
  intro g N A
  have Sg := fr_S A.1 S
  obtain ⟨u1, -⟩ := nd_at2 hT A.1 (by decide) (by decide) (by decide) (by decide) (by decide) ht
  refine ⟨g, fun Q => ?_, A⟩
  rw [g233_0]
  rcases hk with rfl | rfl | rfl
  · simp (disch := first | with_reducible assumption | omega | exact Or.inl rfl | exact Or.inr rfl | exact bI_01 | exact c_cat | exact vt_ref | exact vt_null | rfl | with_reducible repeat (first | assumption | omega | apply S_I | apply S_L | apply S_D | apply ob_I | apply ob_L | apply ob_D | apply ob_R | apply ax_I | apply ax_L | apply ax_D | apply ax_R | apply o303 | apply o307 | apply o302 | apply o301 | apply ax304 | apply ax305 | apply ax306 | apply ax308 | apply ax309 | apply ax310 | apply lt_S | apply ar305 | apply ar308 | apply ar309)) only [g233_1, g233_2, g233_5, g233_6, g233_8, g233_9, g233_10, g233_11, g233_12, g233_13, g233_14, g233_17, g233_18, g233_72, g233_19_1, Option.toList, List.nil_append, List.cons_append, va_rf, nI_ltI, nI_leI, nI_eq, nI_add, nI_sub, nI_lt0, nI_e0, nI_m1, m1_nI, Nat.reduceEqDiff, Nat.reduceLT, Nat.reduceLeDiff, Nat.reduceAdd, Nat.reduceSub, Nat.reduceMul, ↓reduceIte, eq_self, nI_mul, u1]
  · simp (disch := first | with_reducible assumption | omega | exact Or.inl rfl | exact Or.inr rfl | exact bI_01 | exact c_cat | exact vt_ref | exact vt_null | rfl | with_reducible repeat (first | assumption | omega | apply S_I | apply S_L | apply S_D | apply ob_I | apply ob_L | apply ob_D | apply ob_R | apply ax_I | apply ax_L | apply ax_D | apply ax_R | apply o303 | apply o307 | apply o302 | apply o301 | apply ax304 | apply ax305 | apply ax306 | apply ax308 | apply ax309 | apply ax310 | apply lt_S | apply ar305 | apply ar308 | apply ar309)) only [g233_1, g233_2, g233_5, g233_6, g233_8, g233_9, g233_10, g233_11, g233_12, g233_13, g233_14, g233_17, g233_18, g233_72, g233_19_2, Option.toList, List.nil_append, List.cons_append, va_rf, nI_ltI, nI_leI, nI_eq, nI_add, nI_sub, nI_lt0, nI_e0, nI_m1, m1_nI, Nat.reduceEqDiff, Nat.reduceLT, Nat.reduceLeDiff, Nat.reduceAdd, Nat.reduceSub, Nat.reduceMul, ↓reduceIte, eq_self, nI_mul, u1]
  · simp (disch := first | with_reducible assumption | omega | exact Or.inl rfl | exact Or.inr rfl | exact bI_01 | exact c_cat | exact vt_ref | exact vt_null | rfl | with_reducible repeat (first | assumption | omega | apply S_I | apply S_L | apply S_D | apply ob_I | apply ob_L | apply ob_D | apply ob_R | apply ax_I | apply ax_L | apply ax_D | apply ax_R | apply o303 | apply o307 | apply o302 | apply o301 | apply ax304 | apply ax305 | apply ax306 | apply ax308 | apply ax309 | apply ax310 | apply lt_S | apply ar305 | apply ar308 | apply ar309)) only [g233_1, g233_2, g233_5, g233_6, g233_8, g233_9, g233_10, g233_11, g233_12, g233_13, g233_14, g233_17, g233_18, g233_72, g233_19_4, Option.toList, List.nil_append, List.cons_append, va_rf, nI_ltI, nI_leI, nI_eq, nI_add, nI_sub, nI_lt0, nI_e0, nI_m1, m1_nI, Nat.reduceEqDiff, Nat.reduceLT, Nat.reduceLeDiff, Nat.reduceAdd, Nat.reduceSub, Nat.reduceMul, ↓reduceIte, eq_self, nI_mul, u1]
theorem Nt_call {k : Nat} {xa xb xc : Int32} {w : Int64} {La Lb Lc : List Nat} {T : ntT} (S : am_S h) (hs : s < 77) (hn : n < 48) (hT : T = tb h (48 * s)) (hk : k = 7 ∨ k = 8 ∨ k = 9) (ht : T n = (nI k, xa, xb, xc, w)) (A : Nt d s h xa La) (B : Nt d s h xb Lb) (C : Nt d s h xc Lc) : Nt (d + 1) s h (nI n) (La ++ Lb ++ Lc) := by
  intro g N K
  obtain ⟨g1, r1, K1⟩ := A g N K
  obtain ⟨g2, r2, K2⟩ := B g1 _ K1
  obtain ⟨g3, r3, K3⟩ := C g2 _ K2
  have Sg := fr_S K.1 S
  have S1 := fr_S K1.1 S
  have S2 := fr_S K2.1 S
  obtain ⟨u1, u2, -⟩ := nd_at2 hT K.1 (by decide) (by decide) (by decide) (by decide) (by decide) ht
  obtain ⟨-, -, u3, -⟩ := nd_at2 hT K1.1 (by decide) (by decide) (by decide) (by decide) (by decide) ht
  obtain ⟨-, -, -, u4, -⟩ := nd_at2 hT K2.1 (by decide) (by decide) (by decide) (by decide) (by decide) ht
  refine ⟨g3, fun Q => ?_, by rw [List.foldl_append, List.foldl_append]; exact K3⟩
  rw [g233_0]
  rcases hk with rfl | rfl | rfl
  · simp (disch := first | with_reducible assumption | omega | exact Or.inl rfl | exact Or.inr rfl | exact bI_01 | exact c_cat | exact vt_ref | exact vt_null | rfl | with_reducible repeat (first | assumption | omega | apply S_I | apply S_L | apply S_D | apply ob_I | apply ob_L | apply ob_D | apply ob_R | apply ax_I | apply ax_L | apply ax_D | apply ax_R | apply o303 | apply o307 | apply o302 | apply o301 | apply ax304 | apply ax305 | apply ax306 | apply ax308 | apply ax309 | apply ax310 | apply lt_S | apply ar305 | apply ar308 | apply ar309)) only [g233_1, g233_2, g233_5, g233_6, g233_8, g233_9, g233_10, g233_11, g233_12, g233_13, g233_14, g233_17, g233_18, g233_72, g233_73, g233_74, g233_75, g233_78, g233_79, g233_80, g233_83, g233_84, g233_85, g233_87, g233_89, g233_90, g233_91, g233_94, g233_95, g233_96, g233_97, g233_100, g233_101, g233_102, g233_105, g233_108, g233_109, g233_110, g233_111, g233_114, g233_115, g233_116, g233_117, g233_120, g233_121, g233_122, g233_124, g233_127, g233_130, g233_133, g233_136, g233_137, g233_138, g233_139, g233_140, g233_143, g233_144, g233_145, g233_148, g233_149, g233_150, g233_151, g233_152, g233_155, g233_156, g233_157, g233_160, g233_161, g233_162, g233_163, g233_166, g233_167, g233_168, g233_171, g233_172, g233_173, g233_174, g233_175, g233_178, g233_179, g233_180, g233_183, g233_184, g233_185, g233_186, g233_189, g233_190, g233_191, g233_194, g233_195, g233_196, g233_197, g233_200, g233_201, g233_202, g233_205, g233_19_7, Option.toList, List.nil_append, List.cons_append, va_rf, nI_ltI, nI_leI, nI_eq, nI_add, nI_sub, nI_lt0, nI_e0, nI_m1, m1_nI, Nat.reduceEqDiff, Nat.reduceLT, Nat.reduceLeDiff, Nat.reduceAdd, Nat.reduceSub, Nat.reduceMul, ↓reduceIte, eq_self, nI_mul, u1, u2, u3, u4, r1 _, r2 _, r3 _]
  · simp (disch := first | with_reducible assumption | omega | exact Or.inl rfl | exact Or.inr rfl | exact bI_01 | exact c_cat | exact vt_ref | exact vt_null | rfl | with_reducible repeat (first | assumption | omega | apply S_I | apply S_L | apply S_D | apply ob_I | apply ob_L | apply ob_D | apply ob_R | apply ax_I | apply ax_L | apply ax_D | apply ax_R | apply o303 | apply o307 | apply o302 | apply o301 | apply ax304 | apply ax305 | apply ax306 | apply ax308 | apply ax309 | apply ax310 | apply lt_S | apply ar305 | apply ar308 | apply ar309)) only [g233_1, g233_2, g233_5, g233_6, g233_8, g233_9, g233_10, g233_11, g233_12, g233_13, g233_14, g233_17, g233_18, g233_72, g233_73, g233_74, g233_75, g233_78, g233_79, g233_80, g233_83, g233_84, g233_85, g233_87, g233_89, g233_90, g233_91, g233_94, g233_95, g233_96, g233_97, g233_100, g233_101, g233_102, g233_105, g233_108, g233_109, g233_110, g233_111, g233_114, g233_115, g233_116, g233_117, g233_120, g233_121, g233_122, g233_124, g233_127, g233_130, g233_133, g233_136, g233_137, g233_138, g233_139, g233_140, g233_143, g233_144, g233_145, g233_148, g233_149, g233_150, g233_151, g233_152, g233_155, g233_156, g233_157, g233_160, g233_161, g233_162, g233_163, g233_166, g233_167, g233_168, g233_171, g233_172, g233_173, g233_174, g233_175, g233_178, g233_179, g233_180, g233_183, g233_184, g233_185, g233_186, g233_189, g233_190, g233_191, g233_194, g233_195, g233_196, g233_197, g233_200, g233_201, g233_202, g233_205, g233_19_8, Option.toList, List.nil_append, List.cons_append, va_rf, nI_ltI, nI_leI, nI_eq, nI_add, nI_sub, nI_lt0, nI_e0, nI_m1, m1_nI, Nat.reduceEqDiff, Nat.reduceLT, Nat.reduceLeDiff, Nat.reduceAdd, Nat.reduceSub, Nat.reduceMul, ↓reduceIte, eq_self, nI_mul, u1, u2, u3, u4, r1 _, r2 _, r3 _]
  · simp (disch := first | with_reducible assumption | omega | exact Or.inl rfl | exact Or.inr rfl | exact bI_01 | exact c_cat | exact vt_ref | exact vt_null | rfl | with_reducible repeat (first | assumption | omega | apply S_I | apply S_L | apply S_D | apply ob_I | apply ob_L | apply ob_D | apply ob_R | apply ax_I | apply ax_L | apply ax_D | apply ax_R | apply o303 | apply o307 | apply o302 | apply o301 | apply ax304 | apply ax305 | apply ax306 | apply ax308 | apply ax309 | apply ax310 | apply lt_S | apply ar305 | apply ar308 | apply ar309)) only [g233_1, g233_2, g233_5, g233_6, g233_8, g233_9, g233_10, g233_11, g233_12, g233_13, g233_14, g233_17, g233_18, g233_72, g233_73, g233_74, g233_75, g233_78, g233_79, g233_80, g233_83, g233_84, g233_85, g233_87, g233_89, g233_90, g233_91, g233_94, g233_95, g233_96, g233_97, g233_100, g233_101, g233_102, g233_105, g233_108, g233_109, g233_110, g233_111, g233_114, g233_115, g233_116, g233_117, g233_120, g233_121, g233_122, g233_124, g233_127, g233_130, g233_133, g233_136, g233_137, g233_138, g233_139, g233_140, g233_143, g233_144, g233_145, g233_148, g233_149, g233_150, g233_151, g233_152, g233_155, g233_156, g233_157, g233_160, g233_161, g233_162, g233_163, g233_166, g233_167, g233_168, g233_171, g233_172, g233_173, g233_174, g233_175, g233_178, g233_179, g233_180, g233_183, g233_184, g233_185, g233_186, g233_189, g233_190, g233_191, g233_194, g233_195, g233_196, g233_197, g233_200, g233_201, g233_202, g233_205, g233_19_9, Option.toList, List.nil_append, List.cons_append, va_rf, nI_ltI, nI_leI, nI_eq, nI_add, nI_sub, nI_lt0, nI_e0, nI_m1, m1_nI, Nat.reduceEqDiff, Nat.reduceLT, Nat.reduceLeDiff, Nat.reduceAdd, Nat.reduceSub, Nat.reduceMul, ↓reduceIte, eq_self, nI_mul, u1, u2, u3, u4, r1 _, r2 _, r3 _]
theorem Nt_cast {x : Int32} {L L' : List Nat} (A : Nt d s h x L) (e : L = L') : Nt d s h x L' := e ▸ A
theorem m_listNode {fn : Bool} {kn : Nat} {T : ntT} {pN pF : Nat → List Nat} (S : am_S h) (hs : s < 77) (hM : M ≤ 48) (hT : T = tb h (48 * s)) :
    ∀ z n D E L G', Rp fn kn T M pN pF z n D E L G' → ∀ d, z + 4 ≤ d → Nt d s h (nI n) L := by
  intro z
  induction z using Nat.strongRecOn with
  | _ z ih =>
    intro n D E L G' hR d hd
    obtain ⟨f', rfl, hn, hR⟩ := Rp_S hR
    obtain ⟨d, rfl⟩ : ∃ d', d = d' + 4 := ⟨d - 4, by omega⟩
    have i1 := fun n D E L G' (q : Rp fn kn T M pN pF f' n D E L G') => ih f' (by omega) n D E L G' q (d + 3) (by omega)
    have i2 := fun n D E L G' (q : Rp fn kn T M pN pF (f' - 41) n D E L G') => ih (f' - 41) (by omega) n D E L G' q (d + 3) (by omega)
    clear ih
    have rw_ := fun i a b (R : rows_ T M i a b) => Nt_rows (d := d + 1) (s := s) S hs hM hT R
    have hn8 : n < 48 := by omega
    rcases hR with hR | hR | hR | hR | hR | hR | hR | hR | hR | hR | hR | hR | hR | hR | hR | hR | hR
    · obtain ⟨v, c0, ht, -, -, rfl, -⟩ := hR
      exact Nt_leaf S hs hn8 hT (Or.inl rfl) ht
    · obtain ⟨v, b, c0, c1, c2, ht, -, -, rfl, -⟩ := hR
      exact Nt_leaf S hs hn8 hT (Or.inr (Or.inl rfl)) ht
    · obtain ⟨c, c0, c1, c2, ht, -, -, rfl, -⟩ := hR
      intro g N K
      have Sg := fr_S K.1 S
      obtain ⟨u1, u2, -⟩ := nd_at2 hT K.1 (by decide) (by decide) (by decide) (by decide) (by decide) ht
      obtain ⟨g1, r1, K1⟩ := m_notes (d := d + 3) K S c2
      refine ⟨g1, fun Q => ?_, K1⟩
      rw [g233_0]
      simp (disch := first | with_reducible assumption | omega | exact Or.inl rfl | exact Or.inr rfl | exact bI_01 | exact c_cat | exact vt_ref | exact vt_null | rfl | with_reducible repeat (first | assumption | omega | apply S_I | apply S_L | apply S_D | apply ob_I | apply ob_L | apply ob_D | apply ob_R | apply ax_I | apply ax_L | apply ax_D | apply ax_R | apply o303 | apply o307 | apply o302 | apply o301 | apply ax304 | apply ax305 | apply ax306 | apply ax308 | apply ax309 | apply ax310 | apply lt_S | apply ar305 | apply ar308 | apply ar309)) only [g233_1, g233_2, g233_5, g233_6, g233_8, g233_9, g233_10, g233_11, g233_12, g233_13, g233_14, g233_17, g233_18, g233_72, g233_73, g233_74, g233_75, g233_78, g233_79, g233_80, g233_83, g233_19_3, Option.toList, List.nil_append, List.cons_append, va_rf, nI_ltI, nI_leI, nI_eq, nI_add, nI_sub, nI_lt0, nI_e0, nI_m1, m1_nI, Nat.reduceEqDiff, Nat.reduceLT, Nat.reduceLeDiff, Nat.reduceAdd, Nat.reduceSub, Nat.reduceMul, ↓reduceIte, eq_self, nI_mul, u1, u2, r1 _]
    · obtain ⟨k, c0, ht, -, -, rfl, -⟩ := hR
      exact Nt_leaf S hs hn8 hT (Or.inr (Or.inr rfl)) ht
    · obtain ⟨i, D1, E1, L1, G1, c0, ht, k0, -, -, rfl, -⟩ := hR
      intro g N K
      have Sg := fr_S K.1 S
      obtain ⟨u1, u2, -⟩ := nd_at2 hT K.1 (by decide) (by decide) (by decide) (by decide) (by decide) ht
      obtain ⟨g1, r1, K1⟩ := i1 _ _ _ _ _ k0 g N K
      refine ⟨g1, fun Q => ?_, K1⟩
      rw [g233_0]
      simp (disch := first | with_reducible assumption | omega | exact Or.inl rfl | exact Or.inr rfl | exact bI_01 | exact c_cat | exact vt_ref | exact vt_null | rfl | with_reducible repeat (first | assumption | omega | apply S_I | apply S_L | apply S_D | apply ob_I | apply ob_L | apply ob_D | apply ob_R | apply ax_I | apply ax_L | apply ax_D | apply ax_R | apply o303 | apply o307 | apply o302 | apply o301 | apply ax304 | apply ax305 | apply ax306 | apply ax308 | apply ax309 | apply ax310 | apply lt_S | apply ar305 | apply ar308 | apply ar309)) only [g233_1, g233_2, g233_5, g233_6, g233_8, g233_9, g233_10, g233_11, g233_12, g233_13, g233_14, g233_17, g233_18, g233_72, g233_73, g233_74, g233_75, g233_78, g233_79, g233_80, g233_83, g233_84, g233_85, g233_87, g233_89, g233_90, g233_91, g233_94, g233_95, g233_96, g233_97, g233_100, g233_101, g233_102, g233_105, g233_108, g233_109, g233_110, g233_111, g233_114, g233_115, g233_116, g233_117, g233_120, g233_121, g233_122, g233_124, g233_127, g233_130, g233_133, g233_136, g233_137, g233_138, g233_139, g233_140, g233_143, g233_144, g233_145, g233_148, g233_149, g233_150, g233_151, g233_152, g233_155, g233_156, g233_157, g233_160, g233_161, g233_162, g233_163, g233_166, g233_167, g233_168, g233_171, g233_172, g233_173, g233_174, g233_175, g233_178, g233_179, g233_180, g233_183, g233_184, g233_185, g233_186, g233_189, g233_190, g233_191, g233_194, g233_195, g233_196, g233_197, g233_200, g233_201, g233_202, g233_205, g233_19_5, Option.toList, List.nil_append, List.cons_append, va_rf, nI_ltI, nI_leI, nI_eq, nI_add, nI_sub, nI_lt0, nI_e0, nI_m1, m1_nI, Nat.reduceEqDiff, Nat.reduceLT, Nat.reduceLeDiff, Nat.reduceAdd, Nat.reduceSub, Nat.reduceMul, ↓reduceIte, eq_self, nI_mul, u1, u2, r1 _]
    · obtain ⟨o, i, j, D1, E1, L1, G1, D2, E2, L2, G2, c0, c1, c2, ht, k0, k1, -, -, rfl, -⟩ := hR
      intro g N K
      have Sg := fr_S K.1 S
      obtain ⟨u1, u2, u3, -⟩ := nd_at2 hT K.1 (by decide) (by decide) (by decide) (by decide) (by decide) ht
      obtain ⟨g1, r1, K1⟩ := i1 _ _ _ _ _ k0 g N K
      have S1 := fr_S K1.1 S
      obtain ⟨-, -, -, u4, -⟩ := nd_at2 hT K1.1 (by decide) (by decide) (by decide) (by decide) (by decide) ht
      obtain ⟨g2, r2, K2⟩ := i1 _ _ _ _ _ k1 g1 _ K1
      refine ⟨g2, fun Q => ?_, by rw [List.foldl_append]; exact K2⟩
      rw [g233_0]
      simp (disch := first | with_reducible assumption | omega | exact Or.inl rfl | exact Or.inr rfl | exact bI_01 | exact c_cat | exact vt_ref | exact vt_null | rfl | with_reducible repeat (first | assumption | omega | apply S_I | apply S_L | apply S_D | apply ob_I | apply ob_L | apply ob_D | apply ob_R | apply ax_I | apply ax_L | apply ax_D | apply ax_R | apply o303 | apply o307 | apply o302 | apply o301 | apply ax304 | apply ax305 | apply ax306 | apply ax308 | apply ax309 | apply ax310 | apply lt_S | apply ar305 | apply ar308 | apply ar309)) only [g233_1, g233_2, g233_5, g233_6, g233_8, g233_9, g233_10, g233_11, g233_12, g233_13, g233_14, g233_17, g233_18, g233_72, g233_73, g233_74, g233_75, g233_78, g233_79, g233_80, g233_83, g233_84, g233_85, g233_87, g233_89, g233_90, g233_91, g233_94, g233_95, g233_96, g233_97, g233_100, g233_101, g233_102, g233_105, g233_108, g233_109, g233_110, g233_111, g233_114, g233_115, g233_116, g233_117, g233_120, g233_121, g233_122, g233_124, g233_127, g233_130, g233_133, g233_136, g233_137, g233_138, g233_139, g233_140, g233_143, g233_144, g233_145, g233_148, g233_149, g233_150, g233_151, g233_152, g233_155, g233_156, g233_157, g233_160, g233_161, g233_162, g233_163, g233_166, g233_167, g233_168, g233_171, g233_172, g233_173, g233_174, g233_175, g233_178, g233_179, g233_180, g233_183, g233_184, g233_185, g233_186, g233_189, g233_190, g233_191, g233_194, g233_195, g233_196, g233_197, g233_200, g233_201, g233_202, g233_205, g233_19_6, Option.toList, List.nil_append, List.cons_append, va_rf, nI_ltI, nI_leI, nI_eq, nI_add, nI_sub, nI_lt0, nI_e0, nI_m1, m1_nI, Nat.reduceEqDiff, Nat.reduceLT, Nat.reduceLeDiff, Nat.reduceAdd, Nat.reduceSub, Nat.reduceMul, ↓reduceIte, eq_self, nI_mul, u1, u3, u4, r1 _, r2 _]
    · obtain ⟨i, j, l, D1, E1, L1, G1, D2, E2, L2, G2, D3, E3, L3, G3, c0, c1, c2, ht, k0, k1, k2, -, -, rfl, -⟩ := hR
      exact Nt_call S hs hn8 hT (Or.inl rfl) ht (i2 _ _ _ _ _ k0) (i2 _ _ _ _ _ k1) (i2 _ _ _ _ _ k2)
    · obtain ⟨i, j, D1, E1, L1, G1, D2, E2, L2, G2, c0, c1, ht, k0, k1, -, -, rfl, -⟩ := hR
      exact Nt_cast (Nt_call S hs hn8 hT (Or.inl rfl) ht (i2 _ _ _ _ _ k0) (i2 _ _ _ _ _ k1) Nt_none) (List.append_nil _)
    · obtain ⟨w, i, a, b, c0, c1, c2, c3, c4, ht, r0, -, -, rfl, -⟩ := hR
      exact Nt_cast (Nt_call S hs hn8 hT (Or.inl rfl) ht (rw_ _ _ _ r0) Nt_none Nt_none) (by rw [List.append_nil, List.append_nil])
    · obtain ⟨i, j, a, b, D2, E2, L2, G2, c0, c1, c2, c3, ht, r0, k0, -, -, rfl, -⟩ := hR
      exact Nt_cast (Nt_call S hs hn8 hT (Or.inl rfl) ht (rw_ _ _ _ r0) (i2 _ _ _ _ _ k0) Nt_none) (List.append_nil _)
    · obtain ⟨i, j, l, a, b, a', b', D1, E1, L1, G1, c0, c1, c2, c3, c4, ht, r0, r1, k0, -, -, rfl, -⟩ := hR
      exact Nt_call S hs hn8 hT (Or.inl rfl) ht (i2 _ _ _ _ _ k0) (rw_ _ _ _ r0) (rw_ _ _ _ r1)
    · obtain ⟨i, j, a, b, a', b', c0, c1, c2, c3, ht, r0, r1, -, -, rfl, -⟩ := hR
      exact Nt_cast (Nt_call S hs hn8 hT (Or.inl rfl) ht (rw_ _ _ _ r0) (rw_ _ _ _ r1) Nt_none) (List.append_nil _)
    · obtain ⟨w, i, D1, E1, L1, G1, c0, c1, c2, ht, k0, -, -, rfl, -⟩ := hR
      exact Nt_cast (Nt_call S hs hn8 hT (Or.inl rfl) ht (i2 _ _ _ _ _ k0) Nt_none Nt_none) (by rw [List.append_nil, List.append_nil])
    · obtain ⟨f, i, D1, E1, L1, G1, c0, c1, c2, ht, k0, -, -, rfl, -⟩ := hR
      exact Nt_cast (Nt_call S hs hn8 hT (Or.inr (Or.inl rfl)) ht (i2 _ _ _ _ _ k0) Nt_none Nt_none) (by rw [List.append_nil, List.append_nil])
    · obtain ⟨f, i, j, D1, E1, L1, G1, D2, E2, L2, G2, c0, c1, c2, c3, ht, k0, k1, -, -, rfl, -⟩ := hR
      exact Nt_cast (Nt_call S hs hn8 hT (Or.inr (Or.inl rfl)) ht (i2 _ _ _ _ _ k0) (i2 _ _ _ _ _ k1) Nt_none) (List.append_nil _)
    · obtain ⟨f, i, j, l, D1, E1, L1, G1, D2, E2, L2, G2, D3, E3, L3, G3, c0, c1, c2, c3, c4, ht, k0, k1, k2, -, -, rfl, -⟩ := hR
      exact Nt_call S hs hn8 hT (Or.inr (Or.inl rfl)) ht (i2 _ _ _ _ _ k0) (i2 _ _ _ _ _ k1) (i2 _ _ _ _ _ k2)
    · obtain ⟨f, i, j, D1, E1, L1, G1, D2, E2, L2, G2, c0, c1, c2, c3, ht, k0, k1, -, -, rfl, -⟩ := hR
      exact Nt_cast (Nt_call S hs hn8 hT (Or.inr (Or.inr rfl)) ht (i2 _ _ _ _ _ k0) (i2 _ _ _ _ _ k1) Nt_none) (List.append_nil _)
/-- what the model finds as the needs of c -/
def MNd (h : am_H) (c : Nat) (N : List Nat) : Prop := (am_I h 369 c = -1 ∧ N = []) ∨ ∃ s r z kn m fn pN pF D E L G, s < 77 ∧ m ≤ 48 ∧ z ≤ 450 ∧ am_I h 369 c = nI s ∧ am_I h 356 s = nI r ∧ Rp fn kn (tb h (48 * s)) m pN pF z r D E L G ∧ N = L.foldl nadd []
theorem MNd_fr {P : Nat → Prop} (F : am_fr P h g) (h1 : ¬ P 352) (h2 : ¬ P 353) (h3 : ¬ P 354) (h4 : ¬ P 355) (h5 : ¬ P 357) (h6 : ¬ P 356) (h7 : ¬ P 369) (A : MNd h c N) : MNd g c N := by
  rcases A with ⟨a1, a2⟩ | ⟨s, r, z, kn, m, fn, pN, pF, D, E, L, G, a1, a2, a3, a4, a5, a6, a7⟩
  · exact Or.inl ⟨(fr_rdI F h7).trans a1, a2⟩
  · exact Or.inr ⟨s, r, z, kn, m, fn, pN, pF, D, E, L, G, a1, a2, a3, (fr_rdI F h7).trans a4, (fr_rdI F h6).trans a5, by rw [← tb_fr F h1 h2 h3 h4 h5]; exact a6, a7⟩
theorem m_listZero (S : am_S h) (hc : c < 256) {x : Int32} : ∀ r i g, 256 - i = r → i ≤ 256 → am_fr (fun a => a = 349 ∨ a = 390 ∨ a = 398) h g → (∀ k, k ≠ 83 → am_I g 349 k = am_I h 349 k) → am_I g 349 83 = nI 0 → (∀ j, j < i → am_I g 390 j = nI 0) → ∃ g', (∀ Q, am_J d 232 7 [some (.ref 349), some (.int x), some (.int (nI i))] [] g Q ↔ am_J d 232 27 [some (.ref 349), some (.int x), some (.int (nI 256))] [] g' Q) ∧ NL h g' [] := by
  intro r
  induction r with
  | zero =>
    intro i g hr hi F k1 k2 k3
    obtain rfl : i = 256 := by omega
    refine ⟨g, fun Q => ?_, F, k1, k2, fun i x hx => absurd hx (by simp), fun j hj => ?_, List.nodup_nil, fun x hx => absurd hx List.not_mem_nil⟩
    · rw [g232_7]
      simp (disch := first | with_reducible assumption | omega | exact Or.inl rfl | exact Or.inr rfl | exact bI_01 | exact c_cat | exact vt_ref | exact vt_null | rfl | with_reducible repeat (first | assumption | omega | apply S_I | apply S_L | apply S_D | apply ob_I | apply ob_L | apply ob_D | apply ob_R | apply ax_I | apply ax_L | apply ax_D | apply ax_R | apply o303 | apply o307 | apply o302 | apply o301 | apply ax304 | apply ax305 | apply ax306 | apply ax308 | apply ax309 | apply ax310 | apply lt_S | apply ar305 | apply ar308 | apply ar309)) only [g232_8, g232_11, g232_14, g232_15, g232_18, g232_19, g232_20, g232_21, g232_24, nI_ltI, nI_leI, nI_eq, nI_add, nI_sub, nI_lt0, nI_e0, nI_m1, m1_nI, Nat.reduceEqDiff, Nat.reduceLT, Nat.reduceLeDiff, Nat.reduceAdd, Nat.reduceSub, Nat.reduceMul, ↓reduceIte, eq_self]
    · rw [k3 j hj, if_neg List.not_mem_nil]
  | succ r ih =>
    intro i g hr hi F k1 k2 k3
    have Sg := fr_S F S
    obtain ⟨g', r', A⟩ := ih (i + 1) (am_setI g 390 i (nI 0)) (by omega) (by omega) (fr_I F (Or.inr (Or.inl rfl))) (fun k hk => by rw [rI_a (by decide)]; exact k1 k hk) (by rw [rI_a (by decide)]; exact k2) (fun j hj => by
      by_cases cj : j = i
      · rw [cj, rI_eq]
      · rw [rI_k cj]; exact k3 j (by omega))
    refine ⟨g', fun Q => ?_, A⟩
    rw [← r' Q, g232_7]
    simp (disch := first | with_reducible assumption | omega | exact Or.inl rfl | exact Or.inr rfl | exact bI_01 | exact c_cat | exact vt_ref | exact vt_null | rfl | with_reducible repeat (first | assumption | omega | apply S_I | apply S_L | apply S_D | apply ob_I | apply ob_L | apply ob_D | apply ob_R | apply ax_I | apply ax_L | apply ax_D | apply ax_R | apply o303 | apply o307 | apply o302 | apply o301 | apply ax304 | apply ax305 | apply ax306 | apply ax308 | apply ax309 | apply ax310 | apply lt_S | apply ar305 | apply ar308 | apply ar309)) only [g232_8, g232_11, g232_14, g232_15, g232_18, g232_19, g232_20, g232_21, g232_24, nI_ltI, nI_leI, nI_eq, nI_add, nI_sub, nI_lt0, nI_e0, nI_m1, m1_nI, Nat.reduceEqDiff, Nat.reduceLT, Nat.reduceLeDiff, Nat.reduceAdd, Nat.reduceSub, Nat.reduceMul, ↓reduceIte, eq_self, show ¬ 256 ≤ i by omega]
theorem m_listNeeds (S : am_S h) (hc : c < 256) (A : MNd h c N) : ∃ g, am_run (d + 460) 232 [some (.ref 349), some (.int (nI c)), none] h none g ∧ NL h g N := by
  have S0 : am_S (am_setI h 349 83 (nI 0)) := S
  obtain ⟨g1, r1, K1⟩ := m_listZero (d := d + 460) (x := nI c) S hc 256 0 (am_setI h 349 83 (nI 0)) rfl (by decide) (fr_I fr_refl (Or.inl rfl)) (fun k hk => rI_k hk) rI_eq (fun j hj => absurd hj (Nat.not_lt_zero _))
  have S1 := fr_S K1.1 S
  have e0 : ∀ Q, am_J (d + 460) 232 0 [some (.ref 349), some (.int (nI c)), none] [] h Q ↔ am_J (d + 460) 232 7 [some (.ref 349), some (.int (nI c)), some (.int (nI 0))] [] (am_setI h 349 83 (nI 0)) Q := fun Q => by
    simp (disch := first | with_reducible assumption | omega | exact Or.inl rfl | exact Or.inr rfl | exact bI_01 | exact c_cat | exact vt_ref | exact vt_null | rfl | with_reducible repeat (first | assumption | omega | apply S_I | apply S_L | apply S_D | apply ob_I | apply ob_L | apply ob_D | apply ob_R | apply ax_I | apply ax_L | apply ax_D | apply ax_R | apply o303 | apply o307 | apply o302 | apply o301 | apply ax304 | apply ax305 | apply ax306 | apply ax308 | apply ax309 | apply ax310 | apply lt_S | apply ar305 | apply ar308 | apply ar309)) only [g232_0, g232_1, g232_2, g232_5, g232_6, Option.toList, List.nil_append, List.cons_append, va_rf]
  rcases A with ⟨a1, rfl⟩ | ⟨s, r, z, kn, m, fn, pN, pF, D, E, L, G, a1, a2, a3, a4, a5, a6, rfl⟩
  · have b1 : am_I g1 369 c = -1 := (fr_rdI K1.1 (by decide)).trans a1
    refine ⟨g1, fun Q => ?_, K1⟩
    rw [e0, r1]
    simp (disch := first | with_reducible assumption | omega | exact Or.inl rfl | exact Or.inr rfl | exact bI_01 | exact c_cat | exact vt_ref | exact vt_null | rfl | with_reducible repeat (first | assumption | omega | apply S_I | apply S_L | apply S_D | apply ob_I | apply ob_L | apply ob_D | apply ob_R | apply ax_I | apply ax_L | apply ax_D | apply ax_R | apply o303 | apply o307 | apply o302 | apply o301 | apply ax304 | apply ax305 | apply ax306 | apply ax308 | apply ax309 | apply ax310 | apply lt_S | apply ar305 | apply ar308 | apply ar309)) only [g232_27, g232_28, g232_31, g232_32, g232_33, g232_34, g232_37, g232_38, g232_39, g232_42, g232_43, g232_44, g232_45, g232_48, g232_49, g232_52, g232_53, g232_54, g232_55, g232_58, Option.toList, List.nil_append, List.cons_append, va_rf, b1, ↓reduceIte, eq_self]
  · have b4 : am_I g1 369 c = nI s := (fr_rdI K1.1 (by decide)).trans a4
    have b5 : am_I g1 356 s = nI r := (fr_rdI K1.1 (by decide)).trans a5
    obtain ⟨g2, r2, K2⟩ := m_listNode S a1 a2 rfl z r D E L G a6 (d + 459) (by omega) g1 [] K1
    refine ⟨g2, fun Q => ?_, K2⟩
    rw [e0, r1]
    simp (disch := first | with_reducible assumption | omega | exact Or.inl rfl | exact Or.inr rfl | exact bI_01 | exact c_cat | exact vt_ref | exact vt_null | rfl | with_reducible repeat (first | assumption | omega | apply S_I | apply S_L | apply S_D | apply ob_I | apply ob_L | apply ob_D | apply ob_R | apply ax_I | apply ax_L | apply ax_D | apply ax_R | apply o303 | apply o307 | apply o302 | apply o301 | apply ax304 | apply ax305 | apply ax306 | apply ax308 | apply ax309 | apply ax310 | apply lt_S | apply ar305 | apply ar308 | apply ar309)) only [g232_27, g232_28, g232_31, g232_32, g232_33, g232_34, g232_37, g232_38, g232_39, g232_42, g232_43, g232_44, g232_45, g232_48, g232_49, g232_52, g232_53, g232_54, g232_55, g232_58, Option.toList, List.nil_append, List.cons_append, va_rf, nI_ltI, nI_leI, nI_eq, nI_add, nI_sub, nI_lt0, nI_e0, nI_m1, m1_nI, Nat.reduceEqDiff, Nat.reduceLT, Nat.reduceLeDiff, Nat.reduceAdd, Nat.reduceSub, Nat.reduceMul, ↓reduceIte, eq_self, b4, b5, r2 _]
end NDS

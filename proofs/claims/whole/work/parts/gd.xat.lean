/-! THE CLASS: nodes over rows, a cell of rows -/
section XAT
variable {h g g' ga : am_H} {o sa dp d e b f s sh nn tm p n T a b' w : Nat} {rr : Option Nat} {v1 v2 v3 : Option Value} {tt : Nat → ntT} {rt : Nat → Nat} {cv : Nat → Option (Option VL)} {cs : Nat → Nat → VL} {as : List VL} {st : List VL} {ts : List (Nat × Nat × Nat)} {σ : SR} {u v : VL} {P : Nat → Prop} {D : List (Int32 × Int64)}
theorem rwL_at {T : ntT} {M i a b' : Nat} (R : rows_ T M i a b') : rwL T i = rgL a b' := by
  obtain ⟨-, e, ha, hb, -⟩ := R
  unfold rwL
  rw [e]
  show rgL (xN (nI a)) (xN (nI b')) = _
  rw [xN_n (by omega), xN_n (by omega)]
theorem o_fold_ (h4 : 402 ≤ h.1) (ho : o < 278 ∨ 299 < o) (C : cvX h cv P) (ha : a < 256) (hb : b' < 256) (sd : rgS a b' = true) (hw : w = 2 ∨ w = 3 ∨ w = 4 ∨ w = 5) (hP : ∀ j, j < rgN a b' → P (rgC a b' j)) (hl : st.length + 2 < 1024) (A : XS h ga o rr sa dp ts σ) (Z : KZ ga) (N : NS ga st) :
    ∃ g', am_run (d + 4) 40 [some (.ref 9), some (.ref (278 + dp)), some (.int (nI (18 + w))), some (.long (lN (a + 256 * b'))), none] ga none g' ∧ OPx h g' o rr sa dp ts st (evFold cv w (rgL a b') 0 (.inl 0) σ) ∧ FA ga g' := by
  have S := A.2.1
  obtain ⟨g', r1, OO, F1⟩ := x_foldL (d := d) h4 ho C ha hb sd hw hP hl (rgN a b') 0 0 (.inl 0) σ ga (by omega) (by omega) (by omega) A Z (by rw [if_pos (Or.inr rfl)]; exact N)
  rw [rgF_0] at OO
  refine ⟨g', fun Q => ?_, OO, F1⟩
  have rs := fun h Q => x_rangeSize (d := d + 2) (h := h) (Q := Q) (v1 := none) (v2 := none) ha hb sd
  rcases hw with rfl | rfl | rfl | rfl
  · simp (disch := first | with_reducible assumption | omega | exact Or.inl rfl | exact Or.inr rfl | exact bI_01 | exact c_cat | exact vt_ref | exact vt_null | rfl | with_reducible repeat (first | assumption | omega | apply S_I | apply S_L | apply S_D | apply ob_I | apply ob_L | apply ob_D | apply ob_R | apply ax_I | apply ax_L | apply ax_D | apply ax_R | apply o303 | apply o307 | apply o302 | apply o301 | apply ax304 | apply ax305 | apply ax306 | apply ax308 | apply ax309 | apply ax310 | apply lt_S | apply ar305 | apply ar308 | apply ar309)) only [g40_0, Nat.reduceAdd, g40_1_20, g40_237, g40_238, g40_239, g40_240, g40_241, g40_244, g40_302, g47_0, g47_1, g47_2, g47_3, g47_6, g47_8, g47_9, Option.toList, List.nil_append, List.cons_append, va_rf, l6_i, rs _ _] at r1 ⊢
    rw [r1]
    simp (disch := first | with_reducible assumption | omega | exact Or.inl rfl | exact Or.inr rfl | exact bI_01 | exact c_cat | exact vt_ref | exact vt_null | rfl | with_reducible repeat (first | assumption | omega | apply S_I | apply S_L | apply S_D | apply ob_I | apply ob_L | apply ob_D | apply ob_R | apply ax_I | apply ax_L | apply ax_D | apply ax_R | apply o303 | apply o307 | apply o302 | apply o301 | apply ax304 | apply ax305 | apply ax306 | apply ax308 | apply ax309 | apply ax310 | apply lt_S | apply ar305 | apply ar308 | apply ar309)) only [g40_237, g40_238, g40_239, g40_240, g40_241, g40_244, g40_302, Option.toList, List.nil_append, List.cons_append, va_rf]
  · simp (disch := first | with_reducible assumption | omega | exact Or.inl rfl | exact Or.inr rfl | exact bI_01 | exact c_cat | exact vt_ref | exact vt_null | rfl | with_reducible repeat (first | assumption | omega | apply S_I | apply S_L | apply S_D | apply ob_I | apply ob_L | apply ob_D | apply ob_R | apply ax_I | apply ax_L | apply ax_D | apply ax_R | apply o303 | apply o307 | apply o302 | apply o301 | apply ax304 | apply ax305 | apply ax306 | apply ax308 | apply ax309 | apply ax310 | apply lt_S | apply ar305 | apply ar308 | apply ar309)) only [g40_0, Nat.reduceAdd, g40_1_21, g40_237, g40_238, g40_239, g40_240, g40_241, g40_244, g40_302, g47_0, g47_1, g47_2, g47_3, g47_6, g47_8, g47_9, Option.toList, List.nil_append, List.cons_append, va_rf, l6_i, rs _ _] at r1 ⊢
    rw [r1]
    simp (disch := first | with_reducible assumption | omega | exact Or.inl rfl | exact Or.inr rfl | exact bI_01 | exact c_cat | exact vt_ref | exact vt_null | rfl | with_reducible repeat (first | assumption | omega | apply S_I | apply S_L | apply S_D | apply ob_I | apply ob_L | apply ob_D | apply ob_R | apply ax_I | apply ax_L | apply ax_D | apply ax_R | apply o303 | apply o307 | apply o302 | apply o301 | apply ax304 | apply ax305 | apply ax306 | apply ax308 | apply ax309 | apply ax310 | apply lt_S | apply ar305 | apply ar308 | apply ar309)) only [g40_237, g40_238, g40_239, g40_240, g40_241, g40_244, g40_302, Option.toList, List.nil_append, List.cons_append, va_rf]
  · simp (disch := first | with_reducible assumption | omega | exact Or.inl rfl | exact Or.inr rfl | exact bI_01 | exact c_cat | exact vt_ref | exact vt_null | rfl | with_reducible repeat (first | assumption | omega | apply S_I | apply S_L | apply S_D | apply ob_I | apply ob_L | apply ob_D | apply ob_R | apply ax_I | apply ax_L | apply ax_D | apply ax_R | apply o303 | apply o307 | apply o302 | apply o301 | apply ax304 | apply ax305 | apply ax306 | apply ax308 | apply ax309 | apply ax310 | apply lt_S | apply ar305 | apply ar308 | apply ar309)) only [g40_0, Nat.reduceAdd, g40_1_22, g40_237, g40_238, g40_239, g40_240, g40_241, g40_244, g40_302, g47_0, g47_1, g47_2, g47_3, g47_6, g47_8, g47_9, Option.toList, List.nil_append, List.cons_append, va_rf, l6_i, rs _ _] at r1 ⊢
    rw [r1]
    simp (disch := first | with_reducible assumption | omega | exact Or.inl rfl | exact Or.inr rfl | exact bI_01 | exact c_cat | exact vt_ref | exact vt_null | rfl | with_reducible repeat (first | assumption | omega | apply S_I | apply S_L | apply S_D | apply ob_I | apply ob_L | apply ob_D | apply ob_R | apply ax_I | apply ax_L | apply ax_D | apply ax_R | apply o303 | apply o307 | apply o302 | apply o301 | apply ax304 | apply ax305 | apply ax306 | apply ax308 | apply ax309 | apply ax310 | apply lt_S | apply ar305 | apply ar308 | apply ar309)) only [g40_237, g40_238, g40_239, g40_240, g40_241, g40_244, g40_302, Option.toList, List.nil_append, List.cons_append, va_rf]
  · simp (disch := first | with_reducible assumption | omega | exact Or.inl rfl | exact Or.inr rfl | exact bI_01 | exact c_cat | exact vt_ref | exact vt_null | rfl | with_reducible repeat (first | assumption | omega | apply S_I | apply S_L | apply S_D | apply ob_I | apply ob_L | apply ob_D | apply ob_R | apply ax_I | apply ax_L | apply ax_D | apply ax_R | apply o303 | apply o307 | apply o302 | apply o301 | apply ax304 | apply ax305 | apply ax306 | apply ax308 | apply ax309 | apply ax310 | apply lt_S | apply ar305 | apply ar308 | apply ar309)) only [g40_0, Nat.reduceAdd, g40_1_23, g40_237, g40_238, g40_239, g40_240, g40_241, g40_244, g40_302, g47_0, g47_1, g47_2, g47_3, g47_6, g47_8, g47_9, Option.toList, List.nil_append, List.cons_append, va_rf, l6_i, rs _ _] at r1 ⊢
    rw [r1]
    simp (disch := first | with_reducible assumption | omega | exact Or.inl rfl | exact Or.inr rfl | exact bI_01 | exact c_cat | exact vt_ref | exact vt_null | rfl | with_reducible repeat (first | assumption | omega | apply S_I | apply S_L | apply S_D | apply ob_I | apply ob_L | apply ob_D | apply ob_R | apply ax_I | apply ax_L | apply ax_D | apply ax_R | apply o303 | apply o307 | apply o302 | apply o301 | apply ax304 | apply ax305 | apply ax306 | apply ax308 | apply ax309 | apply ax310 | apply lt_S | apply ar305 | apply ar308 | apply ar309)) only [g40_237, g40_238, g40_239, g40_240, g40_241, g40_244, g40_302, Option.toList, List.nil_append, List.cons_append, va_rf]
theorem c_fold {i M : Nat} (h4 : 402 ≤ h.1) (ho : o < 278 ∨ 299 < o) (ho2 : o < 402) (hd : dp < 22) (hre : ∀ a, rr = some a → a < e ∨ e + 7 ≤ a) (C0 : cvX h cv P) (hw : 2 ≤ w ∧ w ≤ 5) (hM : M ≤ 48) (ht : tt s nn = (nI 7, nI i, -1, -1, lN w)) (R : rows_ (tt s) M i a b') (hP : ∀ j, j < rgN a b' → P (rgC a b' j)) : CWk h o rr sa (d + 5) v1 v2 v3 (f + 1) (ev tt rt cv cs (f + 1) s as sh dp nn) dp e b as [ST, (nI (18 + w), lN (a + 256 * b'))] tm := by
  intro DD p g σ ts st n T C hD hf A Z N FR V hl ht2 hT hT2
  show CP h o rr sa (d + 5) v1 v2 v3 T g dp ts st (p + 1 + 1) n (if σ.1 = 0 then (oF 8, σ) else evX tt rt cv cs f s as sh dp nn (σ.1 - 1, σ.2))
  have Cg := cd_kp A.1 ho2 hre C
  refine c_step (d := d + 3) A ho hd Cg FR (hD 0 _ rfl) Z N hT hT2 (fun s0 g1 A1 Z1 N1 FK1 at1 hT1 => ?_)
  obtain ⟨hi, ht3, ha, hb, sd⟩ := id R
  have ex : evX tt rt cv cs f s as sh dp nn (σ.1 - 1, σ.2) = evFold cv w (rgL a b') 0 (.inl 0) (σ.1 - 1, σ.2) := by
    unfold evX evN evCall
    simp (disch := omega) only [ht, nI_eq, Nat.reduceEqDiff, ↓reduceIte, xN_n, lN_i8, hw, and_self, rwL_at R]
  rw [ex]
  have C1 := cd_kp A1.1 ho2 hre C
  have Aa := XS_at (p := p + 1) A1 hd ho
  obtain ⟨g', r1, OO, F1⟩ := o_fold_ (d := d) (w := w) h4 ho C0 ha hb sd (by omega) hP (by omega) Aa (KZ_at (p := p + 1) Z1 hd) (NS_at (p := p + 1) N1 hd)
  have le := evFold_le (cv := cv) (w := w) (rgL a b') 0 (.inl 0) (σ.1 - 1, σ.2)
  exact c_op (d := d + 4) A1 hd C1 (FK_F FK1 at1 FR) (hD 1 _ rfl) (by omega) (by have : (evFold cv w (rgL a b') 0 (.inl 0) (σ.1 - 1, σ.2)).2.1 ≤ σ.1 - 1 := le; omega) r1 OO F1
theorem o_pick_ (h4 : 402 ≤ h.1) (ho : o < 278 ∨ 299 < o) (C : cvX h cv P) (ha : a < 256) (hb : b' < 256) (sd : rgS a b' = true) (hP : ∀ j, j < rgN a b' → P (rgC a b' j)) (hl : st.length + 2 < 1024) (A : XS h ga o rr sa dp ts σ) (Z : KZ ga) (N : NS ga (st ++ [v])) :
    ∃ g', am_run (d + 4) 40 [some (.ref 9), some (.ref (278 + dp)), some (.int (nI 24)), some (.long (lN (a + 256 * b'))), none] ga none g' ∧ OPx h g' o rr sa dp ts st (evAt cv (rgL a b') v σ) ∧ FA ga g' := by
  have S := A.2.1
  have r64 := rgN_le sd
  have tl := x_topIsLong (d := d + 2) S N (by omega)
  have rs := fun h Q => x_rangeSize (d := d + 2) (h := h) (Q := Q) (v1 := none) (v2 := none) ha hb sd
  have en : (nI (rgN a b')).toInt64 = lN (rgN a b') := nI_l (by omega)
  match v, N, tl with
  | .inr x, N, tl =>
    rw [show isLg (.inr x) = false from rfl, bI_f] at tl
    refine ⟨am_setI ga 9 13 (nI 11), fun Q => ?_, ⟨XS_I A (Or.inl ⟨rfl, rfl⟩) ho, ⟨rI_eq, by decide, by decide, Z.2⟩, st_app (NS_9 N).2⟩, FA_I (by omega)⟩
    simp (disch := first | with_reducible assumption | omega | exact Or.inl rfl | exact Or.inr rfl | exact bI_01 | exact c_cat | exact vt_ref | exact vt_null | rfl | with_reducible repeat (first | assumption | omega | apply S_I | apply S_L | apply S_D | apply ob_I | apply ob_L | apply ob_D | apply ob_R | apply ax_I | apply ax_L | apply ax_D | apply ax_R | apply o303 | apply o307 | apply o302 | apply o301 | apply ax304 | apply ax305 | apply ax306 | apply ax308 | apply ax309 | apply ax310 | apply lt_S | apply ar305 | apply ar308 | apply ar309)) only [g40_0, g40_1_24, g40_247, g40_248, g40_249, g40_250, g40_253, g40_302, g48_0, g48_1, g48_4, g48_7, g48_10, g48_11, g48_13, g48_16, g48_17, g48_18, g48_21, g48_24, g48_25, g48_26, g48_27, g48_28, g48_31, g48_32, g48_33, g48_36, g48_37, g48_38, g48_41, g48_42, g48_43, g48_46, g48_49, g48_50, g48_53, g48_56, g48_57, g48_58, g48_59, g48_60, g48_63, g48_64, g48_67, g48_68, Option.toList, List.nil_append, List.cons_append, va_rf, nI_ltI, nI_leI, nI_eq, nI_add, nI_sub, nI_lt0, nI_e0, nI_m1, m1_nI, Nat.reduceEqDiff, Nat.reduceLT, Nat.reduceLeDiff, Nat.reduceAdd, Nat.reduceSub, Nat.reduceMul, ↓reduceIte, eq_self, l6_i, tl _]
  | .inl x, N, tl =>
    rw [show isLg (.inl x) = true from rfl, bI_t] at tl
    obtain ⟨y, ey, rp, N1, F1⟩ := x_popL (d := d + 2) S N (by omega)
    obtain rfl : x = y := Sum.inl.inj ey
    have A1 := XS_num A F1
    have S1 := A1.2.1
    have Z1 := KZ_fr F1 (by decide) Z
    have FA1 : FA ga _ := FA_fr F1 (fun a q => by omega)
    show ∃ g', _ ∧ OPx h g' o rr sa dp ts st (evAt cv (rgL a b') (.inl x) σ) ∧ _
    unfold evAt
    simp only [rgL_len]
    by_cases c1 : x < 0
    · rw [if_pos (Or.inl c1)]
      have q1 : (lg_cmp x (lN 0) < 0) = True := by rw [lgx_lt]; exact eq_true c1
      refine ⟨am_setI (am_setI ga 12 3 (nI st.length)) 9 13 (nI 2), fun Q => ?_, ⟨XS_I A1 (Or.inl ⟨rfl, rfl⟩) ho, ⟨rI_eq, by decide, by decide, Z1.2⟩, (NS_9 N1).2⟩, FA_trans FA1 (FA_I (by omega))⟩
      simp (disch := first | with_reducible assumption | omega | exact Or.inl rfl | exact Or.inr rfl | exact bI_01 | exact c_cat | exact vt_ref | exact vt_null | rfl | with_reducible repeat (first | assumption | omega | apply S_I | apply S_L | apply S_D | apply ob_I | apply ob_L | apply ob_D | apply ob_R | apply ax_I | apply ax_L | apply ax_D | apply ax_R | apply o303 | apply o307 | apply o302 | apply o301 | apply ax304 | apply ax305 | apply ax306 | apply ax308 | apply ax309 | apply ax310 | apply lt_S | apply ar305 | apply ar308 | apply ar309)) only [g40_0, g40_1_24, g40_247, g40_248, g40_249, g40_250, g40_253, g40_302, g48_0, g48_1, g48_4, g48_7, g48_10, g48_11, g48_13, g48_16, g48_17, g48_18, g48_21, g48_24, g48_25, g48_26, g48_27, g48_28, g48_31, g48_32, g48_33, g48_36, g48_37, g48_38, g48_41, g48_42, g48_43, g48_46, g48_49, g48_50, g48_53, g48_56, g48_57, g48_58, g48_59, g48_60, g48_63, g48_64, g48_67, g48_68, Option.toList, List.nil_append, List.cons_append, va_rf, nI_ltI, nI_leI, nI_eq, nI_add, nI_sub, nI_lt0, nI_e0, nI_m1, m1_nI, Nat.reduceEqDiff, Nat.reduceLT, Nat.reduceLeDiff, Nat.reduceAdd, Nat.reduceSub, Nat.reduceMul, ↓reduceIte, eq_self, l6_i, tl _, rp _, q1]
    · have q1 : (lg_cmp x (lN 0) < 0) = False := by rw [lgx_lt]; exact eq_false c1
      by_cases c2 : lN (rgN a b') ≤ x
      · rw [if_pos (Or.inr c2)]
        have q2 : (lg_cmp x (lN (rgN a b')) < 0) = False := by rw [lgx_lt]; exact eq_false (Int64.not_lt.mpr c2)
        refine ⟨am_setI (am_setI ga 12 3 (nI st.length)) 9 13 (nI 2), fun Q => ?_, ⟨XS_I A1 (Or.inl ⟨rfl, rfl⟩) ho, ⟨rI_eq, by decide, by decide, Z1.2⟩, (NS_9 N1).2⟩, FA_trans FA1 (FA_I (by omega))⟩
        simp (disch := first | with_reducible assumption | omega | exact Or.inl rfl | exact Or.inr rfl | exact bI_01 | exact c_cat | exact vt_ref | exact vt_null | rfl | with_reducible repeat (first | assumption | omega | apply S_I | apply S_L | apply S_D | apply ob_I | apply ob_L | apply ob_D | apply ob_R | apply ax_I | apply ax_L | apply ax_D | apply ax_R | apply o303 | apply o307 | apply o302 | apply o301 | apply ax304 | apply ax305 | apply ax306 | apply ax308 | apply ax309 | apply ax310 | apply lt_S | apply ar305 | apply ar308 | apply ar309)) only [g40_0, g40_1_24, g40_247, g40_248, g40_249, g40_250, g40_253, g40_302, g48_0, g48_1, g48_4, g48_7, g48_10, g48_11, g48_13, g48_16, g48_17, g48_18, g48_21, g48_24, g48_25, g48_26, g48_27, g48_28, g48_31, g48_32, g48_33, g48_36, g48_37, g48_38, g48_41, g48_42, g48_43, g48_46, g48_49, g48_50, g48_53, g48_56, g48_57, g48_58, g48_59, g48_60, g48_63, g48_64, g48_67, g48_68, Option.toList, List.nil_append, List.cons_append, va_rf, nI_ltI, nI_leI, nI_eq, nI_add, nI_sub, nI_lt0, nI_e0, nI_m1, m1_nI, Nat.reduceEqDiff, Nat.reduceLT, Nat.reduceLeDiff, Nat.reduceAdd, Nat.reduceSub, Nat.reduceMul, ↓reduceIte, eq_self, l6_i, tl _, rp _, q1, rs _ _, en, q2]
      · rw [if_neg (fun q => q.elim c1 c2)]
        have q2 : (lg_cmp x (lN (rgN a b')) < 0) = True := by rw [lgx_lt]; exact eq_true (Int64.not_le.mp c2)
        obtain ⟨k, hk, rfl⟩ : ∃ k, k < rgN a b' ∧ x = lN k := by
          have t1 : ¬ x.toInt < 0 := fun q => c1 (Int64.lt_iff_toInt_lt.mpr q)
          have t2 : x.toInt < rgN a b' := by
            have := Int64.lt_iff_toInt_lt.mp (Int64.not_le.mp c2)
            rwa [l6_toInt (by omega)] at this
          refine ⟨x.toInt.toNat, by omega, Int64.toInt_inj.mp ?_⟩
          rw [l6_toInt (by omega)]; omega
        rw [l6_toInt (by omega), Int.toNat_natCast, rgL_at hk]
        by_cases s0 : σ.1 = 0
        · rw [if_pos s0]
          have ts0 := x_tookStepN (d := d + 2) A1 s0
          refine ⟨am_setI (am_setI ga 12 3 (nI st.length)) 9 13 (nI 8), fun Q => ?_, ⟨XS_I A1 (Or.inl ⟨rfl, rfl⟩) ho, ⟨rI_eq, by decide, by decide, Z1.2⟩, (NS_9 N1).2⟩, FA_trans FA1 (FA_I (by omega))⟩
          simp (disch := first | with_reducible assumption | omega | exact Or.inl rfl | exact Or.inr rfl | exact bI_01 | exact c_cat | exact vt_ref | exact vt_null | rfl | with_reducible repeat (first | assumption | omega | apply S_I | apply S_L | apply S_D | apply ob_I | apply ob_L | apply ob_D | apply ob_R | apply ax_I | apply ax_L | apply ax_D | apply ax_R | apply o303 | apply o307 | apply o302 | apply o301 | apply ax304 | apply ax305 | apply ax306 | apply ax308 | apply ax309 | apply ax310 | apply lt_S | apply ar305 | apply ar308 | apply ar309)) only [g40_0, g40_1_24, g40_247, g40_248, g40_249, g40_250, g40_253, g40_302, g48_0, g48_1, g48_4, g48_7, g48_10, g48_11, g48_13, g48_16, g48_17, g48_18, g48_21, g48_24, g48_25, g48_26, g48_27, g48_28, g48_31, g48_32, g48_33, g48_36, g48_37, g48_38, g48_41, g48_42, g48_43, g48_46, g48_49, g48_50, g48_53, g48_56, g48_57, g48_58, g48_59, g48_60, g48_63, g48_64, g48_67, g48_68, Option.toList, List.nil_append, List.cons_append, va_rf, nI_ltI, nI_leI, nI_eq, nI_add, nI_sub, nI_lt0, nI_e0, nI_m1, m1_nI, Nat.reduceEqDiff, Nat.reduceLT, Nat.reduceLeDiff, Nat.reduceAdd, Nat.reduceSub, Nat.reduceMul, ↓reduceIte, eq_self, l6_i, tl _, rp _, q1, rs _ _, en, q2, ts0 _]
        · rw [if_neg s0]
          have ts1 := x_tookStep (d := d + 2) A1 s0
          have A2 := XS_step A1
          have S2 := A2.2.1
          have Z2 : KZ (am_setI (am_setI ga 12 3 (nI st.length)) 9 11 (nI (σ.1 - 1))) := ⟨by rw [rI_k (by decide)]; exact Z1.1, Z1.2⟩
          have N2 := NS_9 (k := 11) (x := nI (σ.1 - 1)) N1
          have co := fun Q => x_rangeCell (d := d + 2) (h := am_setI (am_setI ga 12 3 (nI st.length)) 9 11 (nI (σ.1 - 1))) (Q := Q) (v2 := none) (v3 := none) ha hb sd (j := k) (by omega)
          obtain ⟨g2, bb, r2, A3, FA3, O1, O2, O3, -⟩ := x_readCell (d := d) false h4 A2 ho N2 (by omega) Z2 C (hP k hk)
          rw [bI_f] at r2
          have S3 := A3.2.1
          have R : am_run (d + 4) 40 [some (.ref 9), some (.ref (278 + dp)), some (.int (nI 24)), some (.long (lN (a + 256 * b'))), none] ga none g2 := fun Q => by
            simp (disch := first | with_reducible assumption | omega | exact Or.inl rfl | exact Or.inr rfl | exact bI_01 | exact c_cat | exact vt_ref | exact vt_null | rfl | with_reducible repeat (first | assumption | omega | apply S_I | apply S_L | apply S_D | apply ob_I | apply ob_L | apply ob_D | apply ob_R | apply ax_I | apply ax_L | apply ax_D | apply ax_R | apply o303 | apply o307 | apply o302 | apply o301 | apply ax304 | apply ax305 | apply ax306 | apply ax308 | apply ax309 | apply ax310 | apply lt_S | apply ar305 | apply ar308 | apply ar309)) only [g40_0, g40_1_24, g40_247, g40_248, g40_249, g40_250, g40_253, g40_302, g48_0, g48_1, g48_4, g48_7, g48_10, g48_11, g48_13, g48_16, g48_17, g48_18, g48_21, g48_24, g48_25, g48_26, g48_27, g48_28, g48_31, g48_32, g48_33, g48_36, g48_37, g48_38, g48_41, g48_42, g48_43, g48_46, g48_49, g48_50, g48_53, g48_56, g48_57, g48_58, g48_59, g48_60, g48_63, g48_64, g48_67, g48_68, Option.toList, List.nil_append, List.cons_append, va_rf, nI_ltI, nI_leI, nI_eq, nI_add, nI_sub, nI_lt0, nI_e0, nI_m1, m1_nI, Nat.reduceEqDiff, Nat.reduceLT, Nat.reduceLeDiff, Nat.reduceAdd, Nat.reduceSub, Nat.reduceMul, ↓reduceIte, eq_self, l6_i, tl _, rp _, q1, rs _ _, en, q2, ts1 _, co _, r2 _]
          have FAx := FA_trans FA1 (FA_trans (FA_I (by omega)) FA3)
          match hr : rdR cv (rgC a b' k) false with
          | none =>
            exfalso
            unfold rdR at hr
            match hcv : cv (rgC a b' k) with
            | none => rw [hcv] at hr; cases hr
            | some none => rw [hcv] at hr; cases hr
            | some (some v) => rw [hcv] at hr; cases hr
          | some (.inl v) =>
            obtain ⟨q1, q2, q3, q4⟩ := O1 v hr
            exact ⟨g2, R, ⟨A3, q3, q2, q4⟩, FAx⟩
          | some (.inr q) =>
            obtain ⟨q1, q2, q3⟩ := O2 q hr
            exact ⟨g2, R, ⟨A3, q3, q2.2⟩, FAx⟩
theorem c_at {i j M : Nat} {D2 : List (Int32 × Int64)} (h4 : 402 ≤ h.1) (ho : o < 278 ∨ 299 < o) (ho2 : o < 402) (hd : dp < 22) (hre : ∀ a, rr = some a → a < e ∨ e + 7 ≤ a) (C0 : cvX h cv P) (hj : j < 48) (hM : M ≤ 48) (ht : tt s nn = (nI 7, nI i, nI j, -1, lN 6)) (R : rows_ (tt s) M i a b') (hP : ∀ j, j < rgN a b' → P (rgC a b' j)) (W : CWk h o rr sa (d + 5) v1 v2 v3 f (ev tt rt cv cs f s as sh dp j) dp e b as D2 tm) : CWk h o rr sa (d + 5) v1 v2 v3 (f + 1) (ev tt rt cv cs (f + 1) s as sh dp nn) dp e b as (ST :: D2 ++ [(nI 24, lN (a + 256 * b'))]) tm := by
  intro DD p g σ ts st n T C hD hf A Z N FR V hl ht2 hT hT2
  rw [show p + (ST :: D2 ++ [(nI 24, lN (a + 256 * b'))]).length = p + 1 + D2.length + 1 by simp only [List.length_append, List.length_cons, List.length_nil]; omega]
  show CP h o rr sa (d + 5) v1 v2 v3 T g dp ts st (p + 1 + D2.length + 1) n (if σ.1 = 0 then (oF 8, σ) else evX tt rt cv cs f s as sh dp nn (σ.1 - 1, σ.2))
  have Cg := cd_kp A.1 ho2 hre C
  refine c_step (d := d + 3) A ho hd Cg FR (hD 0 _ rfl) Z N hT hT2 (fun s0 g1 A1 Z1 N1 FK1 at1 hT1 => ?_)
  obtain ⟨hi, ht3, ha, hb, sd⟩ := id R
  have ex : evX tt rt cv cs f s as sh dp nn (σ.1 - 1, σ.2) = andThen (ev tt rt cv cs f s as sh dp j (σ.1 - 1, σ.2)) (evAt cv (rgL a b')) := by
    unfold evX evN evCall
    simp (disch := omega) only [ht, nI_eq, Nat.reduceEqDiff, ↓reduceIte, xN_n, lN_i8, Nat.reduceLeDiff, and_false, rwL_at R]
  rw [ex]
  have hD1 := d_sub (D1 := D2) (k := 1) hD (fun j x hx => by
    have c := (List.getElem?_eq_some_iff.mp hx).1
    rw [Nat.add_comm 1, List.cons_append, List.getElem?_cons_succ, List.getElem?_append_left c]; exact hx)
  have hop : DD[p + 1 + D2.length]? = some (nI 24, lN (a + 256 * b')) := by
    have := hD (1 + D2.length) (nI 24, lN (a + 256 * b')) (by rw [Nat.add_comm 1, List.cons_append, List.getElem?_cons_succ, List.getElem?_append_right (Nat.le_refl _), Nat.sub_self]; rfl)
    rwa [← Nat.add_assoc] at this
  refine c_sub (u := []) (T1 := T - 2) W C hD1 (by show σ.1 - 1 < f; omega) A1 Z1 (by rw [List.append_nil]; exact N1) (FK_F FK1 at1 FR) V (by show st.length + 0 + (σ.1 - 1) ≤ 1000; omega) ht2 (by show n + 1 + 6 * (σ.1 - 1) ≤ T - 2; omega) (by omega) hT2 (fun v σ' g2 n2 _ w2 w3 w4 w5 w6 w7 w8 => ?_)
  rw [List.append_nil] at w4
  have C2 := cd_kp w2.1 ho2 hre C
  have Aa := XS_at (p := p + 1 + D2.length) w2 hd ho
  obtain ⟨g', r1, OO, F1⟩ := o_pick_ (d := d) h4 ho C0 ha hb sd hP (by omega) Aa (KZ_at (p := p + 1 + D2.length) w3 hd) (NS_at (p := p + 1 + D2.length) w4 hd)
  have le := evAt_le (cv := cv) (l := rgL a b') (v := v) (σ := σ')
  exact c_op (d := d + 4) w2 hd C2 (FK_F (FK_trans FK1 w6) w7 FR) hop (by omega) (by omega) r1 OO F1
end XAT

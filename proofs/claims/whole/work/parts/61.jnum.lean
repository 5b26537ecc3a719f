/-! BOTH PARSERS: numbers, references -/
theorem sh4 (v c : Nat) (hc : c < 16) : (lN v <<< (lN 4 &&& 63)) ||| lN c = lN (v * 16 + c) := by
  rw [show (lN 4 &&& 63) = 4 by decide]
  apply Int64.toBitVec_inj.mp
  rw [Int64.toBitVec_or, Int64.toBitVec_shiftLeft, lN_bv', lN_bv', lN_bv', show (BitVec.smod (4 : Int64).toBitVec 64) = 4#64 by decide]
  apply BitVec.eq_of_toNat_eq
  rw [BitVec.toNat_or, BitVec.shiftLeft_eq', BitVec.toNat_shiftLeft, BitVec.toNat_ofNat, BitVec.toNat_ofNat, BitVec.toNat_ofNat, BitVec.toNat_ofNat, show 4 % 2 ^ 64 = 4 by decide, Nat.mod_eq_of_lt (show c < 2 ^ 64 by omega)]
  have e1 : (v % 2 ^ 64) <<< 4 % 2 ^ 64 = (v % 2 ^ 60) <<< 4 := by
    rw [Nat.shiftLeft_eq, Nat.shiftLeft_eq]; omega
  rw [e1, ← Nat.shiftLeft_add_eq_or_of_lt (show c < 2 ^ 4 from hc), Nat.shiftLeft_eq]; omega
section JNM
variable {d : Nat} {h hx hm : am_H} {so s vis on na nc nf : Nat} {oX oM : Int64} {agX agM cnX cnM fnX fnM : Nat → Int64} {fnA : Nat → Nat}
variable {t : Nat → Nat} {n q : Nat} {C : List (Int32 × Int64)} {P : List Int32} {N : List Nat} {F ln lp wn wp : Int32} {k o m : Nat} {o' : Int32} {ltx ltm : Option (Nat × Nat)}
/-- the operand of a number -/
def nuK (t : Nat → Nat) (n q : Nat) : Nat := if lx_K t n q = 260 then 1 else 2
def nuO (t : Nat → Nat) (n q : Nat) : Nat := if lx_K t n q = 260 then lx_v t n q else lx_v t n q * 16 + lx_b t n q
theorem x_num (hK : lx_K t n q = 260 ∨ lx_K t n q = 261) (X : PX h t n (.inl q) C P N F (nI k) o' ln lp) (hk : k ≤ 40) : ∃ h', am_run (d + 10) 78 [some (.ref 301)] h none h' ∧ XF h h' ∧ (k = 40 → BX h' t n (3, q)) ∧ (k < 40 → PX h' t n (mdA t n (.inl q)) (xadd (xadd C ST) (nI (nuK t n q), lN (nuO t n q))) (xcop t n P (lx_Z t n (lx_E t n q) q) (lx_E t n q - lx_Z t n (lx_E t n q) q)) N F (nI (k + 1)) o' ln lp) := by
  have S := X.1
  have tk : am_I h 302 2 = nI (lx_K t n q) := x_tok X
  have hb15 : lx_b t n q ≤ 15 := by
    obtain ⟨a1, a2, a3, a4, a5, a6, a7⟩ := lx_numG hK
    rcases hK with e | e
    · rw [(a6 e).2.2.1]; omega
    · have := (a7 e).2.2.2.2.2.2.2.2; omega
  have dv : am_L h 302 5 = lN (lx_v t n q) ∧ am_I h 302 6 = nI (lx_b t n q) := X.2.2.1.1.2.2.2.2.1 hK
  obtain ⟨nt1, nt2, nt3, nt4, nt5⟩ := num_text hK
  have h240 := X.2.1.2.2.1
  obtain ⟨h1, r1, X1, F1⟩ := x_tellStep (d := d + 7) X
  have S1 := X1.1
  by_cases c : k < 40
  · rw [xpart_good c] at X1
    have dv1 : am_L h1 302 5 = lN (lx_v t n q) ∧ am_I h1 302 6 = nI (lx_b t n q) := X1.2.2.1.1.2.2.2.2.1 hK
    obtain ⟨h2, r2, X2, F2⟩ := x_add (d := d + 9) X1 (w := nI (nuK t n q)) (v := lN (nuO t n q))
    have hk12 : nuK t n q < 128 := by unfold nuK; split <;> decide
    rw [by8_nI _ hk12] at X2 r2
    have S2 := X2.1
    have L2 := X2.2.2.1.1
    obtain ⟨h3, r3, X3, F3⟩ := x_cdig (d := d + 7) (e := lx_E t n q) (a := q) (by omega) (by omega) X2 L2.1 L2.2.2.1
    have S3 := X3.1
    obtain ⟨h4, r4, X4, F4⟩ := x_adv (d := d + 7) (v1 := none) X3
    refine ⟨h4, fun Q => ?_, XF_trans F1 (XF_trans (XF_303 F2) (XF_trans (XF_303 F3) F4)), fun e => by omega, fun _ => X4⟩
    rcases hK with e | e
    · rw [show nuK t n q = 1 from if_pos e, show nuO t n q = lx_v t n q from if_pos e] at r2
      rw [e] at tk
      simp (disch := first | with_reducible assumption | omega | exact Or.inl rfl | exact Or.inr rfl | exact bI_01 | exact c_cat | exact vt_ref | exact vt_null | rfl | with_reducible repeat (first | assumption | omega | apply S_I | apply S_L | apply S_D | apply ob_I | apply ob_L | apply ob_D | apply ob_R | apply ax_I | apply ax_L | apply ax_D | apply ax_R | apply o303 | apply o307 | apply o302 | apply o301 | apply ax304 | apply ax305 | apply ax306 | apply ax308 | apply ax309 | apply ax310 | apply lt_S | apply ar305 | apply ar308 | apply ar309)) only [g78_0, g78_1, g78_4, g78_64, g78_65, g78_68, g78_71, g78_72, g78_75, g78_78, g78_79, g78_82, g78_83, g78_86, g78_87, g78_88, g78_91, g78_94, g78_97, g78_98, g78_99, g78_102, g78_103, g78_106, g78_109, g78_112, g78_113, g78_116, g78_117, g78_120, g78_121, g78_122, g78_125, g78_128, g78_129, g78_130, g78_131, g78_134, g78_137, g78_138, g78_139, g78_142, g78_143, g78_144, g78_147, g78_148, g78_151, g78_154, g78_157, g78_158, g78_161, g78_164, g78_165, g78_168, g78_171, g78_172, g78_175, g78_176, g78_179, g78_7_260, tk, Option.toList, List.nil_append, List.cons_append, va_rf, r1 _, dv1.1, r2 _, r3 _, r4 _]
    · have ne : ¬ lx_K t n q = 260 := by omega
      rw [show nuK t n q = 2 from if_neg ne, show nuO t n q = lx_v t n q * 16 + lx_b t n q from if_neg ne] at r2
      rw [e] at tk
      simp (disch := first | with_reducible assumption | omega | exact Or.inl rfl | exact Or.inr rfl | exact bI_01 | exact c_cat | exact vt_ref | exact vt_null | rfl | with_reducible repeat (first | assumption | omega | apply S_I | apply S_L | apply S_D | apply ob_I | apply ob_L | apply ob_D | apply ob_R | apply ax_I | apply ax_L | apply ax_D | apply ax_R | apply o303 | apply o307 | apply o302 | apply o301 | apply ax304 | apply ax305 | apply ax306 | apply ax308 | apply ax309 | apply ax310 | apply lt_S | apply ar305 | apply ar308 | apply ar309)) only [g78_0, g78_1, g78_4, g78_64, g78_65, g78_68, g78_71, g78_72, g78_75, g78_78, g78_79, g78_82, g78_83, g78_86, g78_87, g78_88, g78_91, g78_94, g78_97, g78_98, g78_99, g78_102, g78_103, g78_106, g78_109, g78_112, g78_113, g78_116, g78_117, g78_120, g78_121, g78_122, g78_125, g78_128, g78_129, g78_130, g78_131, g78_134, g78_137, g78_138, g78_139, g78_142, g78_143, g78_144, g78_147, g78_148, g78_151, g78_154, g78_157, g78_158, g78_161, g78_164, g78_165, g78_168, g78_171, g78_172, g78_175, g78_176, g78_179, g78_7_261, tk, Option.toList, List.nil_append, List.cons_append, va_rf, r1 _, dv1.1, dv1.2, nI_l, sh4, r2 _, r3 _, r4 _]
  · obtain rfl : k = 40 := by omega
    rw [xpart_bad] at X1
    have B1 := BX_of X1
    have hE1 : ∃ v w, am_L h1 302 5 = v ∧ am_I h1 302 6 = w := ⟨_, _, rfl, rfl⟩
    obtain ⟨v, w, ev, ew⟩ := hE1
    rcases hK with e | e
    · rw [e] at tk
      obtain ⟨h2, p, hp, r2, B2, F2⟩ := bx_add (d := d + 9) B1 (w := nI 1) (v := v)
      have S2 := bx_S B2
      obtain ⟨h3, r3, B3, F3⟩ := bx_cdig (d := d + 7) B2
      have S3 := bx_S B3
      obtain ⟨h4, r4, B4, F4⟩ := bx_adv (d := d + 7) (v1 := none) B3
      refine ⟨h4, fun Q => ?_, XF_trans F1 (XF_trans F2 (XF_trans F3 F4)), fun _ => B4, fun q => by omega⟩
      simp (disch := first | with_reducible assumption | omega | exact Or.inl rfl | exact Or.inr rfl | exact bI_01 | exact c_cat | exact vt_ref | exact vt_null | rfl | with_reducible repeat (first | assumption | omega | apply S_I | apply S_L | apply S_D | apply ob_I | apply ob_L | apply ob_D | apply ob_R | apply ax_I | apply ax_L | apply ax_D | apply ax_R | apply o303 | apply o307 | apply o302 | apply o301 | apply ax304 | apply ax305 | apply ax306 | apply ax308 | apply ax309 | apply ax310 | apply lt_S | apply ar305 | apply ar308 | apply ar309)) only [g78_0, g78_1, g78_4, g78_64, g78_65, g78_68, g78_71, g78_72, g78_75, g78_78, g78_79, g78_82, g78_83, g78_86, g78_87, g78_88, g78_91, g78_94, g78_97, g78_98, g78_99, g78_102, g78_103, g78_106, g78_109, g78_112, g78_113, g78_116, g78_117, g78_120, g78_121, g78_122, g78_125, g78_128, g78_129, g78_130, g78_131, g78_134, g78_137, g78_138, g78_139, g78_142, g78_143, g78_144, g78_147, g78_148, g78_151, g78_154, g78_157, g78_158, g78_161, g78_164, g78_165, g78_168, g78_171, g78_172, g78_175, g78_176, g78_179, g78_7_260, tk, Option.toList, List.nil_append, List.cons_append, va_rf, r1 _, ev, r2 _, r3 _, r4 _]
    · rw [e] at tk
      obtain ⟨h2, p, hp, r2, B2, F2⟩ := bx_add (d := d + 9) B1 (w := nI 2) (v := (v <<< ((nI 4).toInt64 &&& 63)) ||| w.toInt64)
      have S2 := bx_S B2
      obtain ⟨h3, r3, B3, F3⟩ := bx_cdig (d := d + 7) B2
      have S3 := bx_S B3
      obtain ⟨h4, r4, B4, F4⟩ := bx_adv (d := d + 7) (v1 := none) B3
      refine ⟨h4, fun Q => ?_, XF_trans F1 (XF_trans F2 (XF_trans F3 F4)), fun _ => B4, fun q => by omega⟩
      simp (disch := first | with_reducible assumption | omega | exact Or.inl rfl | exact Or.inr rfl | exact bI_01 | exact c_cat | exact vt_ref | exact vt_null | rfl | with_reducible repeat (first | assumption | omega | apply S_I | apply S_L | apply S_D | apply ob_I | apply ob_L | apply ob_D | apply ob_R | apply ax_I | apply ax_L | apply ax_D | apply ax_R | apply o303 | apply o307 | apply o302 | apply o301 | apply ax304 | apply ax305 | apply ax306 | apply ax308 | apply ax309 | apply ax310 | apply lt_S | apply ar305 | apply ar308 | apply ar309)) only [g78_0, g78_1, g78_4, g78_64, g78_65, g78_68, g78_71, g78_72, g78_75, g78_78, g78_79, g78_82, g78_83, g78_86, g78_87, g78_88, g78_91, g78_94, g78_97, g78_98, g78_99, g78_102, g78_103, g78_106, g78_109, g78_112, g78_113, g78_116, g78_117, g78_120, g78_121, g78_122, g78_125, g78_128, g78_129, g78_130, g78_131, g78_134, g78_137, g78_138, g78_139, g78_142, g78_143, g78_144, g78_147, g78_148, g78_151, g78_154, g78_157, g78_158, g78_161, g78_164, g78_165, g78_168, g78_171, g78_172, g78_175, g78_176, g78_179, g78_7_261, tk, Option.toList, List.nil_append, List.cons_append, va_rf, r1 _, ev, ew, r2 _, r3 _, r4 _]
theorem tb_same {h h' : am_H} {m i : Nat} (F : MF h h' m) (hi : i < m) : tb h' 3648 i = tb h 3648 i := by
  unfold tb
  rw [(F.2.2.2 352 (3648 + i) (by decide) (by decide) (by omega)).1, (F.2.2.2 353 (3648 + i) (by decide) (by decide) (by omega)).1, (F.2.2.2 354 (3648 + i) (by decide) (by decide) (by omega)).1, (F.2.2.2 355 (3648 + i) (by decide) (by decide) (by omega)).1, (F.2.2.2 357 (3648 + i) (by decide) (by decide) (by omega)).2]
theorem m_part_keep (S : am_S h) {p : Int32} {h1 : am_H} (R : am_run (d + 1) 217 [some (.ref 349), some (.int p)] h none h1) : ∀ j, 17 ≤ j → j ≤ 20 → am_I h1 349 j = am_I h 349 j := by
  intro j j1 j2
  by_cases c : am_I h 349 25 = nI 40
  · by_cases f : am_I h 349 22 = 0
    · have R2 : am_run (d + 1) 217 [some (.ref 349), some (.int p)] h none (am_setI (am_setI (am_setI h 349 22 (nI 3)) 349 4 p) 349 25 (nI 40 + nI 1)) := fun Q => by
        simp (disch := first | with_reducible assumption | omega | exact Or.inl rfl | exact Or.inr rfl | exact bI_01 | exact c_cat | exact vt_ref | exact vt_null | rfl | with_reducible repeat (first | assumption | omega | apply S_I | apply S_L | apply S_D | apply ob_I | apply ob_L | apply ob_D | apply ob_R | apply ax_I | apply ax_L | apply ax_D | apply ax_R | apply o303 | apply o307 | apply o302 | apply o301 | apply ax304 | apply ax305 | apply ax306 | apply ax308 | apply ax309 | apply ax310 | apply lt_S | apply ar305 | apply ar308 | apply ar309)) only [g217_0, g217_1, g217_4, g217_6, g217_9, g217_10, g217_11, g217_12, g217_15, g217_16, g217_17, g217_20, g217_21, g217_22, g217_25, g196_0, g196_1, g196_4, g196_7, g196_8, g196_9, g196_10, g196_13, g196_14, g196_15, g196_18, c, f, ↓reduceIte, Option.toList, List.nil_append, List.cons_append, va_rf, hI_I, hI_L, hI_D, hI_R, hL_I, hL_L, hL_D, hL_R, hD_I, hD_L, hD_D, hD_R, hR_I, hR_L, hR_D, ↓reduceIte, Nat.reduceEqDiff]
      rw [(am_run_fun R R2).2, rI_k (by omega), rI_k (by omega), rI_k (by omega)]
    · have R2 : am_run (d + 1) 217 [some (.ref 349), some (.int p)] h none (am_setI h 349 25 (nI 40 + nI 1)) := fun Q => by
        simp (disch := first | with_reducible assumption | omega | exact Or.inl rfl | exact Or.inr rfl | exact bI_01 | exact c_cat | exact vt_ref | exact vt_null | rfl | with_reducible repeat (first | assumption | omega | apply S_I | apply S_L | apply S_D | apply ob_I | apply ob_L | apply ob_D | apply ob_R | apply ax_I | apply ax_L | apply ax_D | apply ax_R | apply o303 | apply o307 | apply o302 | apply o301 | apply ax304 | apply ax305 | apply ax306 | apply ax308 | apply ax309 | apply ax310 | apply lt_S | apply ar305 | apply ar308 | apply ar309)) only [g217_0, g217_1, g217_4, g217_6, g217_9, g217_10, g217_11, g217_12, g217_15, g217_16, g217_17, g217_20, g217_21, g217_22, g217_25, g196_0, g196_1, g196_4, g196_7, g196_8, g196_9, g196_10, g196_13, g196_14, g196_15, g196_18, c, f, ↓reduceIte, Option.toList, List.nil_append, List.cons_append, va_rf, hI_I, hI_L, hI_D, hI_R, hL_I, hL_L, hL_D, hL_R, hD_I, hD_L, hD_D, hD_R, hR_I, hR_L, hR_D, ↓reduceIte, Nat.reduceEqDiff]
      rw [(am_run_fun R R2).2, rI_k (by omega)]
  · have R2 : am_run (d + 1) 217 [some (.ref 349), some (.int p)] h none (am_setI h 349 25 (am_I h 349 25 + nI 1)) := fun Q => by
      simp (disch := first | with_reducible assumption | omega | exact Or.inl rfl | exact Or.inr rfl | exact bI_01 | exact c_cat | exact vt_ref | exact vt_null | rfl | with_reducible repeat (first | assumption | omega | apply S_I | apply S_L | apply S_D | apply ob_I | apply ob_L | apply ob_D | apply ob_R | apply ax_I | apply ax_L | apply ax_D | apply ax_R | apply o303 | apply o307 | apply o302 | apply o301 | apply ax304 | apply ax305 | apply ax306 | apply ax308 | apply ax309 | apply ax310 | apply lt_S | apply ar305 | apply ar308 | apply ar309)) only [g217_0, g217_1, g217_4, g217_6, g217_9, g217_10, g217_11, g217_12, g217_15, g217_16, g217_17, g217_20, g217_21, g217_22, g217_25, c, ↓reduceIte, Option.toList, List.nil_append, List.cons_append, va_rf, hI_I, hI_L, hI_D, hI_R, hL_I, hL_L, hL_D, hL_R, hD_I, hD_L, hD_D, hD_R, hR_I, hR_L, hR_D, ↓reduceIte, Nat.reduceEqDiff]
    rw [(am_run_fun R R2).2, rI_k (by omega)]
theorem m_num (hK : lx_K t n q = 260 ∨ lx_K t n q = 261) (X : MX h t n (.inl q) (nI k) o' m wn wp) (hk : k ≤ 40) (hm : m ≤ k) : ∃ h' mr, am_run (d + 10) 214 [some (.ref 349), none] h (some (.int mr)) h' ∧ MF h h' m ∧ (k = 40 → BM h' t n (3, q) m) ∧ (k < 40 → mr = nI m ∧ MX h' t n (mdA t n (.inl q)) (nI (k + 1)) o' (m + 1) wn wp ∧ tb h' 3648 m = (nI (nuK t n q), nI (lx_b t n q), nI 0, nI 0, lN (lx_v t n q))) := by
  obtain ⟨S, G, T, ⟨⟨l1, l2, l3, l4⟩, lk, lq, f22, f4⟩, e1, e2, e3, e4, e5, e6⟩ := id X
  obtain ⟨a1, a2, a3, a4, a5, a6, a7⟩ := lx_numG hK
  have hE := (num_text hK).2.2.2.1
  have h240 := T.2.1
  have hne : ∀ v, v ∈ [37, 40, 41, 42, 43, 44, 45, 47, 58, 60, 61, 76, 78] → decide (mdK t n (.inl q) = mcode v) = false := by
    intro v hv
    apply decide_eq_false
    show ¬ lx_K t n q = mcode v
    have : ∀ v, v ∈ [37, 40, 41, 42, 43, 44, 45, 47, 58, 60, 61, 76, 78] → mcode v < 258 := by decide
    have := this v hv
    omega
  have tok34 : mtok (lx_K t n q) = 3 ∨ mtok (lx_K t n q) = 4 := by
    rcases hK with e | e <;> rw [e] <;> decide
  have W0 : ∀ Q, am_J (d + 10) 214 0 [some (.ref 349), none] [] h Q ↔ am_J (d + 9) 216 0 [some (.ref 349), none, none, none, none, none] [] h (fun r h' => am_J (d + 10) 214 153 [some (.ref 349), none] (r.toList ++ []) h' Q) := by
    intro Q
    have s45 : ∀ Q, am_J (d + 9) 205 0 [some (.ref 349), some (.int (nI 45))] [] h Q ↔ Q (some (.int (nI 0))) h := fun Q => by rw [m_sign X (by decide), hne 45 (by decide)]; rfl
    have s40 : ∀ Q, am_J (d + 9) 205 0 [some (.ref 349), some (.int (nI 40))] [] h Q ↔ Q (some (.int (nI 0))) h := fun Q => by rw [m_sign X (by decide), hne 40 (by decide)]; rfl
    rcases tok34 with e | e
    · rw [e] at l2
      simp (disch := first | with_reducible assumption | omega | exact Or.inl rfl | exact Or.inr rfl | exact bI_01 | exact c_cat | exact vt_ref | exact vt_null | rfl | with_reducible repeat (first | assumption | omega | apply S_I | apply S_L | apply S_D | apply ob_I | apply ob_L | apply ob_D | apply ob_R | apply ax_I | apply ax_L | apply ax_D | apply ax_R | apply o303 | apply o307 | apply o302 | apply o301 | apply ax304 | apply ax305 | apply ax306 | apply ax308 | apply ax309 | apply ax310 | apply lt_S | apply ar305 | apply ar308 | apply ar309)) only [g214_0, g214_1, g214_4, g214_7, g214_8, g214_9, g214_10, g214_12, g214_15, g214_93, g214_94, g214_96, g214_99, g214_133, g214_134, g214_137, g214_138, g214_141, g214_142, g214_145, g214_146, g214_149, g214_150, f22, s45, s40, Option.toList, List.nil_append, List.cons_append, va_rf, l2, nI_ltI, nI_leI, nI_eq, nI_add, nI_sub, nI_lt0, nI_e0, nI_m1, m1_nI, Nat.reduceEqDiff, Nat.reduceLT, Nat.reduceLeDiff, Nat.reduceAdd, Nat.reduceSub, Nat.reduceMul, ↓reduceIte, eq_self]
    · rw [e] at l2
      simp (disch := first | with_reducible assumption | omega | exact Or.inl rfl | exact Or.inr rfl | exact bI_01 | exact c_cat | exact vt_ref | exact vt_null | rfl | with_reducible repeat (first | assumption | omega | apply S_I | apply S_L | apply S_D | apply ob_I | apply ob_L | apply ob_D | apply ob_R | apply ax_I | apply ax_L | apply ax_D | apply ax_R | apply o303 | apply o307 | apply o302 | apply o301 | apply ax304 | apply ax305 | apply ax306 | apply ax308 | apply ax309 | apply ax310 | apply lt_S | apply ar305 | apply ar308 | apply ar309)) only [g214_0, g214_1, g214_4, g214_7, g214_8, g214_9, g214_10, g214_12, g214_15, g214_93, g214_94, g214_96, g214_99, g214_133, g214_134, g214_137, g214_138, g214_141, g214_142, g214_145, g214_146, g214_149, g214_150, f22, s45, s40, Option.toList, List.nil_append, List.cons_append, va_rf, l2, nI_ltI, nI_leI, nI_eq, nI_add, nI_sub, nI_lt0, nI_e0, nI_m1, m1_nI, Nat.reduceEqDiff, Nat.reduceLT, Nat.reduceLeDiff, Nat.reduceAdd, Nat.reduceSub, Nat.reduceMul, ↓reduceIte, eq_self]
  obtain ⟨h1, r1, X1, F1⟩ := m_part (d := d + 7) X (p := nI q) (fun q' e => by cases e; rfl)
  rw [nI_add] at X1
  have S1 := X1.1
  have T1 := X1.2.2.1
  have kp := m_part_keep S r1
  have L17 : am_I h1 349 17 = nI (lx_E t n q) := (kp 17 (by decide) (by decide)).trans l1
  have L18 : am_I h1 349 18 = nI (mtok (lx_K t n q)) := (kp 18 (by decide) (by decide)).trans l2
  have L19 : am_I h1 349 19 = nI q := (kp 19 (by decide) (by decide)).trans l3
  have W1 : ∀ Q, am_J (d + 9) 216 0 [some (.ref 349), none, none, none, none, none] [] h Q ↔ am_J (d + 9) 216 86 [some (.ref 349), some (.long (lN (lx_v t n q))), none, some (.int (nI (lx_b t n q))), some (.int (bI (decide (lx_G t n q < lx_E t n q)))), some (.int (nI (lx_E t n q)))] [] h1 Q := by
    intro Q
    have LP := m_numLoop (d := d + 9) (Q := Q) hK S1 T1 L17 _ q rfl (Nat.le_refl _) (Nat.le_of_lt (lx_E_gt a1))
    rw [if_pos (Nat.le_of_lt a2), Nat.sub_self, show q - (lx_G t n q + 1) = 0 by omega, decide_eq_false (show ¬ lx_G t n q < q by omega), bI_f] at LP
    rw [← LP]
    simp (disch := first | with_reducible assumption | omega | exact Or.inl rfl | exact Or.inr rfl | exact bI_01 | exact c_cat | exact vt_ref | exact vt_null | rfl | with_reducible repeat (first | assumption | omega | apply S_I | apply S_L | apply S_D | apply ob_I | apply ob_L | apply ob_D | apply ob_R | apply ax_I | apply ax_L | apply ax_D | apply ax_R | apply o303 | apply o307 | apply o302 | apply o301 | apply ax304 | apply ax305 | apply ax306 | apply ax308 | apply ax309 | apply ax310 | apply lt_S | apply ar305 | apply ar308 | apply ar309)) only [g216_0, g216_1, g216_2, g216_5, g216_8, g216_9, g216_10, g216_11, g216_12, g216_13, g216_15, g216_16, g216_19, l3, r1 _, Option.toList, List.nil_append, List.cons_append, va_rf, L19]
    rfl
  have W2 : ∀ Q, am_J (d + 9) 216 86 [some (.ref 349), some (.long (lN (lx_v t n q))), none, some (.int (nI (lx_b t n q))), some (.int (bI (decide (lx_G t n q < lx_E t n q)))), some (.int (nI (lx_E t n q)))] [] h1 Q ↔ am_J (d + 9) 216 103 [some (.ref 349), some (.long (lN (lx_v t n q))), none, some (.int (nI (lx_b t n q))), some (.int (bI (decide (lx_G t n q < lx_E t n q)))), some (.int (nI (lx_E t n q)))] [.int (nI 0), .int (nI 0), .int (nI (lx_b t n q)), .int (nI (nuK t n q)), .ref 349] h1 Q := by
    intro Q
    rcases hK with e | e
    · rw [show nuK t n q = 1 from if_pos e]
      rw [e] at L18
      simp (disch := first | with_reducible assumption | omega | exact Or.inl rfl | exact Or.inr rfl | exact bI_01 | exact c_cat | exact vt_ref | exact vt_null | rfl | with_reducible repeat (first | assumption | omega | apply S_I | apply S_L | apply S_D | apply ob_I | apply ob_L | apply ob_D | apply ob_R | apply ax_I | apply ax_L | apply ax_D | apply ax_R | apply o303 | apply o307 | apply o302 | apply o301 | apply ax304 | apply ax305 | apply ax306 | apply ax308 | apply ax309 | apply ax310 | apply lt_S | apply ar305 | apply ar308 | apply ar309)) only [g216_86, g216_87, g216_88, g216_91, g216_92, g216_95, g216_96, g216_99, g216_100, g216_101, g216_102, L18, mtok, nI_ltI, nI_leI, nI_eq, nI_add, nI_sub, nI_lt0, nI_e0, nI_m1, m1_nI, Nat.reduceEqDiff, Nat.reduceLT, Nat.reduceLeDiff, Nat.reduceAdd, Nat.reduceSub, Nat.reduceMul, ↓reduceIte, eq_self]
    · rw [show nuK t n q = 2 from if_neg (by omega)]
      rw [e] at L18
      simp (disch := first | with_reducible assumption | omega | exact Or.inl rfl | exact Or.inr rfl | exact bI_01 | exact c_cat | exact vt_ref | exact vt_null | rfl | with_reducible repeat (first | assumption | omega | apply S_I | apply S_L | apply S_D | apply ob_I | apply ob_L | apply ob_D | apply ob_R | apply ax_I | apply ax_L | apply ax_D | apply ax_R | apply o303 | apply o307 | apply o302 | apply o301 | apply ax304 | apply ax305 | apply ax306 | apply ax308 | apply ax309 | apply ax310 | apply lt_S | apply ar305 | apply ar308 | apply ar309)) only [g216_86, g216_87, g216_88, g216_91, g216_92, g216_95, g216_96, g216_99, g216_100, g216_101, g216_102, L18, mtok, nI_ltI, nI_leI, nI_eq, nI_add, nI_sub, nI_lt0, nI_e0, nI_m1, m1_nI, Nat.reduceEqDiff, Nat.reduceLT, Nat.reduceLeDiff, Nat.reduceAdd, Nat.reduceSub, Nat.reduceMul, ↓reduceIte, eq_self]
  by_cases c : k < 40
  · rw [mpart_good c] at X1
    obtain ⟨h2, r2, X2, F2, tb2⟩ := m_nodeG (d := d + 8) (v5 := none) X1 (by omega) (kd := nI (nuK t n q)) (x := nI (lx_b t n q)) (y := nI 0) (z := nI 0)
    have S2 := X2.1
    obtain ⟨X3, F3⟩ := MX_wh (x := lN (lx_v t n q)) X2 F2 (by omega)
    have S3 := X3.1
    obtain ⟨h4, r4, X4, F4⟩ := m_nx (d := d + 5) (v1 := none) X3
    refine ⟨h4, nI m, fun Q => ?_, MF_trans F1 (MF_trans F3 F4 (by omega)) (Nat.le_refl _), fun e => by omega, fun _ => ⟨rfl, X4, ?_⟩⟩
    · rw [W0, W1, W2]
      simp (disch := first | with_reducible assumption | omega | exact Or.inl rfl | exact Or.inr rfl | exact bI_01 | exact c_cat | exact vt_ref | exact vt_null | rfl | with_reducible repeat (first | assumption | omega | apply S_I | apply S_L | apply S_D | apply ob_I | apply ob_L | apply ob_D | apply ob_R | apply ax_I | apply ax_L | apply ax_D | apply ax_R | apply o303 | apply o307 | apply o302 | apply o301 | apply ax304 | apply ax305 | apply ax306 | apply ax308 | apply ax309 | apply ax310 | apply lt_S | apply ar305 | apply ar308 | apply ar309)) only [g216_103, g216_106, g216_108, g216_109, g216_112, g216_115, g216_117, g216_118, g216_119, g216_120, g216_121, g216_124, g216_126, r2 _, Option.toList, List.nil_append, List.cons_append, va_rf, nI_ltI, nI_leI, nI_eq, nI_add, nI_sub, nI_lt0, nI_e0, nI_m1, m1_nI, Nat.reduceEqDiff, Nat.reduceLT, Nat.reduceLeDiff, Nat.reduceAdd, Nat.reduceSub, Nat.reduceMul, ↓reduceIte, eq_self, r4 _, g214_153]
    · rw [tb_same F4 (by omega)]
      unfold tb at tb2 ⊢
      simp only [Prod.mk.injEq] at tb2
      simp only [hI_I, hI_L, hI_D, hI_R, hL_I, hL_L, hL_D, hL_R, hD_I, hD_L, hD_D, hD_R, hR_I, hR_L, hR_D, ↓reduceIte, Nat.reduceEqDiff, tb2.1, tb2.2.1, tb2.2.2.1, tb2.2.2.2.1]
  · obtain rfl : k = 40 := by omega
    rw [mpart_bad] at X1
    have B1 := BM_of X1 (Nat.le_refl m)
    obtain ⟨h2, r', r2, hr1, hr2, B2, F2⟩ := bm_node (d := d + 8) (v5 := none) B1 (kd := nI (nuK t n q)) (x := nI (lx_b t n q)) (y' := nI 0) (z := nI 0)
    have S2 := (bm_S B2).1
    obtain ⟨B3, F3⟩ := bm_wh B2 hr1 hr2 (v := lN (lx_v t n q))
    have S3 := (bm_S B3).1
    obtain ⟨h4, r4, B4, F4⟩ := bm_nx (d := d + 5) (v1 := none) B3
    refine ⟨h4, nI r', fun Q => ?_, MF_trans F1 (MF_trans F2 (MF_trans F3 F4 (Nat.le_refl _)) (Nat.le_refl _)) (Nat.le_refl _), fun _ => B4, fun q => by omega⟩
    rw [W0, W1, W2]
    simp (disch := first | with_reducible assumption | omega | exact Or.inl rfl | exact Or.inr rfl | exact bI_01 | exact c_cat | exact vt_ref | exact vt_null | rfl | with_reducible repeat (first | assumption | omega | apply S_I | apply S_L | apply S_D | apply ob_I | apply ob_L | apply ob_D | apply ob_R | apply ax_I | apply ax_L | apply ax_D | apply ax_R | apply o303 | apply o307 | apply o302 | apply o301 | apply ax304 | apply ax305 | apply ax306 | apply ax308 | apply ax309 | apply ax310 | apply lt_S | apply ar305 | apply ar308 | apply ar309)) only [g216_103, g216_106, g216_108, g216_109, g216_112, g216_115, g216_117, g216_118, g216_119, g216_120, g216_121, g216_124, g216_126, r2 _, Option.toList, List.nil_append, List.cons_append, va_rf, nI_ltI, nI_leI, nI_eq, nI_add, nI_sub, nI_lt0, nI_e0, nI_m1, m1_nI, Nat.reduceEqDiff, Nat.reduceLT, Nat.reduceLeDiff, Nat.reduceAdd, Nat.reduceSub, Nat.reduceMul, ↓reduceIte, eq_self, r4 _, g214_153]
theorem J_num (hK : lx_K t n q = 260 ∨ lx_K t n q = 261) (J : JS t n so s vis on na nc nf oX oM agX agM cnX cnM fnX fnM fnA hx hm q C P N F k o m ltx ltm) : ∃ hx' hm' mr, am_run (d + 10) 78 [some (.ref 301)] hx none hx' ∧ am_run (d + 10) 214 [some (.ref 349), none] hm (some (.int mr)) hm' ∧ JP t n so on na vis oM agM cnM fnM hx hm hx' hm' q C P N F k o m ltx ltm mr := by
  obtain ⟨⟨lnx, lpx, X, LX0⟩, ⟨lnm, lpm, Y, LM0⟩, Gv, KX, KM, KR, hC, hP, hmk, hk, ho, hq, hn⟩ := J
  obtain ⟨hx', rx, Fx, bx, gx⟩ := x_num (d := d) hK X hk
  obtain ⟨hm', mr, rm, Fm, bm, gm⟩ := m_num (d := d) hK Y hk hmk
  refine ⟨hx', hm', mr, rx, rm, Fx, Fm, ?_⟩
  by_cases c : k < 40
  · have X' := gx c
    obtain ⟨e1, Y', tb'⟩ := gm c
    obtain ⟨nt1, nt2, nt3, nt4, nt5⟩ := num_text hK
    match hA : mdA t n (.inl q) with
    | .inr y =>
      rw [hA] at X' Y'
      exact Or.inl ⟨y, BX_of X', BM_of Y' (by omega)⟩
    | .inl q' =>
      rw [hA] at X' Y'
      obtain ⟨g1, g2, g3⟩ := mdA_gt (lx_numG hK).1 hA
      have c1 := xadd_len (C := C) (x := ST)
      have c2 := xadd_len (C := xadd C ST) (x := (nI (nuK t n q), lN (nuO t n q)))
      have c3 := xcop_len (t := t) (n := n) (lx_E t n q - lx_Z t n (lx_E t n q) q) (lx_Z t n (lx_E t n q) q) P
      have c4 := xadd_ge (C := C) (x := ST)
      have c5 := xadd_ge (C := xadd C ST) (x := (nI (nuK t n q), lN (nuO t n q)))
      have c6 := xcop_ge (t := t) (n := n) (lx_E t n q - lx_Z t n (lx_E t n q) q) (lx_Z t n (lx_E t n q) q) P
      refine Or.inr ⟨q', _, _, _, _, k + 1, m + 1, none, m, _, _, _, _, ⟨g2, by omega, by omega, by omega, by omega, by omega, by omega, by omega, by omega, by omega⟩, e1, X', LX0, Y', LM0, (fun z e => by cases e), fun _ => ?_⟩
      refine ⟨[ST, (nI (nuK t n q), lN (nuO t n q))], dgN (lx_v t n q) (lx_b t n q), [], [], ?_, ?_, ?_, rfl, rfl⟩
      · refine ⟨Rp_mono (f := 1) (Nat.le_refl _) (fun _ _ => rfl) (by omega) (Rp_mk (f := 0) ?_), NC_kd tb' (by unfold nuK; split <;> decide)⟩
        refine ⟨by omega, ?_⟩
        obtain ⟨a1, a2, a3, a4, a5, a6, a7⟩ := lx_numG hK
        rcases hK with e | e
        · obtain ⟨b1, b2, b3, b4⟩ := a6 e
          refine Or.inl ⟨lx_v t n q, ?_, ?_, ?_, ?_, rfl, rfl⟩
          · rw [b2]
            refine Nat.lt_of_lt_of_le (lx_w10 (fun i hi => a4 (q + i) (by omega) (by omega))) (Nat.pow_le_pow_right (by decide) b4)
          · rw [tb', b3, show nuK t n q = 1 from if_pos e]
          · rw [show nuK t n q = 1 from if_pos e, show nuO t n q = lx_v t n q from if_pos e]
          · rw [b3]
        · obtain ⟨d1, d2, d3, d4, d5, d6, d7, d8, d9⟩ := a7 e
          have ne : ¬ lx_K t n q = 260 := by omega
          refine Or.inr (Or.inl ⟨lx_v t n q, lx_b t n q, ?_, by omega, by omega, ?_, ?_, rfl, rfl, rfl⟩)
          · have h1 := lx_w10 (t := t) (a := q) (m := lx_G t n q - q) (fun i hi => a4 (q + i) (by omega) (by omega))
            have h2 := lx_w10 (t := t) (a := lx_G t n q + 1) (m := lx_b t n q) (fun i hi => d6 (lx_G t n q + 1 + i) (by omega) (by omega))
            rw [d8]
            refine Nat.lt_of_lt_of_le (m := 10 ^ (lx_G t n q - q + lx_b t n q)) ?_ (Nat.pow_le_pow_right (by decide) d9)
            have h3 : (lx_w 10 48 t q (lx_G t n q - q) + 1) * 10 ^ lx_b t n q ≤ 10 ^ (lx_G t n q - q) * 10 ^ lx_b t n q := Nat.mul_le_mul_right _ h1
            rw [Nat.pow_add]
            rw [Nat.add_mul, Nat.one_mul] at h3
            omega
          · rw [tb', show nuK t n q = 2 from if_neg ne]
          · rw [show nuK t n q = 2 from if_neg ne, show nuO t n q = lx_v t n q * 16 + lx_b t n q from if_neg ne]
      · rw [xadd_eq (C := C) (by omega), xadd_eq (by rw [List.length_append]; simp; omega), List.append_assoc]; rfl
      · rw [xcop_eq _ _ _ (by omega) (by omega) (fun i hi => nt5 _ (by omega) (by omega)), nt1]
  · exact Or.inl ⟨(3, q), bx (by omega), bm (by omega)⟩
end JNM

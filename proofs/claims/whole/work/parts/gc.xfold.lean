/-! THE CLASS: over rows -/
theorem l6_i (b : Nat) : (lN b).toInt32 = nI b := by
  apply Int32.toBitVec_inj.mp
  rw [nI_bv]
  show ((lN b).toBitVec).signExtend 32 = _
  rw [lN_bv']
  apply BitVec.eq_of_toNat_eq
  rw [BitVec.signExtend_eq_setWidth_of_le _ (by decide), BitVec.toNat_setWidth, BitVec.toNat_ofNat, BitVec.toNat_ofNat]
  omega
/-- what an order comes to, the state behind it -/
def OPx (h g' : am_H) (o : Nat) (rr : Option Nat) (sa dp : Nat) (ts : List (Nat × Nat × Nat)) (st : List VL) (r : FO) : Prop := XS h g' o rr sa dp ts r.2 ∧ match r.1 with
  | .inl v => KZ g' ∧ NS g' (st ++ [v]) ∧ okV v
  | .inr q => FLx h g' q ∧ ∀ i v, st[i]? = some v → xn g' i v
section XFO
variable {h g g' ga : am_H} {o sa dp d e b f s sh nn tm p n T a w : Nat} {rr : Option Nat} {v1 v2 v3 : Option Value} {tt : Nat → ntT} {rt : Nat → Nat} {cv : Nat → Option (Option VL)} {cs : Nat → Nat → VL} {as : List VL} {st : List VL} {ts : List (Nat × Nat × Nat)} {σ : SR} {u v : VL} {P : Nat → Prop} {D : List (Int32 × Int64)}
theorem c_op {r : FO} {x : Int32 × Int64} (A : XS h g o rr sa dp ts σ) (hd : dp < 22) (C : cdK g e D) (F : FRx g dp e p b) (hx : D[p]? = some x) (hn : n < 1000000) (hT : n + 1 + 6 * r.2.1 ≤ T) (R : am_run d 40 [some (.ref 9), some (.ref (278 + dp)), some (.int x.1), some (.long x.2), none] (am_setI g (278 + dp) 1 (nI (p + 1))) none g') (O : OPx h g' o rr sa dp ts st r) (FA' : FA (am_setI g (278 + dp) 1 (nI (p + 1))) g') : CP h o rr sa (d + 1) v1 v2 v3 T g dp ts st (p + 1) n r := by
  match r, O, hT with
  | (.inl v, σ'), ⟨A', z, n2, k⟩, hT => exact c_push A hd C F hx hn hT R A' z n2 k FA'
  | (.inr q, σ'), ⟨A', l, n2⟩, hT =>
    have hT : n + 1 + 6 * σ'.1 ≤ T := hT
    exact c_fail A hd C F hx hn (by omega) R A' n2 l FA'
abbrev FLo (w a b m i : Nat) : am_Lo := [some (.ref 9), some (.int (nI (18 + w))), some (.int (nI (a + 256 * b))), some (.int (nI m)), some (.int (nI (rgN a b))), some (.int (nI i))]
theorem x_foldBad {q : Nat ⊕ Nat} {m i : Nat} (S : am_S g) (L : FLx h g q) (sd : rgS a b = true) (hi : i ≤ 64) {Q : Option Value → am_H → Prop} : am_J d 47 11 (FLo w a b m i) [] g Q ↔ Q none g := by
  obtain ⟨k, k1, k2, k3⟩ := FLx_kind L
  have r64 := rgN_le sd
  rw [g47_11]
  by_cases c : rgN a b ≤ i
  · simp (disch := first | with_reducible assumption | omega | exact Or.inl rfl | exact Or.inr rfl | exact bI_01 | exact c_cat | exact vt_ref | exact vt_null | rfl | with_reducible repeat (first | assumption | omega | apply S_I | apply S_L | apply S_D | apply ob_I | apply ob_L | apply ob_D | apply ob_R | apply ax_I | apply ax_L | apply ax_D | apply ax_R | apply o303 | apply o307 | apply o302 | apply o301 | apply ax304 | apply ax305 | apply ax306 | apply ax308 | apply ax309 | apply ax310 | apply lt_S | apply ar305 | apply ar308 | apply ar309)) only [g47_13, g47_15, g47_18, g47_19, g47_22, g47_25, g47_26, g47_29, g47_32, g47_33, g47_34, g47_36, g47_39, g47_40, g47_43, g47_46, g47_49, g47_52, g47_53, g47_55, g47_58, g47_59, g47_62, g47_65, g47_66, g47_69, g47_70, g47_71, g47_74, g47_75, g47_77, g47_80, g47_81, g47_82, g47_85, g47_88, g47_91, g47_94, g47_95, g47_96, g47_99, g47_100, g47_103, g47_104, g47_106, g47_109, g47_110, g47_113, g47_114, g47_117, g47_120, g47_123, g47_124, g47_127, g47_130, g47_131, g47_132, g47_134, g47_137, g47_138, g47_140, g47_143, g47_144, g47_147, g47_148, g47_151, g47_152, g47_153, g47_156, g47_159, g47_160, g47_163, g47_164, g47_165, g47_168, Option.toList, List.nil_append, List.cons_append, va_rf, nI_ltI, nI_leI, nI_eq, nI_add, nI_sub, nI_lt0, nI_e0, nI_m1, m1_nI, Nat.reduceEqDiff, Nat.reduceLT, Nat.reduceLeDiff, Nat.reduceAdd, Nat.reduceSub, Nat.reduceMul, ↓reduceIte, eq_self, c, k3, show ¬ k = 0 by omega]
  · simp (disch := first | with_reducible assumption | omega | exact Or.inl rfl | exact Or.inr rfl | exact bI_01 | exact c_cat | exact vt_ref | exact vt_null | rfl | with_reducible repeat (first | assumption | omega | apply S_I | apply S_L | apply S_D | apply ob_I | apply ob_L | apply ob_D | apply ob_R | apply ax_I | apply ax_L | apply ax_D | apply ax_R | apply o303 | apply o307 | apply o302 | apply o301 | apply ax304 | apply ax305 | apply ax306 | apply ax308 | apply ax309 | apply ax310 | apply lt_S | apply ar305 | apply ar308 | apply ar309)) only [g47_13, g47_15, g47_18, g47_19, g47_22, g47_25, g47_26, g47_29, g47_32, g47_33, g47_34, g47_36, g47_39, g47_40, g47_43, g47_46, g47_49, g47_52, g47_53, g47_55, g47_58, g47_59, g47_62, g47_65, g47_66, g47_69, g47_70, g47_71, g47_74, g47_75, g47_77, g47_80, g47_81, g47_82, g47_85, g47_88, g47_91, g47_94, g47_95, g47_96, g47_99, g47_100, g47_103, g47_104, g47_106, g47_109, g47_110, g47_113, g47_114, g47_117, g47_120, g47_123, g47_124, g47_127, g47_130, g47_131, g47_132, g47_134, g47_137, g47_138, g47_140, g47_143, g47_144, g47_147, g47_148, g47_151, g47_152, g47_153, g47_156, g47_159, g47_160, g47_163, g47_164, g47_165, g47_168, Option.toList, List.nil_append, List.cons_append, va_rf, nI_ltI, nI_leI, nI_eq, nI_add, nI_sub, nI_lt0, nI_e0, nI_m1, m1_nI, Nat.reduceEqDiff, Nat.reduceLT, Nat.reduceLeDiff, Nat.reduceAdd, Nat.reduceSub, Nat.reduceMul, ↓reduceIte, eq_self, c, k3, show ¬ k = 0 by omega]
theorem NS_xn (N : NS g st) : ∀ i v, st[i]? = some v → xn g i v := N.2
theorem NS_9 {k : Nat} {x : Int32} (N : NS g st) : NS (am_setI g 9 k x) st := NS_fr (P := fun a => a = 9) (fr_I fr_refl rfl) (by decide) (by decide) (by decide) (by decide) N
theorem x_foldL (h4 : 402 ≤ h.1) (ho : o < 278 ∨ 299 < o) (C : cvX h cv P) (ha : a < 256) (hb : b < 256) (sd : rgS a b = true) (hw : w = 2 ∨ w = 3 ∨ w = 4 ∨ w = 5) (hP : ∀ j, j < rgN a b → P (rgC a b j)) (hl : st.length + 2 < 1024) :
    ∀ k i m u σ g, rgN a b - i = k → i ≤ rgN a b → m ≤ i → XS h g o rr sa dp ts σ → KZ g → NS g (if w = 5 ∨ m = 0 then st else st ++ [u]) →
    ∃ g', (∀ Q, am_J (d + 3) 47 11 (FLo w a b m i) [] g Q ↔ Q none g') ∧ OPx h g' o rr sa dp ts st (evFold cv w (rgF a b i k) m u σ) ∧ FA g g' := by
  have r64 := rgN_le sd
  have rs := fun h Q => x_rangeSize (d := d + 2) (h := h) (Q := Q) (v1 := none) (v2 := none) ha hb sd
  intro k
  induction k with
  | zero =>
    intro i m u σ g hk hi hm A Z N
    obtain rfl : i = rgN a b := by omega
    have S := A.2.1
    have z1 := Z.1
    show ∃ g', _ ∧ OPx h g' o rr sa dp ts st (if w = 5 then oL (lN m) else if m = 0 then (if w = 2 then oL (lN 0) else oF 3) else .inl u, σ) ∧ _
    by_cases w5 : w = 5
    · subst w5
      rw [if_pos (Or.inl rfl)] at N
      obtain ⟨g', r1, N1, F1⟩ := x_pushL (d := d + 2) (x := lN m) S N (by omega)
      have em : (nI m).toInt64 = lN m := nI_l (by omega)
      refine ⟨g', fun Q => ?_, ⟨XS_num A F1, by rw [if_pos rfl]; exact ⟨KZ_fr F1 (by decide) Z, N1, trivial⟩⟩, FA_fr F1 (fun a q => by omega)⟩
      rw [g47_11]
      simp (disch := first | with_reducible assumption | omega | exact Or.inl rfl | exact Or.inr rfl | exact bI_01 | exact c_cat | exact vt_ref | exact vt_null | rfl | with_reducible repeat (first | assumption | omega | apply S_I | apply S_L | apply S_D | apply ob_I | apply ob_L | apply ob_D | apply ob_R | apply ax_I | apply ax_L | apply ax_D | apply ax_R | apply o303 | apply o307 | apply o302 | apply o301 | apply ax304 | apply ax305 | apply ax306 | apply ax308 | apply ax309 | apply ax310 | apply lt_S | apply ar305 | apply ar308 | apply ar309)) only [g47_13, g47_15, g47_18, g47_19, g47_22, g47_25, g47_26, g47_29, g47_32, g47_33, g47_34, g47_36, g47_39, g47_40, g47_43, g47_46, g47_49, g47_52, g47_53, g47_55, g47_58, g47_59, g47_62, g47_65, g47_66, g47_69, g47_70, g47_71, g47_74, g47_75, g47_77, g47_80, g47_81, g47_82, g47_85, g47_88, g47_91, g47_94, g47_95, g47_96, g47_99, g47_100, g47_103, g47_104, g47_106, g47_109, g47_110, g47_113, g47_114, g47_117, g47_120, g47_123, g47_124, g47_127, g47_130, g47_131, g47_132, g47_134, g47_137, g47_138, g47_140, g47_143, g47_144, g47_147, g47_148, g47_151, g47_152, g47_153, g47_156, g47_159, g47_160, g47_163, g47_164, g47_165, g47_168, Option.toList, List.nil_append, List.cons_append, va_rf, nI_ltI, nI_leI, nI_eq, nI_add, nI_sub, nI_lt0, nI_e0, nI_m1, m1_nI, Nat.reduceEqDiff, Nat.reduceLT, Nat.reduceLeDiff, Nat.reduceAdd, Nat.reduceSub, Nat.reduceMul, ↓reduceIte, eq_self, Nat.le_refl, em, z1, r1 _]
    · rw [if_neg w5]
      by_cases m0 : m = 0
      · subst m0
        rw [if_pos (Or.inr rfl)] at N
        rw [if_pos rfl]
        by_cases w2 : w = 2
        · subst w2
          obtain ⟨g', r1, N1, F1⟩ := x_pushL (d := d + 2) (x := lN 0) S N (by omega)
          have em : (nI 0).toInt64 = lN 0 := nI_l (by omega)
          refine ⟨g', fun Q => ?_, ⟨XS_num A F1, by rw [if_pos rfl]; exact ⟨KZ_fr F1 (by decide) Z, N1, trivial⟩⟩, FA_fr F1 (fun a q => by omega)⟩
          rw [g47_11]
          simp (disch := first | with_reducible assumption | omega | exact Or.inl rfl | exact Or.inr rfl | exact bI_01 | exact c_cat | exact vt_ref | exact vt_null | rfl | with_reducible repeat (first | assumption | omega | apply S_I | apply S_L | apply S_D | apply ob_I | apply ob_L | apply ob_D | apply ob_R | apply ax_I | apply ax_L | apply ax_D | apply ax_R | apply o303 | apply o307 | apply o302 | apply o301 | apply ax304 | apply ax305 | apply ax306 | apply ax308 | apply ax309 | apply ax310 | apply lt_S | apply ar305 | apply ar308 | apply ar309)) only [g47_13, g47_15, g47_18, g47_19, g47_22, g47_25, g47_26, g47_29, g47_32, g47_33, g47_34, g47_36, g47_39, g47_40, g47_43, g47_46, g47_49, g47_52, g47_53, g47_55, g47_58, g47_59, g47_62, g47_65, g47_66, g47_69, g47_70, g47_71, g47_74, g47_75, g47_77, g47_80, g47_81, g47_82, g47_85, g47_88, g47_91, g47_94, g47_95, g47_96, g47_99, g47_100, g47_103, g47_104, g47_106, g47_109, g47_110, g47_113, g47_114, g47_117, g47_120, g47_123, g47_124, g47_127, g47_130, g47_131, g47_132, g47_134, g47_137, g47_138, g47_140, g47_143, g47_144, g47_147, g47_148, g47_151, g47_152, g47_153, g47_156, g47_159, g47_160, g47_163, g47_164, g47_165, g47_168, Option.toList, List.nil_append, List.cons_append, va_rf, nI_ltI, nI_leI, nI_eq, nI_add, nI_sub, nI_lt0, nI_e0, nI_m1, m1_nI, Nat.reduceEqDiff, Nat.reduceLT, Nat.reduceLeDiff, Nat.reduceAdd, Nat.reduceSub, Nat.reduceMul, ↓reduceIte, eq_self, Nat.le_refl, em, z1, r1 _]
        · rw [if_neg w2]
          refine ⟨am_setI g 9 13 (nI 3), fun Q => ?_, ⟨XS_I A (Or.inl ⟨rfl, rfl⟩) ho, ⟨rI_eq, by decide, by decide, Z.2⟩, (NS_9 N).2⟩, FA_I (by omega)⟩
          rw [g47_11]
          simp (disch := first | with_reducible assumption | omega | exact Or.inl rfl | exact Or.inr rfl | exact bI_01 | exact c_cat | exact vt_ref | exact vt_null | rfl | with_reducible repeat (first | assumption | omega | apply S_I | apply S_L | apply S_D | apply ob_I | apply ob_L | apply ob_D | apply ob_R | apply ax_I | apply ax_L | apply ax_D | apply ax_R | apply o303 | apply o307 | apply o302 | apply o301 | apply ax304 | apply ax305 | apply ax306 | apply ax308 | apply ax309 | apply ax310 | apply lt_S | apply ar305 | apply ar308 | apply ar309)) only [g47_13, g47_15, g47_18, g47_19, g47_22, g47_25, g47_26, g47_29, g47_32, g47_33, g47_34, g47_36, g47_39, g47_40, g47_43, g47_46, g47_49, g47_52, g47_53, g47_55, g47_58, g47_59, g47_62, g47_65, g47_66, g47_69, g47_70, g47_71, g47_74, g47_75, g47_77, g47_80, g47_81, g47_82, g47_85, g47_88, g47_91, g47_94, g47_95, g47_96, g47_99, g47_100, g47_103, g47_104, g47_106, g47_109, g47_110, g47_113, g47_114, g47_117, g47_120, g47_123, g47_124, g47_127, g47_130, g47_131, g47_132, g47_134, g47_137, g47_138, g47_140, g47_143, g47_144, g47_147, g47_148, g47_151, g47_152, g47_153, g47_156, g47_159, g47_160, g47_163, g47_164, g47_165, g47_168, Option.toList, List.nil_append, List.cons_append, va_rf, nI_ltI, nI_leI, nI_eq, nI_add, nI_sub, nI_lt0, nI_e0, nI_m1, m1_nI, Nat.reduceEqDiff, Nat.reduceLT, Nat.reduceLeDiff, Nat.reduceAdd, Nat.reduceSub, Nat.reduceMul, ↓reduceIte, eq_self, Nat.le_refl, z1, show ¬ 18 + w = 23 by omega, show ¬ 18 + w = 20 by omega]
      · rw [if_neg (by omega)] at N
        rw [if_neg m0]
        refine ⟨g, fun Q => ?_, ⟨A, Z, N, xn_ok (NS_top N)⟩, FA_refl⟩
        rw [g47_11]
        simp (disch := first | with_reducible assumption | omega | exact Or.inl rfl | exact Or.inr rfl | exact bI_01 | exact c_cat | exact vt_ref | exact vt_null | rfl | with_reducible repeat (first | assumption | omega | apply S_I | apply S_L | apply S_D | apply ob_I | apply ob_L | apply ob_D | apply ob_R | apply ax_I | apply ax_L | apply ax_D | apply ax_R | apply o303 | apply o307 | apply o302 | apply o301 | apply ax304 | apply ax305 | apply ax306 | apply ax308 | apply ax309 | apply ax310 | apply lt_S | apply ar305 | apply ar308 | apply ar309)) only [g47_13, g47_15, g47_18, g47_19, g47_22, g47_25, g47_26, g47_29, g47_32, g47_33, g47_34, g47_36, g47_39, g47_40, g47_43, g47_46, g47_49, g47_52, g47_53, g47_55, g47_58, g47_59, g47_62, g47_65, g47_66, g47_69, g47_70, g47_71, g47_74, g47_75, g47_77, g47_80, g47_81, g47_82, g47_85, g47_88, g47_91, g47_94, g47_95, g47_96, g47_99, g47_100, g47_103, g47_104, g47_106, g47_109, g47_110, g47_113, g47_114, g47_117, g47_120, g47_123, g47_124, g47_127, g47_130, g47_131, g47_132, g47_134, g47_137, g47_138, g47_140, g47_143, g47_144, g47_147, g47_148, g47_151, g47_152, g47_153, g47_156, g47_159, g47_160, g47_163, g47_164, g47_165, g47_168, Option.toList, List.nil_append, List.cons_append, va_rf, nI_ltI, nI_leI, nI_eq, nI_add, nI_sub, nI_lt0, nI_e0, nI_m1, m1_nI, Nat.reduceEqDiff, Nat.reduceLT, Nat.reduceLeDiff, Nat.reduceAdd, Nat.reduceSub, Nat.reduceMul, ↓reduceIte, eq_self, Nat.le_refl, z1, show ¬ 18 + w = 23 by omega, m0, ite_self]
  | succ k ih =>
    intro i m u σ g hk hi hm A Z N
    have hi2 : i < rgN a b := by omega
    have S := A.2.1
    have z1 := Z.1
    have Nx : ∀ j v, st[j]? = some v → xn g j v := by
      by_cases c : w = 5 ∨ m = 0
      · rw [if_pos c] at N; exact N.2
      · rw [if_neg c] at N; exact st_app N.2
    rw [rgF_s]
    by_cases s0 : σ.1 = 0
    · rw [show evFold cv w (rgC a b i :: rgF a b (i + 1) k) m u σ = (oF 8, σ) from if_pos s0]
      have ts0 := x_tookStepN (d := d + 2) A s0
      have A1 : XS h (am_setI g 9 13 (nI 8)) o rr sa dp ts σ := XS_I A (Or.inl ⟨rfl, rfl⟩) ho
      have L1 : FLx h (am_setI g 9 13 (nI 8)) (.inl 8) := ⟨rI_eq, by decide, by decide, Z.2⟩
      refine ⟨_, fun Q => ?_, ⟨A1, L1, fun j v hv => xn_keep (by rw [rI_a (by decide)]) rfl rfl (Nx j v hv)⟩, FA_I (by omega)⟩
      rw [← x_foldBad (d := d + 3) (Q := Q) (w := w) (m := m) (i := i + 1) A1.2.1 L1 sd (by omega), g47_11]
      simp (disch := first | with_reducible assumption | omega | exact Or.inl rfl | exact Or.inr rfl | exact bI_01 | exact c_cat | exact vt_ref | exact vt_null | rfl | with_reducible repeat (first | assumption | omega | apply S_I | apply S_L | apply S_D | apply ob_I | apply ob_L | apply ob_D | apply ob_R | apply ax_I | apply ax_L | apply ax_D | apply ax_R | apply o303 | apply o307 | apply o302 | apply o301 | apply ax304 | apply ax305 | apply ax306 | apply ax308 | apply ax309 | apply ax310 | apply lt_S | apply ar305 | apply ar308 | apply ar309)) only [g47_13, g47_15, g47_18, g47_19, g47_22, g47_25, g47_26, g47_29, g47_32, g47_33, g47_34, g47_36, g47_39, g47_40, g47_43, g47_46, g47_49, g47_52, g47_53, g47_55, g47_58, g47_59, g47_62, g47_65, g47_66, g47_69, g47_70, g47_71, g47_74, g47_75, g47_77, g47_80, g47_81, g47_82, g47_85, g47_88, g47_91, g47_94, g47_95, g47_96, g47_99, g47_100, g47_103, g47_104, g47_106, g47_109, g47_110, g47_113, g47_114, g47_117, g47_120, Option.toList, List.nil_append, List.cons_append, va_rf, nI_ltI, nI_leI, nI_eq, nI_add, nI_sub, nI_lt0, nI_e0, nI_m1, m1_nI, Nat.reduceEqDiff, Nat.reduceLT, Nat.reduceLeDiff, Nat.reduceAdd, Nat.reduceSub, Nat.reduceMul, ↓reduceIte, eq_self, show ¬ rgN a b ≤ i by omega, z1, ts0 _]
    · have ts1 := x_tookStep (d := d + 2) A s0
      have A1 := XS_step A
      have S1 := A1.2.1
      have Z1 : KZ (am_setI g 9 11 (nI (σ.1 - 1))) := ⟨by rw [rI_k (by decide)]; exact Z.1, Z.2⟩
      have N1 := NS_9 (k := 11) (x := nI (σ.1 - 1)) N
      have co := fun Q => x_rangeCell (d := d + 2) (h := am_setI g 9 11 (nI (σ.1 - 1))) (Q := Q) (v2 := none) (v3 := none) ha hb sd (j := i) (by omega)
      have ll : (if w = 5 ∨ m = 0 then st else st ++ [u]).length < 1024 := by
        split
        · omega
        · rw [List.length_append]; show st.length + 1 < 1024; omega
      obtain ⟨g2, bb, r2, A2, FA2, O1, O2, O3, -⟩ := x_readCell (d := d) true h4 A1 ho N1 ll Z1 C (hP i hi2)
      rw [bI_t] at r2
      have S2 := A2.2.1
      have FA02 : FA g g2 := FA_trans (FA_I (by omega)) FA2
      match hr : rdR cv (rgC a b i) true with
      | none =>
        obtain ⟨q1, q2, q3⟩ := O3 hr
        subst q1
        rw [bI_f] at r2
        have ee : evFold cv w (rgC a b i :: rgF a b (i + 1) k) m u σ = evFold cv w (rgF a b (i + 1) k) m u (σ.1 - 1, σ.2 ++ [rgC a b i]) := by
          rw [evFold, if_neg s0, hr]
        obtain ⟨g', r3, OO, F3⟩ := ih (i + 1) m u (σ.1 - 1, σ.2 ++ [rgC a b i]) g2 (by omega) (by omega) (by omega) A2 q3 q2
        rw [ee]
        refine ⟨g', fun Q => ?_, OO, FA_trans FA02 F3⟩
        rw [← r3 Q, g47_11]
        simp (disch := first | with_reducible assumption | omega | exact Or.inl rfl | exact Or.inr rfl | exact bI_01 | exact c_cat | exact vt_ref | exact vt_null | rfl | with_reducible repeat (first | assumption | omega | apply S_I | apply S_L | apply S_D | apply ob_I | apply ob_L | apply ob_D | apply ob_R | apply ax_I | apply ax_L | apply ax_D | apply ax_R | apply o303 | apply o307 | apply o302 | apply o301 | apply ax304 | apply ax305 | apply ax306 | apply ax308 | apply ax309 | apply ax310 | apply lt_S | apply ar305 | apply ar308 | apply ar309)) only [g47_13, g47_15, g47_18, g47_19, g47_22, g47_25, g47_26, g47_29, g47_32, g47_33, g47_34, g47_36, g47_39, g47_40, g47_43, g47_46, g47_49, g47_52, g47_53, g47_55, g47_58, g47_59, g47_62, g47_65, g47_66, g47_69, g47_70, g47_71, g47_74, g47_75, g47_77, g47_80, g47_81, g47_82, g47_85, g47_88, g47_91, g47_94, g47_95, g47_96, g47_99, g47_100, g47_103, g47_104, g47_106, g47_109, g47_110, g47_113, g47_114, g47_117, g47_120, Option.toList, List.nil_append, List.cons_append, va_rf, nI_ltI, nI_leI, nI_eq, nI_add, nI_sub, nI_lt0, nI_e0, nI_m1, m1_nI, Nat.reduceEqDiff, Nat.reduceLT, Nat.reduceLeDiff, Nat.reduceAdd, Nat.reduceSub, Nat.reduceMul, ↓reduceIte, eq_self, show ¬ rgN a b ≤ i by omega, z1, ts1 _, co _, r2 _]
      | some (.inr q) =>
        obtain ⟨q1, q2, q3⟩ := O2 _ hr
        subst q1
        rw [bI_f] at r2
        rw [show evFold cv w (rgC a b i :: rgF a b (i + 1) k) m u σ = (.inr q, (σ.1 - 1, σ.2 ++ [rgC a b i])) by rw [evFold, if_neg s0, hr]]
        refine ⟨g2, fun Q => ?_, ⟨A2, q3, ?_⟩, FA02⟩
        · rw [← x_foldBad (d := d + 3) (Q := Q) (w := w) (m := m) (i := i + 1) A2.2.1 q3 sd (by omega), g47_11]
          simp (disch := first | with_reducible assumption | omega | exact Or.inl rfl | exact Or.inr rfl | exact bI_01 | exact c_cat | exact vt_ref | exact vt_null | rfl | with_reducible repeat (first | assumption | omega | apply S_I | apply S_L | apply S_D | apply ob_I | apply ob_L | apply ob_D | apply ob_R | apply ax_I | apply ax_L | apply ax_D | apply ax_R | apply o303 | apply o307 | apply o302 | apply o301 | apply ax304 | apply ax305 | apply ax306 | apply ax308 | apply ax309 | apply ax310 | apply lt_S | apply ar305 | apply ar308 | apply ar309)) only [g47_13, g47_15, g47_18, g47_19, g47_22, g47_25, g47_26, g47_29, g47_32, g47_33, g47_34, g47_36, g47_39, g47_40, g47_43, g47_46, g47_49, g47_52, g47_53, g47_55, g47_58, g47_59, g47_62, g47_65, g47_66, g47_69, g47_70, g47_71, g47_74, g47_75, g47_77, g47_80, g47_81, g47_82, g47_85, g47_88, g47_91, g47_94, g47_95, g47_96, g47_99, g47_100, g47_103, g47_104, g47_106, g47_109, g47_110, g47_113, g47_114, g47_117, g47_120, Option.toList, List.nil_append, List.cons_append, va_rf, nI_ltI, nI_leI, nI_eq, nI_add, nI_sub, nI_lt0, nI_e0, nI_m1, m1_nI, Nat.reduceEqDiff, Nat.reduceLT, Nat.reduceLeDiff, Nat.reduceAdd, Nat.reduceSub, Nat.reduceMul, ↓reduceIte, eq_self, show ¬ rgN a b ≤ i by omega, z1, ts1 _, co _, r2 _]
        · by_cases c : w = 5 ∨ m = 0
          · rw [if_pos c] at q2; exact q2.2
          · rw [if_neg c] at q2; exact st_app q2.2
      | some (.inl v) =>
        obtain ⟨q1, q2, q3, q4⟩ := O1 _ hr
        subst q1
        rw [bI_t] at r2
        by_cases w5 : w = 5
        · subst w5
          rw [if_pos (Or.inl rfl)] at q2
          obtain ⟨x, ex, r3, N3, F3⟩ := x_popL (d := d + 2) S2 q2 (by omega)
          have ee : evFold cv 5 (rgC a b i :: rgF a b (i + 1) k) m u σ = evFold cv 5 (rgF a b (i + 1) k) (m + 1) v (σ.1 - 1, σ.2 ++ [rgC a b i]) := by
            rw [evFold, if_neg s0, hr]
            by_cases m0 : m = 0
            · subst m0; rfl
            · show (if m = 0 then _ else if 5 = 2 then _ else if 5 = 3 then _ else if 5 = 4 then _ else _) = _
              rw [if_neg m0, if_neg (by decide), if_neg (by decide), if_neg (by decide)]
          obtain ⟨g', r4, OO, F4⟩ := ih (i + 1) (m + 1) v (σ.1 - 1, σ.2 ++ [rgC a b i]) _ (by omega) (by omega) (by omega) (XS_num A2 F3) (KZ_fr F3 (by decide) q3) (by rw [if_pos (Or.inl rfl)]; exact N3)
          rw [ee]
          refine ⟨g', fun Q => ?_, OO, FA_trans FA02 (FA_trans (FA_fr F3 (fun a q => by omega)) F4)⟩
          rw [← r4 Q, g47_11]
          simp (disch := first | with_reducible assumption | omega | exact Or.inl rfl | exact Or.inr rfl | exact bI_01 | exact c_cat | exact vt_ref | exact vt_null | rfl | with_reducible repeat (first | assumption | omega | apply S_I | apply S_L | apply S_D | apply ob_I | apply ob_L | apply ob_D | apply ob_R | apply ax_I | apply ax_L | apply ax_D | apply ax_R | apply o303 | apply o307 | apply o302 | apply o301 | apply ax304 | apply ax305 | apply ax306 | apply ax308 | apply ax309 | apply ax310 | apply lt_S | apply ar305 | apply ar308 | apply ar309)) only [g47_13, g47_15, g47_18, g47_19, g47_22, g47_25, g47_26, g47_29, g47_32, g47_33, g47_34, g47_36, g47_39, g47_40, g47_43, g47_46, g47_49, g47_52, g47_53, g47_55, g47_58, g47_59, g47_62, g47_65, g47_66, g47_69, g47_70, g47_71, g47_74, g47_75, g47_77, g47_80, g47_81, g47_82, g47_85, g47_88, g47_91, g47_94, g47_95, g47_96, g47_99, g47_100, g47_103, g47_104, g47_106, g47_109, g47_110, g47_113, g47_114, g47_117, g47_120, Option.toList, List.nil_append, List.cons_append, va_rf, nI_ltI, nI_leI, nI_eq, nI_add, nI_sub, nI_lt0, nI_e0, nI_m1, m1_nI, Nat.reduceEqDiff, Nat.reduceLT, Nat.reduceLeDiff, Nat.reduceAdd, Nat.reduceSub, Nat.reduceMul, ↓reduceIte, eq_self, show ¬ rgN a b ≤ i by omega, z1, ts1 _, co _, r2 _, r3 _]
        · by_cases m0 : m = 0
          · subst m0
            rw [if_pos (Or.inr rfl)] at q2
            have ee : evFold cv w (rgC a b i :: rgF a b (i + 1) k) 0 u σ = evFold cv w (rgF a b (i + 1) k) 1 v (σ.1 - 1, σ.2 ++ [rgC a b i]) := by
              rw [evFold, if_neg s0, hr]; rfl
            obtain ⟨g', r4, OO, F4⟩ := ih (i + 1) 1 v (σ.1 - 1, σ.2 ++ [rgC a b i]) g2 (by omega) (by omega) (by omega) A2 q3 (by rw [if_neg (by omega)]; exact q2)
            rw [ee]
            refine ⟨g', fun Q => ?_, OO, FA_trans FA02 F4⟩
            rw [← r4 Q, g47_11]
            simp (disch := first | with_reducible assumption | omega | exact Or.inl rfl | exact Or.inr rfl | exact bI_01 | exact c_cat | exact vt_ref | exact vt_null | rfl | with_reducible repeat (first | assumption | omega | apply S_I | apply S_L | apply S_D | apply ob_I | apply ob_L | apply ob_D | apply ob_R | apply ax_I | apply ax_L | apply ax_D | apply ax_R | apply o303 | apply o307 | apply o302 | apply o301 | apply ax304 | apply ax305 | apply ax306 | apply ax308 | apply ax309 | apply ax310 | apply lt_S | apply ar305 | apply ar308 | apply ar309)) only [g47_13, g47_15, g47_18, g47_19, g47_22, g47_25, g47_26, g47_29, g47_32, g47_33, g47_34, g47_36, g47_39, g47_40, g47_43, g47_46, g47_49, g47_52, g47_53, g47_55, g47_58, g47_59, g47_62, g47_65, g47_66, g47_69, g47_70, g47_71, g47_74, g47_75, g47_77, g47_80, g47_81, g47_82, g47_85, g47_88, g47_91, g47_94, g47_95, g47_96, g47_99, g47_100, g47_103, g47_104, g47_106, g47_109, g47_110, g47_113, g47_114, g47_117, g47_120, Option.toList, List.nil_append, List.cons_append, va_rf, nI_ltI, nI_leI, nI_eq, nI_add, nI_sub, nI_lt0, nI_e0, nI_m1, m1_nI, Nat.reduceEqDiff, Nat.reduceLT, Nat.reduceLeDiff, Nat.reduceAdd, Nat.reduceSub, Nat.reduceMul, ↓reduceIte, eq_self, show ¬ rgN a b ≤ i by omega, z1, ts1 _, co _, r2 _, show ¬ 18 + w = 23 by omega, Nat.le_refl]
          · rw [if_neg (by omega)] at q2
            have m1 : ¬ m + 1 ≤ 1 := by omega
            rcases hw with rfl | hw
            · obtain ⟨g3, kk, r3, F3, K3⟩ := x_plus (d := d) S2 q2 (by omega)
              have A3 := XS_num A2 F3
              have S3 := A3.2.1
              have Z3 := KZ_fr F3 (by decide) q3
              have A4 : XS h (am_setI g3 9 13 (nI kk)) o rr sa dp ts (σ.1 - 1, σ.2 ++ [rgC a b i]) := XS_I A3 (Or.inl ⟨rfl, rfl⟩) ho
              have FA3 : FA g (am_setI g3 9 13 (nI kk)) := FA_trans FA02 (FA_trans (FA_fr F3 (fun a q => by omega)) (FA_I (by omega)))
              match hop : op2 43 u v, K3 with
              | .inr (.inl k9), ⟨k0, k01, k02, N5⟩ =>
                subst k0
                rw [show evFold cv 2 (rgC a b i :: rgF a b (i + 1) k) m u σ = (.inr (.inl kk), (σ.1 - 1, σ.2 ++ [rgC a b i])) by rw [evFold, if_neg s0, hr]; show (if m = 0 then _ else if 2 = 2 then _ else _) = _; rw [if_neg m0, if_pos rfl, hop]]
                have L4 : FLx h (am_setI g3 9 13 (nI kk)) (.inl kk) := ⟨rI_eq, by omega, k02, Z3.2⟩
                refine ⟨_, fun Q => ?_, ⟨A4, L4, (NS_9 N5).2⟩, FA3⟩
                rw [← x_foldBad (d := d + 3) (Q := Q) (w := 2) (m := m + 1) (i := i + 1) A4.2.1 L4 sd (by omega), g47_11]
                simp (disch := first | with_reducible assumption | omega | exact Or.inl rfl | exact Or.inr rfl | exact bI_01 | exact c_cat | exact vt_ref | exact vt_null | rfl | with_reducible repeat (first | assumption | omega | apply S_I | apply S_L | apply S_D | apply ob_I | apply ob_L | apply ob_D | apply ob_R | apply ax_I | apply ax_L | apply ax_D | apply ax_R | apply o303 | apply o307 | apply o302 | apply o301 | apply ax304 | apply ax305 | apply ax306 | apply ax308 | apply ax309 | apply ax310 | apply lt_S | apply ar305 | apply ar308 | apply ar309)) only [g47_13, g47_15, g47_18, g47_19, g47_22, g47_25, g47_26, g47_29, g47_32, g47_33, g47_34, g47_36, g47_39, g47_40, g47_43, g47_46, g47_49, g47_52, g47_53, g47_55, g47_58, g47_59, g47_62, g47_65, g47_66, g47_69, g47_70, g47_71, g47_74, g47_75, g47_77, g47_80, g47_81, g47_82, g47_85, g47_88, g47_91, g47_94, g47_95, g47_96, g47_99, g47_100, g47_103, g47_104, g47_106, g47_109, g47_110, g47_113, g47_114, g47_117, g47_120, Option.toList, List.nil_append, List.cons_append, va_rf, nI_ltI, nI_leI, nI_eq, nI_add, nI_sub, nI_lt0, nI_e0, nI_m1, m1_nI, Nat.reduceEqDiff, Nat.reduceLT, Nat.reduceLeDiff, Nat.reduceAdd, Nat.reduceSub, Nat.reduceMul, ↓reduceIte, eq_self, show ¬ rgN a b ≤ i by omega, z1, ts1 _, co _, r2 _, m1, r3 _]
              | .inl q, ⟨k0, N5⟩ =>
                subst k0
                rw [show evFold cv 2 (rgC a b i :: rgF a b (i + 1) k) m u σ = evFold cv 2 (rgF a b (i + 1) k) (m + 1) q (σ.1 - 1, σ.2 ++ [rgC a b i]) by rw [evFold, if_neg s0, hr]; show (if m = 0 then _ else if 2 = 2 then _ else _) = _; rw [if_neg m0, if_pos rfl, hop]]
                obtain ⟨g', r4, OO, F4⟩ := ih (i + 1) (m + 1) q (σ.1 - 1, σ.2 ++ [rgC a b i]) _ (by omega) (by omega) (by omega) A4 ⟨rI_eq, Z3.2⟩ (by rw [if_neg (by omega)]; exact NS_9 N5)
                refine ⟨g', fun Q => ?_, OO, FA_trans FA3 F4⟩
                rw [← r4 Q, g47_11]
                simp (disch := first | with_reducible assumption | omega | exact Or.inl rfl | exact Or.inr rfl | exact bI_01 | exact c_cat | exact vt_ref | exact vt_null | rfl | with_reducible repeat (first | assumption | omega | apply S_I | apply S_L | apply S_D | apply ob_I | apply ob_L | apply ob_D | apply ob_R | apply ax_I | apply ax_L | apply ax_D | apply ax_R | apply o303 | apply o307 | apply o302 | apply o301 | apply ax304 | apply ax305 | apply ax306 | apply ax308 | apply ax309 | apply ax310 | apply lt_S | apply ar305 | apply ar308 | apply ar309)) only [g47_13, g47_15, g47_18, g47_19, g47_22, g47_25, g47_26, g47_29, g47_32, g47_33, g47_34, g47_36, g47_39, g47_40, g47_43, g47_46, g47_49, g47_52, g47_53, g47_55, g47_58, g47_59, g47_62, g47_65, g47_66, g47_69, g47_70, g47_71, g47_74, g47_75, g47_77, g47_80, g47_81, g47_82, g47_85, g47_88, g47_91, g47_94, g47_95, g47_96, g47_99, g47_100, g47_103, g47_104, g47_106, g47_109, g47_110, g47_113, g47_114, g47_117, g47_120, Option.toList, List.nil_append, List.cons_append, va_rf, nI_ltI, nI_leI, nI_eq, nI_add, nI_sub, nI_lt0, nI_e0, nI_m1, m1_nI, Nat.reduceEqDiff, Nat.reduceLT, Nat.reduceLeDiff, Nat.reduceAdd, Nat.reduceSub, Nat.reduceMul, ↓reduceIte, eq_self, show ¬ rgN a b ≤ i by omega, z1, ts1 _, co _, r2 _, m1, r3 _]
            · have kb : ∃ g3, am_run (d + 2) 69 [some (.ref 12), some (.int (bI (decide (w = 4)))), none] g2 none g3 ∧ am_fr nsP g2 g3 ∧ NS g3 (st ++ [if (if decide (w = 4) = true then below u v else below v u) = true then v else u]) := x_keepBetter (d := d) (decide (w = 4)) S2 q2 (by omega)
              obtain ⟨g3, r3, F3, N3⟩ := kb
              have ee : evFold cv w (rgC a b i :: rgF a b (i + 1) k) m u σ = evFold cv w (rgF a b (i + 1) k) (m + 1) (if (if decide (w = 4) = true then below u v else below v u) = true then v else u) (σ.1 - 1, σ.2 ++ [rgC a b i]) := by
                rw [evFold, if_neg s0, hr]
                rcases hw with rfl | rfl | rfl
                · show (if m = 0 then _ else if 3 = 2 then _ else if 3 = 3 then _ else _) = _
                  rw [if_neg m0, if_neg (by decide), if_pos rfl]; rfl
                · show (if m = 0 then _ else if 4 = 2 then _ else if 4 = 3 then _ else if 4 = 4 then _ else _) = _
                  rw [if_neg m0, if_neg (by decide), if_neg (by decide), if_pos rfl]; rfl
                · exact absurd rfl w5
              obtain ⟨g', r4, OO, F4⟩ := ih (i + 1) (m + 1) _ (σ.1 - 1, σ.2 ++ [rgC a b i]) g3 (by omega) (by omega) (by omega) (XS_num A2 F3) (KZ_fr F3 (by decide) q3) (by rw [if_neg (by omega)]; exact N3)
              rw [ee]
              refine ⟨g', fun Q => ?_, OO, FA_trans FA02 (FA_trans (FA_fr F3 (fun a q => by omega)) F4)⟩
              rw [← r4 Q, g47_11]
              rcases hw with rfl | rfl | rfl
              · rw [show bI (decide (3 = 4)) = nI 0 from rfl] at r3
                simp (disch := first | with_reducible assumption | omega | exact Or.inl rfl | exact Or.inr rfl | exact bI_01 | exact c_cat | exact vt_ref | exact vt_null | rfl | with_reducible repeat (first | assumption | omega | apply S_I | apply S_L | apply S_D | apply ob_I | apply ob_L | apply ob_D | apply ob_R | apply ax_I | apply ax_L | apply ax_D | apply ax_R | apply o303 | apply o307 | apply o302 | apply o301 | apply ax304 | apply ax305 | apply ax306 | apply ax308 | apply ax309 | apply ax310 | apply lt_S | apply ar305 | apply ar308 | apply ar309)) only [g47_13, g47_15, g47_18, g47_19, g47_22, g47_25, g47_26, g47_29, g47_32, g47_33, g47_34, g47_36, g47_39, g47_40, g47_43, g47_46, g47_49, g47_52, g47_53, g47_55, g47_58, g47_59, g47_62, g47_65, g47_66, g47_69, g47_70, g47_71, g47_74, g47_75, g47_77, g47_80, g47_81, g47_82, g47_85, g47_88, g47_91, g47_94, g47_95, g47_96, g47_99, g47_100, g47_103, g47_104, g47_106, g47_109, g47_110, g47_113, g47_114, g47_117, g47_120, Option.toList, List.nil_append, List.cons_append, va_rf, nI_ltI, nI_leI, nI_eq, nI_add, nI_sub, nI_lt0, nI_e0, nI_m1, m1_nI, Nat.reduceEqDiff, Nat.reduceLT, Nat.reduceLeDiff, Nat.reduceAdd, Nat.reduceSub, Nat.reduceMul, ↓reduceIte, eq_self, show ¬ rgN a b ≤ i by omega, z1, ts1 _, co _, r2 _, m1, r3 _]
              · rw [show bI (decide (4 = 4)) = nI 1 from rfl] at r3
                simp (disch := first | with_reducible assumption | omega | exact Or.inl rfl | exact Or.inr rfl | exact bI_01 | exact c_cat | exact vt_ref | exact vt_null | rfl | with_reducible repeat (first | assumption | omega | apply S_I | apply S_L | apply S_D | apply ob_I | apply ob_L | apply ob_D | apply ob_R | apply ax_I | apply ax_L | apply ax_D | apply ax_R | apply o303 | apply o307 | apply o302 | apply o301 | apply ax304 | apply ax305 | apply ax306 | apply ax308 | apply ax309 | apply ax310 | apply lt_S | apply ar305 | apply ar308 | apply ar309)) only [g47_13, g47_15, g47_18, g47_19, g47_22, g47_25, g47_26, g47_29, g47_32, g47_33, g47_34, g47_36, g47_39, g47_40, g47_43, g47_46, g47_49, g47_52, g47_53, g47_55, g47_58, g47_59, g47_62, g47_65, g47_66, g47_69, g47_70, g47_71, g47_74, g47_75, g47_77, g47_80, g47_81, g47_82, g47_85, g47_88, g47_91, g47_94, g47_95, g47_96, g47_99, g47_100, g47_103, g47_104, g47_106, g47_109, g47_110, g47_113, g47_114, g47_117, g47_120, Option.toList, List.nil_append, List.cons_append, va_rf, nI_ltI, nI_leI, nI_eq, nI_add, nI_sub, nI_lt0, nI_e0, nI_m1, m1_nI, Nat.reduceEqDiff, Nat.reduceLT, Nat.reduceLeDiff, Nat.reduceAdd, Nat.reduceSub, Nat.reduceMul, ↓reduceIte, eq_self, show ¬ rgN a b ≤ i by omega, z1, ts1 _, co _, r2 _, m1, r3 _]
              · exact absurd rfl w5
end XFO

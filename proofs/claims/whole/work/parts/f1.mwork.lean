/-! THE MODEL: the small steps of the work -/
abbrev mwP : Nat → Prop := fun a => a = 349 ∨ a = 372 ∨ a = 373 ∨ (385 ≤ a ∧ a ≤ 389)
/-- the state: reader r, depth dp, top of the arguments, steps left and what was read -/
def MW (h g : am_H) (r dp tp_ : Nat) (σ : SR) : Prop :=
  am_fr mwP h g ∧ (∀ k, k < 56 ∨ 70 < k → am_I g 349 k = am_I h 349 k) ∧ σ.1 ≤ 1000 ∧ am_I g 349 56 = nI (1000 - σ.1) ∧ am_I g 349 57 = nI dp ∧ am_I g 349 58 = nI r ∧ r ≤ 256 ∧ am_I g 349 70 = nI tp_ ∧
  (r < 256 → am_I g 373 r = nI (min 24 σ.2.length) ∧ ∀ i, i < 24 → i < σ.2.length → am_I g 372 (24 * r + i) = nI (σ.2.getD i 0)) ∧
  (∀ k, k ≠ r → am_I g 373 k = am_I h 373 k) ∧ ∀ k, ¬ (24 * r ≤ k ∧ k < 24 * r + 24) → am_I g 372 k = am_I h 372 k
/-- the arguments below t stand -/
def AK (g g' : am_H) (t : Nat) : Prop := ∀ j, j < t → am_I g' 385 j = am_I g 385 j ∧ am_L g' 386 j = am_L g 386 j ∧ am_D g' 387 j = am_D g 387 j
/-- the number that is given -/
def rv (g : am_H) (v : VL) : Prop := match v with
  | .inl x => am_I g 349 59 = nI 1 ∧ am_L g 349 65 = x
  | .inr y => am_I g 349 59 = nI 2 ∧ am_D g 349 66 = y ∧ okD y
/-- what the work came to -/
def MO (h g : am_H) (r : Nat) (o : OC) : Prop := match o with
  | .inl v => rv g v ∧ am_I g 349 64 = nI 0
  | .inr (.inl k) => am_I g 349 59 = nI 0 ∧ am_I g 349 60 = nI k ∧ am_I g 349 61 = nI r ∧ am_I g 349 62 = nI 0 ∧ am_I g 349 63 = nI 0 ∧ am_I g 349 64 = nI (if k = 8 then 1 else 0)
  | .inr (.inr c) => am_I g 349 59 = nI 0 ∧ am_I g 349 60 = am_I h 366 c ∧ am_I g 349 61 = am_I h 367 c ∧ am_I g 349 62 = am_I h 368 c ∧ am_I g 349 63 = nI 1 ∧ am_I g 349 64 = nI 0
/-- the cells as the model has them, where P holds -/
def cvH (h : am_H) (cv : Nat → Option (Option VL)) (P : Nat → Prop) : Prop := ∀ c, P c → c < 256 ∧ match cv c with
  | none => am_I h 365 c = nI 0
  | some none => ∃ s, 3 ≤ s ∧ s ≤ 5 ∧ am_I h 365 c = nI s
  | some (some (.inl x)) => am_I h 365 c = nI 1 ∧ am_L h 370 c = x
  | some (some (.inr y)) => am_I h 365 c = nI 2 ∧ am_D h 371 c = y ∧ okD y
section MWK
variable {h g g' g2 : am_H} {r dp t d : Nat} {σ : SR} {k : Nat}
theorem AK_refl : AK g g t := fun _ _ => ⟨rfl, rfl, rfl⟩
theorem AK_trans (A : AK g g' t) (B : AK g' g2 t) : AK g g2 t := fun j hj => ⟨(B j hj).1.trans (A j hj).1, (B j hj).2.1.trans (A j hj).2.1, (B j hj).2.2.trans (A j hj).2.2⟩
theorem AK_le {t' : Nat} (A : AK g g' t) (h : t' ≤ t) : AK g g' t' := fun j hj => A j (by omega)
theorem MW_S (A : MW h g r dp t σ) (S : am_S h) : am_S g := fr_S A.1 S
theorem MW_I {x : Int32} (A : MW h g r dp t σ) (hk : 59 ≤ k ∧ k < 70) : MW h (am_setI g 349 k x) r dp t σ := by
  obtain ⟨a1, a2, a3, a4, a5, a6, a7, a8, a9, a10, a11⟩ := A
  exact ⟨fr_I a1 (Or.inl rfl), fun j hj => by rw [rI_k (by omega)]; exact a2 j hj, a3, by rw [rI_k (by omega)]; exact a4, by rw [rI_k (by omega)]; exact a5, by rw [rI_k (by omega)]; exact a6, a7, by rw [rI_k (by omega)]; exact a8, fun q => by rw [rI_a (by decide)]; exact ⟨(a9 q).1, fun i h1 h2 => by rw [rI_a (by decide)]; exact (a9 q).2 i h1 h2⟩, fun j hj => by rw [rI_a (by decide)]; exact a10 j hj, fun j hj => by rw [rI_a (by decide)]; exact a11 j hj⟩
theorem MW_L {x : Int64} (A : MW h g r dp t σ) : MW h (am_setL g 349 k x) r dp t σ := by
  obtain ⟨a1, a2, a3, a4, a5, a6, a7, a8, a9, a10, a11⟩ := A
  exact ⟨fr_L a1 (Or.inl rfl), a2, a3, a4, a5, a6, a7, a8, a9, a10, a11⟩
theorem MW_D {x : UInt64} (A : MW h g r dp t σ) : MW h (am_setD g 349 k x) r dp t σ := by
  obtain ⟨a1, a2, a3, a4, a5, a6, a7, a8, a9, a10, a11⟩ := A
  exact ⟨fr_D a1 (Or.inl rfl), a2, a3, a4, a5, a6, a7, a8, a9, a10, a11⟩
theorem AK_I {x : Int32} : AK g (am_setI g 349 k x) t := fun j _ => ⟨rI_a (by decide), rfl, rfl⟩
theorem AK_L {x : Int64} : AK g (am_setL g 349 k x) t := fun j _ => ⟨rfl, rL_a (by decide), rfl⟩
theorem AK_D {x : UInt64} : AK g (am_setD g 349 k x) t := fun j _ => ⟨rfl, rfl, rD_a (by decide)⟩
/-- the heap after fail(k) -/
def gFa (g : am_H) (k r : Nat) : am_H := am_setI (am_setI (am_setI (am_setI (am_setI g 349 59 (nI 0)) 349 60 (nI k)) 349 61 (nI r)) 349 62 (nI 0)) 349 63 (nI 0)
theorem gFa_W (A : MW h g r dp t σ) : MW h (gFa g k r) r dp t σ := MW_I (MW_I (MW_I (MW_I (MW_I A (by omega)) (by omega)) (by omega)) (by omega)) (by omega)
theorem gFa_A : AK g (gFa g k r) t := AK_trans (AK_trans (AK_trans (AK_trans AK_I AK_I) AK_I) AK_I) AK_I
theorem gFa_O (hk : k ≠ 8) (sp : am_I g 349 64 = nI 0) : MO h (gFa g k r) r (oF k) := by
  unfold gFa oF MO
  simp only [hI_I, hI_L, hI_D, hI_R, hL_I, hL_L, hL_D, hL_R, hD_I, hD_L, hD_D, hD_R, hR_I, hR_L, hR_D, ↓reduceIte, Nat.reduceEqDiff, if_neg hk]
  exact ⟨trivial, trivial, trivial, trivial, trivial, sp⟩
theorem m_fail (A : MW h g r dp t σ) (S : am_S h) : am_run d 243 [some (.ref 349), some (.int (nI k))] g none (gFa g k r) := fun Q => by
  have Sg := MW_S A S
  have e := A.2.2.2.2.2.1
  unfold gFa
  simp (disch := first | with_reducible assumption | omega | exact Or.inl rfl | exact Or.inr rfl | exact bI_01 | exact c_cat | exact vt_ref | exact vt_null | rfl | with_reducible repeat (first | assumption | omega | apply S_I | apply S_L | apply S_D | apply ob_I | apply ob_L | apply ob_D | apply ob_R | apply ax_I | apply ax_L | apply ax_D | apply ax_R | apply o303 | apply o307 | apply o302 | apply o301 | apply ax304 | apply ax305 | apply ax306 | apply ax308 | apply ax309 | apply ax310 | apply lt_S | apply ar305 | apply ar308 | apply ar309)) only [g243_0, g243_1, g243_2, g243_5, g243_6, g243_7, g243_10, g243_11, g243_12, g243_15, g243_18, g243_19, g243_20, g243_23, g243_24, g243_25, g243_28, Option.toList, List.nil_append, List.cons_append, va_rf, hI_I, hI_L, hI_D, hI_R, hL_I, hL_L, hL_D, hL_R, hD_I, hD_L, hD_D, hD_R, hR_I, hR_L, hR_D, ↓reduceIte, Nat.reduceEqDiff, e]
theorem m_giveL {x : Int64} (A : MW h g r dp t σ) (S : am_S h) (sp : am_I g 349 64 = nI 0) : ∃ g', am_run d 244 [some (.ref 349), some (.long x), none] g none g' ∧ MW h g' r dp t σ ∧ AK g g' t ∧ MO h g' r (oL x) := by
  have Sg := MW_S A S
  refine ⟨am_setL (am_setI g 349 59 (nI 1)) 349 65 x, fun Q => ?_, MW_L (MW_I A (by omega)), AK_trans AK_I AK_L, ?_⟩
  · simp (disch := first | with_reducible assumption | omega | exact Or.inl rfl | exact Or.inr rfl | exact bI_01 | exact c_cat | exact vt_ref | exact vt_null | rfl | with_reducible repeat (first | assumption | omega | apply S_I | apply S_L | apply S_D | apply ob_I | apply ob_L | apply ob_D | apply ob_R | apply ax_I | apply ax_L | apply ax_D | apply ax_R | apply o303 | apply o307 | apply o302 | apply o301 | apply ax304 | apply ax305 | apply ax306 | apply ax308 | apply ax309 | apply ax310 | apply lt_S | apply ar305 | apply ar308 | apply ar309)) only [g244_0, g244_1, g244_2, g244_5, g244_6, g244_7, g244_10, Option.toList, List.nil_append, List.cons_append, va_rf]
  · unfold oL MO rv
    simp only [hI_I, hI_L, hI_D, hI_R, hL_I, hL_L, hL_D, hL_R, hD_I, hD_L, hD_D, hD_R, hR_I, hR_L, hR_D, ↓reduceIte, Nat.reduceEqDiff]
    exact ⟨⟨trivial, trivial⟩, sp⟩
end MWK
/-! doubles that are not infinite -/
theorem dk_max : Jvm.FP.Core.dkey 9218868437227405311 = 9218868437227405311 := by decide +kernel
theorem dk_min : Jvm.FP.Core.dkey 18442240474082181119 = -9218868437227405311 := by decide +kernel
theorem nn_val {x : UInt64} (h : am_nn x) : Jvm.FP.Core.val64 x ≠ .nan := by
  rw [Jvm.FP.Core.ne_nan, ← Jvm.FP.Core.mask_toNat]
  exact UInt64.le_iff_toNat_le.mp h
theorem fin_key {x : UInt64} (h : am_nn x) : (finB x = true ↔ -9218868437227405311 ≤ Jvm.FP.Core.dkey x ∧ Jvm.FP.Core.dkey x ≤ 9218868437227405311) := by
  unfold finB
  rw [decide_eq_true_iff, UInt64.lt_iff_toNat_lt, Jvm.FP.Core.mask_toNat]
  show x.toNat % 2 ^ 63 < 9218868437227405312 ↔ _
  have := x.toNat_lt
  unfold Jvm.FP.Core.dkey
  split <;> omega
theorem cmp_of {x y : UInt64} (hx : am_nn x) (hy : am_nn y) : Jvm.FP.dcmp x y = some (compare (Jvm.FP.Core.dkey x) (Jvm.FP.Core.dkey y)) := Jvm.FP.Core.dcmp_key (nn_val hx) (nn_val hy)
theorem nn_max : am_nn 9218868437227405311 := by unfold am_nn; decide
theorem nn_min : am_nn 18442240474082181119 := by unfold am_nn; decide
theorem i1_gt0 : ((0 : Int32) < nI 1) = True := eq_true (by decide)
theorem i0_gt0 : ((0 : Int32) < nI 0) = False := eq_false (by decide)
theorem m1_gt0 : ((0 : Int32) < -1) = False := eq_false (by decide)
theorem cm_g {x y : UInt64} (hx : am_nn x) (hy : am_nn y) (op) : (0 < Op.cmpValue (Jvm.FP.dcmp x y) op) = (Jvm.FP.Core.dkey y < Jvm.FP.Core.dkey x) := propext (by
  rw [cmp_of hx hy]
  rcases Int.lt_trichotomy (Jvm.FP.Core.dkey x) (Jvm.FP.Core.dkey y) with c | c | c
  · rw [(Jvm.FP.Core.compare_lt_iff _ _).mpr c, cv1]; exact ⟨fun q => absurd q (by decide), fun q => by omega⟩
  · rw [(Jvm.FP.Core.compare_eq_iff _ _).mpr c, cv2]; exact ⟨fun q => absurd q (by decide), fun q => by omega⟩
  · rw [(Jvm.FP.Core.compare_gt_iff _ _).mpr c, cv3]; exact ⟨fun _ => c, fun _ => by decide⟩)
theorem cm_l {x y : UInt64} (hx : am_nn x) (hy : am_nn y) (op) : (Op.cmpValue (Jvm.FP.dcmp x y) op < 0) = (Jvm.FP.Core.dkey x < Jvm.FP.Core.dkey y) := propext (by
  rw [cmp_of hx hy]
  rcases Int.lt_trichotomy (Jvm.FP.Core.dkey x) (Jvm.FP.Core.dkey y) with c | c | c
  · rw [(Jvm.FP.Core.compare_lt_iff _ _).mpr c, cv1]; exact ⟨fun _ => c, fun _ => by decide⟩
  · rw [(Jvm.FP.Core.compare_eq_iff _ _).mpr c, cv2]; exact ⟨fun q => absurd q (by decide), fun q => by omega⟩
  · rw [(Jvm.FP.Core.compare_gt_iff _ _).mpr c, cv3]; exact ⟨fun q => absurd q (by decide), fun q => by omega⟩)
theorem cm_ge {x y : UInt64} (hx : am_nn x) (hy : am_nn y) (op) : (0 ≤ Op.cmpValue (Jvm.FP.dcmp x y) op) = (Jvm.FP.Core.dkey y ≤ Jvm.FP.Core.dkey x) := propext (by
  rw [cmp_of hx hy]
  rcases Int.lt_trichotomy (Jvm.FP.Core.dkey x) (Jvm.FP.Core.dkey y) with c | c | c
  · rw [(Jvm.FP.Core.compare_lt_iff _ _).mpr c, cv1]; exact ⟨fun q => absurd q (by decide), fun q => by omega⟩
  · rw [(Jvm.FP.Core.compare_eq_iff _ _).mpr c, cv2]; exact ⟨fun _ => by omega, fun _ => by decide⟩
  · rw [(Jvm.FP.Core.compare_gt_iff _ _).mpr c, cv3]; exact ⟨fun _ => by omega, fun _ => by decide⟩)
theorem cm_le {x y : UInt64} (hx : am_nn x) (hy : am_nn y) (op) : (Op.cmpValue (Jvm.FP.dcmp x y) op ≤ 0) = (Jvm.FP.Core.dkey x ≤ Jvm.FP.Core.dkey y) := propext (by
  rw [cmp_of hx hy]
  rcases Int.lt_trichotomy (Jvm.FP.Core.dkey x) (Jvm.FP.Core.dkey y) with c | c | c
  · rw [(Jvm.FP.Core.compare_lt_iff _ _).mpr c, cv1]; exact ⟨fun _ => by omega, fun _ => by decide⟩
  · rw [(Jvm.FP.Core.compare_eq_iff _ _).mpr c, cv2]; exact ⟨fun _ => by omega, fun _ => by decide⟩
  · rw [(Jvm.FP.Core.compare_gt_iff _ _).mpr c, cv3]; exact ⟨fun q => absurd q (by decide), fun q => by omega⟩)
theorem cm_e {x y : UInt64} (hx : am_nn x) (hy : am_nn y) (op) : (Op.cmpValue (Jvm.FP.dcmp x y) op = 0) = (Jvm.FP.Core.dkey x = Jvm.FP.Core.dkey y) := propext (by
  rw [cmp_of hx hy]
  rcases Int.lt_trichotomy (Jvm.FP.Core.dkey x) (Jvm.FP.Core.dkey y) with c | c | c
  · rw [(Jvm.FP.Core.compare_lt_iff _ _).mpr c, cv1]; exact ⟨fun q => absurd q (by decide), fun q => by omega⟩
  · rw [(Jvm.FP.Core.compare_eq_iff _ _).mpr c, cv2]; exact ⟨fun _ => c, fun _ => by decide⟩
  · rw [(Jvm.FP.Core.compare_gt_iff _ _).mpr c, cv3]; exact ⟨fun q => absurd q (by decide), fun q => by omega⟩)
theorem dlt_key {x y : UInt64} (hx : am_nn x) (hy : am_nn y) : dlt x y = decide (Jvm.FP.Core.dkey x < Jvm.FP.Core.dkey y) := by
  unfold dlt
  rw [cmp_of hx hy]
  congr 1
  exact propext ⟨fun q => (Jvm.FP.Core.compare_lt_iff _ _).mp (Option.some.inj q), fun q => congrArg some ((Jvm.FP.Core.compare_lt_iff _ _).mpr q)⟩
theorem deq_key {x y : UInt64} (hx : am_nn x) (hy : am_nn y) : deq x y = decide (Jvm.FP.Core.dkey x = Jvm.FP.Core.dkey y) := by
  unfold deq
  rw [cmp_of hx hy]
  congr 1
  exact propext ⟨fun q => (Jvm.FP.Core.compare_eq_iff _ _).mp (Option.some.inj q), fun q => congrArg some ((Jvm.FP.Core.compare_eq_iff _ _).mpr q)⟩
theorem dle_key {x y : UInt64} (hx : am_nn x) (hy : am_nn y) : dle x y = decide (Jvm.FP.Core.dkey x ≤ Jvm.FP.Core.dkey y) := by
  unfold dle
  rw [dlt_key hx hy, show decide (Jvm.FP.dcmp x y = some .eq) = deq x y from rfl, deq_key hx hy, ← Bool.decide_or]
  congr 1
  exact propext ⟨fun q => by omega, fun q => by omega⟩
theorem finB_ok {x : UInt64} : finB x = true ↔ okD x := by unfold finB okD; exact decide_eq_true_iff
section MWL
variable {h g g' : am_H} {r dp t d : Nat} {σ : SR} {k : Nat}
theorem m_giveD {x : UInt64} (A : MW h g r dp t σ) (S : am_S h) (sp : am_I g 349 64 = nI 0) (nn : am_nn x) : ∃ g', am_run (d + 1) 245 [some (.ref 349), some (.double x), none] g none g' ∧ MW h g' r dp t σ ∧ AK g g' t ∧ MO h g' r (gv x) := by
  have Sg := MW_S A S
  have fk := fin_key nn
  have e1 := cm_g nn nn_max .l
  have e2 := cm_ge nn nn_min .g
  rw [dk_max] at e1
  rw [dk_min] at e2
  by_cases c : finB x = true
  · obtain ⟨k1, k2⟩ := fk.mp c
    refine ⟨am_setD (am_setI g 349 59 (nI 2)) 349 66 x, fun Q => ?_, MW_D (MW_I A (by omega)), AK_trans AK_I AK_D, ?_⟩
    · simp (disch := first | with_reducible assumption | omega | exact Or.inl rfl | exact Or.inr rfl | exact bI_01 | exact c_cat | exact vt_ref | exact vt_null | rfl | with_reducible repeat (first | assumption | omega | apply S_I | apply S_L | apply S_D | apply ob_I | apply ob_L | apply ob_D | apply ob_R | apply ax_I | apply ax_L | apply ax_D | apply ax_R | apply o303 | apply o307 | apply o302 | apply o301 | apply ax304 | apply ax305 | apply ax306 | apply ax308 | apply ax309 | apply ax310 | apply lt_S | apply ar305 | apply ar308 | apply ar309)) only [g245_0, g245_1, g245_4, g245_5, g245_8, g245_9, g245_12, g245_13, g245_16, g245_17, g245_18, g245_21, g245_22, g245_23, g245_24, g245_27, g245_28, g245_29, g245_32, Option.toList, List.nil_append, List.cons_append, va_rf, e1, e2, eq_false (show ¬ (9218868437227405311 : Int) < Jvm.FP.Core.dkey x by omega), eq_true (show (-9218868437227405311 : Int) ≤ Jvm.FP.Core.dkey x by omega), ↓reduceIte]
    · unfold gv
      rw [if_pos c]
      unfold MO rv
      simp only [hI_I, hI_L, hI_D, hI_R, hL_I, hL_L, hL_D, hL_R, hD_I, hD_L, hD_D, hD_R, hR_I, hR_L, hR_D, ↓reduceIte, Nat.reduceEqDiff]
      exact ⟨⟨trivial, trivial, finB_ok.mp c⟩, sp⟩
  · refine ⟨gFa g 5 r, fun Q => ?_, gFa_W A, gFa_A, ?_⟩
    · have fl := m_fail (d := d) (k := 5) A S
      by_cases c1 : (9218868437227405311 : Int) < Jvm.FP.Core.dkey x
      · simp (disch := first | with_reducible assumption | omega | exact Or.inl rfl | exact Or.inr rfl | exact bI_01 | exact c_cat | exact vt_ref | exact vt_null | rfl | with_reducible repeat (first | assumption | omega | apply S_I | apply S_L | apply S_D | apply ob_I | apply ob_L | apply ob_D | apply ob_R | apply ax_I | apply ax_L | apply ax_D | apply ax_R | apply o303 | apply o307 | apply o302 | apply o301 | apply ax304 | apply ax305 | apply ax306 | apply ax308 | apply ax309 | apply ax310 | apply lt_S | apply ar305 | apply ar308 | apply ar309)) only [g245_0, g245_1, g245_4, g245_5, g245_8, g245_9, g245_12, g245_13, g245_16, g245_17, g245_18, g245_21, g245_22, g245_23, g245_24, g245_27, g245_28, g245_29, g245_32, Option.toList, List.nil_append, List.cons_append, va_rf, e1, eq_true c1, ↓reduceIte, fl _]
      · have c2 : ¬ (-9218868437227405311 : Int) ≤ Jvm.FP.Core.dkey x := fun q => c (fk.mpr (by omega))
        simp (disch := first | with_reducible assumption | omega | exact Or.inl rfl | exact Or.inr rfl | exact bI_01 | exact c_cat | exact vt_ref | exact vt_null | rfl | with_reducible repeat (first | assumption | omega | apply S_I | apply S_L | apply S_D | apply ob_I | apply ob_L | apply ob_D | apply ob_R | apply ax_I | apply ax_L | apply ax_D | apply ax_R | apply o303 | apply o307 | apply o302 | apply o301 | apply ax304 | apply ax305 | apply ax306 | apply ax308 | apply ax309 | apply ax310 | apply lt_S | apply ar305 | apply ar308 | apply ar309)) only [g245_0, g245_1, g245_4, g245_5, g245_8, g245_9, g245_12, g245_13, g245_16, g245_17, g245_18, g245_21, g245_22, g245_23, g245_24, g245_27, g245_28, g245_29, g245_32, Option.toList, List.nil_append, List.cons_append, va_rf, e1, e2, eq_false c1, eq_false c2, ↓reduceIte, fl _]
    · unfold gv
      rw [if_neg c]
      exact gFa_O (by decide) sp
theorem MW_step (A : MW h g r dp t σ) (c : σ.1 ≠ 0) : MW h (am_setI g 349 56 (nI (1000 - (σ.1 - 1)))) r dp t (σ.1 - 1, σ.2) := by
  obtain ⟨a1, a2, a3, a4, a5, a6, a7, a8, a9, a10, a11⟩ := A
  exact ⟨fr_I a1 (Or.inl rfl), fun j hj => by rw [rI_k (by omega)]; exact a2 j hj, by show σ.1 - 1 ≤ 1000; omega, rI_eq, by rw [rI_k (by decide)]; exact a5, by rw [rI_k (by decide)]; exact a6, a7, by rw [rI_k (by decide)]; exact a8, fun q => by rw [rI_a (by decide)]; exact ⟨(a9 q).1, fun i h1 h2 => by rw [rI_a (by decide)]; exact (a9 q).2 i h1 h2⟩, fun j hj => by rw [rI_a (by decide)]; exact a10 j hj, fun j hj => by rw [rI_a (by decide)]; exact a11 j hj⟩
theorem m_stepY (A : MW h g r dp t σ) (S : am_S h) (c : σ.1 ≠ 0) : am_run d 242 [some (.ref 349)] g (some (.int (nI 1))) (am_setI g 349 56 (nI (1000 - (σ.1 - 1)))) := fun Q => by
  have Sg := MW_S A S
  have e := A.2.2.2.1
  have h3 := A.2.2.1
  have e2 : 1000 - σ.1 + 1 = 1000 - (σ.1 - 1) := by omega
  simp (disch := first | with_reducible assumption | omega | exact Or.inl rfl | exact Or.inr rfl | exact bI_01 | exact c_cat | exact vt_ref | exact vt_null | rfl | with_reducible repeat (first | assumption | omega | apply S_I | apply S_L | apply S_D | apply ob_I | apply ob_L | apply ob_D | apply ob_R | apply ax_I | apply ax_L | apply ax_D | apply ax_R | apply o303 | apply o307 | apply o302 | apply o301 | apply ax304 | apply ax305 | apply ax306 | apply ax308 | apply ax309 | apply ax310 | apply lt_S | apply ar305 | apply ar308 | apply ar309)) only [g242_0, g242_1, g242_4, g242_7, g242_10, g242_11, g242_12, g242_15, g242_16, g242_17, g242_20, g242_21, g242_22, g242_23, g242_25, g242_28, g242_29, g242_30, g242_33, g242_34, Option.toList, List.nil_append, List.cons_append, va_rf, nI_ltI, nI_leI, nI_eq, nI_add, nI_sub, nI_lt0, nI_e0, nI_m1, m1_nI, Nat.reduceEqDiff, Nat.reduceLT, Nat.reduceLeDiff, Nat.reduceAdd, Nat.reduceSub, Nat.reduceMul, ↓reduceIte, eq_self, e, show ¬ 1000 ≤ 1000 - σ.1 by omega, e2]
theorem m_stepN (A : MW h g r dp t σ) (S : am_S h) (c : σ.1 = 0) : ∃ g', am_run (d + 1) 242 [some (.ref 349)] g (some (.int (nI 0))) g' ∧ MW h g' r dp t σ ∧ AK g g' t ∧ MO h g' r (oF 8) := by
  have Sg := MW_S A S
  have e := A.2.2.2.1
  have fl := m_fail (d := d) (k := 8) A S
  have A2 := gFa_W (k := 8) A
  have S2 := MW_S A2 S
  refine ⟨am_setI (gFa g 8 r) 349 64 (nI 1), fun Q => ?_, MW_I A2 (by omega), AK_trans gFa_A AK_I, ?_⟩
  · rw [c] at e
    simp (disch := first | with_reducible assumption | omega | exact Or.inl rfl | exact Or.inr rfl | exact bI_01 | exact c_cat | exact vt_ref | exact vt_null | rfl | with_reducible repeat (first | assumption | omega | apply S_I | apply S_L | apply S_D | apply ob_I | apply ob_L | apply ob_D | apply ob_R | apply ax_I | apply ax_L | apply ax_D | apply ax_R | apply o303 | apply o307 | apply o302 | apply o301 | apply ax304 | apply ax305 | apply ax306 | apply ax308 | apply ax309 | apply ax310 | apply lt_S | apply ar305 | apply ar308 | apply ar309)) only [g242_0, g242_1, g242_4, g242_7, g242_10, g242_11, g242_12, g242_15, g242_16, g242_17, g242_20, g242_21, g242_22, g242_23, g242_25, g242_28, g242_29, g242_30, g242_33, g242_34, Option.toList, List.nil_append, List.cons_append, va_rf, nI_ltI, nI_leI, nI_eq, nI_add, nI_sub, nI_lt0, nI_e0, nI_m1, m1_nI, Nat.reduceEqDiff, Nat.reduceLT, Nat.reduceLeDiff, Nat.reduceAdd, Nat.reduceSub, Nat.reduceMul, ↓reduceIte, eq_self, e, fl _]
  · unfold gFa oF MO
    simp only [hI_I, hI_L, hI_D, hI_R, hL_I, hL_L, hL_D, hL_R, hD_I, hD_L, hD_D, hD_R, hR_I, hR_L, hR_D, ↓reduceIte, Nat.reduceEqDiff]
    exact ⟨trivial, trivial, trivial, trivial, trivial, trivial⟩
theorem m_real {v : VL} (S : am_S g) (V : rv g v) : am_run d 249 [some (.ref 349)] g (some (.double (vD v))) g := fun Q => by
  match v, V with
  | .inl x, ⟨e1, e2⟩ =>
    simp (disch := first | with_reducible assumption | omega | exact Or.inl rfl | exact Or.inr rfl | exact bI_01 | exact c_cat | exact vt_ref | exact vt_null | rfl | with_reducible repeat (first | assumption | omega | apply S_I | apply S_L | apply S_D | apply ob_I | apply ob_L | apply ob_D | apply ob_R | apply ax_I | apply ax_L | apply ax_D | apply ax_R | apply o303 | apply o307 | apply o302 | apply o301 | apply ax304 | apply ax305 | apply ax306 | apply ax308 | apply ax309 | apply ax310 | apply lt_S | apply ar305 | apply ar308 | apply ar309)) only [g249_0, g249_1, g249_4, g249_5, g249_8, g249_9, g249_12, g249_13, g249_16, g249_17, g249_20, Option.toList, List.nil_append, List.cons_append, va_rf, nI_ltI, nI_leI, nI_eq, nI_add, nI_sub, nI_lt0, nI_e0, nI_m1, m1_nI, Nat.reduceEqDiff, Nat.reduceLT, Nat.reduceLeDiff, Nat.reduceAdd, Nat.reduceSub, Nat.reduceMul, ↓reduceIte, eq_self, e1, e2, vD]
  | .inr y, ⟨e1, e2, _⟩ =>
    simp (disch := first | with_reducible assumption | omega | exact Or.inl rfl | exact Or.inr rfl | exact bI_01 | exact c_cat | exact vt_ref | exact vt_null | rfl | with_reducible repeat (first | assumption | omega | apply S_I | apply S_L | apply S_D | apply ob_I | apply ob_L | apply ob_D | apply ob_R | apply ax_I | apply ax_L | apply ax_D | apply ax_R | apply o303 | apply o307 | apply o302 | apply o301 | apply ax304 | apply ax305 | apply ax306 | apply ax308 | apply ax309 | apply ax310 | apply lt_S | apply ar305 | apply ar308 | apply ar309)) only [g249_0, g249_1, g249_4, g249_5, g249_8, g249_9, g249_12, g249_13, g249_16, g249_17, g249_20, Option.toList, List.nil_append, List.cons_append, va_rf, nI_ltI, nI_leI, nI_eq, nI_add, nI_sub, nI_lt0, nI_e0, nI_m1, m1_nI, Nat.reduceEqDiff, Nat.reduceLT, Nat.reduceLeDiff, Nat.reduceAdd, Nat.reduceSub, Nat.reduceMul, ↓reduceIte, eq_self, e1, e2, vD]
end MWL

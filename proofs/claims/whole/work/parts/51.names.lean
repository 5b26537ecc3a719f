/-! NAMES AND WORDS -/
theorem vt_ref {n : Nat} : am_vt (.ref n) = 3 := rfl
theorem vt_null : am_vt .null = 3 := rfl
theorem lN_inj64 {a b : Nat} (ha : a < 2 ^ 64) (hb : b < 2 ^ 64) : lN a = lN b ↔ a = b := by
  constructor
  · intro e
    have := congrArg (fun x => x.toBitVec.toNat) e
    simp only [lN_bv', BitVec.toNat_ofNat] at this
    rwa [Nat.mod_eq_of_lt ha, Nat.mod_eq_of_lt hb] at this
  · intro e; rw [e]
section LXW
variable {B o : Nat} {t t' : Nat → Nat} {q q' : Nat}
theorem lx_w_lt (hB : 1 < B) : ∀ m, (∀ i, i < m → t (q + i) - o < B) → lx_w B o t q m < B ^ m := by
  intro m
  induction m with
  | zero => intro _; exact Nat.one_pos
  | succ m ih =>
    intro hd
    have h1 := ih (fun i hi => hd i (by omega))
    have h2 := hd m (by omega)
    show lx_w B o t q m * B + (t (q + m) - o) < B ^ m * B
    have h3 : (lx_w B o t q m + 1) * B ≤ B ^ m * B := Nat.mul_le_mul_right B h1
    rw [Nat.add_mul, Nat.one_mul] at h3
    omega
theorem lx_w_congr : ∀ m, (∀ i, i < m → t (q + i) = t' (q' + i)) → lx_w B o t q m = lx_w B o t' q' m := by
  intro m
  induction m with
  | zero => intro _; rfl
  | succ m ih =>
    intro hd
    show lx_w B o t q m * B + (t (q + m) - o) = lx_w B o t' q' m * B + (t' (q' + m) - o)
    rw [ih (fun i hi => hd i (by omega)), hd m (by omega)]
theorem lx_inj (hB : 1 < B) : ∀ m m', (∀ i, i < m → 1 ≤ t (q + i) - o ∧ t (q + i) - o < B) → (∀ i, i < m' → 1 ≤ t' (q' + i) - o ∧ t' (q' + i) - o < B) → lx_w B o t q m = lx_w B o t' q' m' → m = m' ∧ ∀ i, i < m → t (q + i) - o = t' (q' + i) - o := by
  intro m
  induction m with
  | zero =>
    intro m' _ h2 e
    cases m' with
    | zero => exact ⟨rfl, fun i hi => absurd hi (Nat.not_lt_zero _)⟩
    | succ m' =>
      have := (h2 m' (by omega)).1
      have e : 0 = lx_w B o t' q' m' * B + (t' (q' + m') - o) := e
      omega
  | succ m ih =>
    intro m' h1 h2 e
    cases m' with
    | zero =>
      have := (h1 m (by omega)).1
      have e : lx_w B o t q m * B + (t (q + m) - o) = 0 := e
      omega
    | succ m' =>
      have d1 := (h1 m (by omega)).2
      have d2 := (h2 m' (by omega)).2
      have e : lx_w B o t q m * B + (t (q + m) - o) = lx_w B o t' q' m' * B + (t' (q' + m') - o) := e
      have e1 : t (q + m) - o = t' (q' + m') - o := by
        have := congrArg (· % B) e
        simp only [Nat.mul_add_mod_self_right, Nat.mod_eq_of_lt d1, Nat.mod_eq_of_lt d2] at this
        exact this
      have e2 : lx_w B o t q m = lx_w B o t' q' m' := by
        rw [e1] at e
        exact Nat.eq_of_mul_eq_mul_right (by omega) (Nat.add_right_cancel e)
      obtain ⟨i1, i2⟩ := ih m' (fun i hi => h1 i (by omega)) (fun i hi => h2 i (by omega)) e2
      subst i1
      refine ⟨rfl, fun i hi => ?_⟩
      rcases Nat.lt_succ_iff_lt_or_eq.mp hi with c | c
      · exact i2 i c
      · subst c; exact e1
end LXW
theorem isL_of {k : Nat} (h : isL k = true) : 97 ≤ k ∧ k ≤ 122 := by simpa [isL] using h
/-- a name, as the class and as the model keep it -/
def NM (x m : Int64) : Prop := ∃ (t : Nat → Nat) (q k : Nat), 1 ≤ k ∧ k ≤ 8 ∧ (∀ i, i < k → isL (t (q + i)) = true) ∧ x = lN (lx_w 256 0 t q k) ∧ m = lN (lx_w 32 96 t q k)
theorem NM_iff {x m x' m' : Int64} (h : NM x m) (h' : NM x' m') : x = x' ↔ m = m' := by
  obtain ⟨t, q, k, k1, k2, hl, rfl, rfl⟩ := h
  obtain ⟨t', q', k', k1', k2', hl', rfl, rfl⟩ := h'
  have p1 : ∀ k, k ≤ 8 → 256 ^ k ≤ 2 ^ 64 := by decide
  have p2 : ∀ k, k ≤ 8 → 32 ^ k ≤ 2 ^ 64 := by decide
  have a1 := lx_w_lt (B := 256) (o := 0) (t := t) (q := q) (by decide) k (fun i hi => by have := isL_of (hl i hi); omega)
  have a2 := lx_w_lt (B := 256) (o := 0) (t := t') (q := q') (by decide) k' (fun i hi => by have := isL_of (hl' i hi); omega)
  have b1 := lx_w_lt (B := 32) (o := 96) (t := t) (q := q) (by decide) k (fun i hi => by have := isL_of (hl i hi); omega)
  have b2 := lx_w_lt (B := 32) (o := 96) (t := t') (q := q') (by decide) k' (fun i hi => by have := isL_of (hl' i hi); omega)
  rw [lN_inj64 (Nat.lt_of_lt_of_le a1 (p1 k k2)) (Nat.lt_of_lt_of_le a2 (p1 k' k2')), lN_inj64 (Nat.lt_of_lt_of_le b1 (p2 k k2)) (Nat.lt_of_lt_of_le b2 (p2 k' k2'))]
  constructor
  · intro e
    obtain ⟨e1, e2⟩ := lx_inj (by decide) k k' (fun i hi => by have := isL_of (hl i hi); omega) (fun i hi => by have := isL_of (hl' i hi); omega) e
    subst e1
    exact lx_w_congr k (fun i hi => by have := e2 i hi; omega)
  · intro e
    obtain ⟨e1, e2⟩ := lx_inj (by decide) k k' (fun i hi => by have := isL_of (hl i hi); omega) (fun i hi => by have := isL_of (hl' i hi); omega) e
    subst e1
    exact lx_w_congr k (fun i hi => by have := e2 i hi; have := isL_of (hl i hi); have := isL_of (hl' i hi); omega)
/-! words -/
def txN (j : Nat) : Nat := (am_txb.getD j 0).toNatClampNeg
def wl (w : Nat) : Nat := [2, 3, 3, 5, 4, 5, 2, 4, 4, 4, 3, 4].getD w 0
theorem wl_1 : ∀ w, w < 12 → 2 ≤ wl w ∧ wl w ≤ 5 ∧ am_wdl.getD w 0 = lN (lx_w 256 0 (fun j => txN (6 * w + j)) 0 (wl w)) := by decide +kernel
theorem wl_2 : ∀ w, w < 12 → ∀ j, j < 6 → (j < wl w → isL (txN (6 * w + j)) = true) ∧ (wl w ≤ j → txN (6 * w + j) = 32) := by decide +kernel
theorem txb_N : ∀ j, j < 72 → am_txb.getD j 0 = nI (txN j) ∧ txN j < 256 := by decide +kernel
/-- does the word w stand at q, k letters long -/
def mta (t : Nat → Nat) (q k w : Nat) : Nat → Nat → Bool
  | _, 0 => true
  | j, r + 1 => decide ((if j < k then t (q + j) else 32) = txN (6 * w + j)) && mta t q k w (j + 1) r
theorem mta_iff {t : Nat → Nat} {q k w : Nat} : ∀ r j, mta t q k w j r = true ↔ ∀ i, j ≤ i → i < j + r → (if i < k then t (q + i) else 32) = txN (6 * w + i) := by
  intro r
  induction r with
  | zero => intro j; exact ⟨fun _ i h1 h2 => by omega, fun _ => rfl⟩
  | succ r ih =>
    intro j
    show (decide _ && mta t q k w (j + 1) r) = true ↔ _
    rw [Bool.and_eq_true, decide_eq_true_eq, ih]
    constructor
    · rintro ⟨h1, h2⟩ i h3 h4
      rcases Nat.eq_or_lt_of_le h3 with e | e
      · exact e ▸ h1
      · exact h2 i e (by omega)
    · intro hh
      exact ⟨hh j (Nat.le_refl _) (by omega), fun i h1 h2 => hh i (by omega) (by omega)⟩
def mtc (t : Nat → Nat) (q k w : Nat) : Bool := mta t q k w 0 6 && decide (k ≤ 6)
theorem mtc_iff {t : Nat → Nat} {q k w : Nat} (hk : k ≤ 8) (hl : ∀ i, i < k → isL (t (q + i)) = true) (hw : w < 12) : mtc t q k w = decide (am_wdl.getD w 0 = lN (lx_w 256 0 t q k)) := by
  obtain ⟨w1, w2, w3⟩ := wl_1 w hw
  have w4 := wl_2 w hw
  have p1 : ∀ k, k ≤ 8 → 256 ^ k ≤ 2 ^ 64 := by decide
  have a1 := lx_w_lt (B := 256) (o := 0) (t := t) (q := q) (by decide) k (fun i hi => by have := isL_of (hl i hi); omega)
  have hw' : ∀ i, i < wl w → 97 ≤ txN (6 * w + (0 + i)) ∧ txN (6 * w + (0 + i)) ≤ 122 := fun i hi => by rw [Nat.zero_add]; exact isL_of ((w4 i (by omega)).1 hi)
  have a2 := lx_w_lt (B := 256) (o := 0) (t := fun j => txN (6 * w + j)) (q := 0) (by decide) (wl w) (fun i hi => by have := hw' i hi; omega)
  rw [w3, Bool.eq_iff_iff, decide_eq_true_eq, lN_inj64 (Nat.lt_of_lt_of_le a2 (p1 _ (by omega))) (Nat.lt_of_lt_of_le a1 (p1 k hk))]
  unfold mtc
  rw [Bool.and_eq_true, decide_eq_true_eq, mta_iff]
  constructor
  · rintro ⟨h1, h2⟩
    have ek : k = wl w := by
      rcases Nat.lt_trichotomy k (wl w) with c | c | c
      · have := h1 k (by omega) (by omega)
        rw [if_neg (Nat.lt_irrefl _)] at this
        have := hw' k c
        rw [Nat.zero_add] at this
        omega
      · exact c
      · have := h1 (wl w) (by omega) (by omega)
        rw [if_pos c, (w4 (wl w) (by omega)).2 (Nat.le_refl _)] at this
        have := isL_of (hl _ c)
        omega
    subst ek
    refine lx_w_congr _ (fun i hi => ?_)
    have := h1 i (by omega) (by omega)
    rw [if_pos hi] at this
    rw [Nat.zero_add]; exact this.symm
  · intro e
    obtain ⟨e1, e2⟩ := lx_inj (by decide) (wl w) k (fun i hi => by have := hw' i hi; omega) (fun i hi => by have := isL_of (hl i hi); omega) e
    subst e1
    refine ⟨fun i _ hi => ?_, by omega⟩
    by_cases c : i < wl w
    · rw [if_pos c]
      have := e2 i c
      rw [Nat.zero_add] at this
      omega
    · rw [if_neg c, (w4 i (by omega)).2 (by omega)]
theorem scan_congr {P P' : Nat → Bool} {n : Nat} (hP : ∀ i, i < n → P i = P' i) : ∀ m p, n - p = m → am_scan P n p = am_scan P' n p := by
  intro m
  induction m with
  | zero => intro p hp; rw [scan_stop (fun q => by omega), scan_stop (fun q => by omega)]
  | succ m ih =>
    intro p hp
    cases h0 : P p with
    | true => rw [scan_step (by omega) h0, scan_step (P := P') (by omega) (by rw [← hP p (by omega)]; exact h0), ih (p + 1) (by omega)]
    | false => rw [scan_stop (fun q => by rw [h0] at q; exact absurd q.2 (by decide)), scan_stop (P := P') (fun q => by rw [← hP p (by omega), h0] at q; exact absurd q.2 (by decide))]
section WRD
variable {d : Nat} {h g g' : am_H} {Q : Option Value → am_H → Prop} {v0 v1 v2 v3 v4 v5 : Option Value} {t : Nat → Nat} {n : Nat} {md : Nat ⊕ (Nat × Nat)} {k o wn wp : Int32} {m m' : Nat}
theorem txb_c : ∀ j, j < 72 → ((am_txb.getD j 0 &&& nI 255).toUInt32 % 65536).toInt32 = am_txb.getD j 0 ∧ narrow .char (.int (am_txb.getD j 0)) = .int (am_txb.getD j 0) := by decide +kernel
theorem m_charAt (S : am_S h) (G : am_Gv h) {j : Nat} (hj : j < 72) : am_J (d + 4) 279 0 [some (.ref 2), some (.int (nI j))] [] h Q ↔ Q (some (.int (nI (txN j)))) h := by
  obtain ⟨a1, a2, a3, a4, a5, a6, a7⟩ := G
  have O2 : am_ob h 2 14 := ⟨am_S_lt S (by decide), by rw [a3]⟩
  have L3 : 3 < h.1 := am_S_lt S (by decide)
  have A3 : 100 ≤ (am_tg h 3).1 := by rw [a6]; decide
  have X3 : am_ax h 3 113 j := ⟨L3, by rw [a6], by rw [a6]; exact hj, by omega⟩
  have hlt : nI j < nI 72 := nI_lt hj (by decide)
  have h0 : ¬ nI j < 0 := nI_pos (by omega)
  obtain ⟨c1, c2⟩ := txb_c j hj
  have V := a7 j hj
  simp (disch := first | with_reducible assumption | omega | exact Or.inl rfl | exact Or.inr rfl | exact bI_01 | exact c_cat | exact vt_ref | exact vt_null | rfl | with_reducible repeat (first | assumption | omega | apply S_I | apply S_L | apply S_D | apply ob_I | apply ob_L | apply ob_D | apply ob_R | apply ax_I | apply ax_L | apply ax_D | apply ax_R | apply o303 | apply o307 | apply o302 | apply o301 | apply ax304 | apply ax305 | apply ax306 | apply ax308 | apply ax309 | apply ax310 | apply lt_S | apply ar305 | apply ar308 | apply ar309)) only [g279_0, g279_1, g279_4, g279_7, g279_8, g279_11, g279_12, g279_15, g279_16, g279_17, g279_20, g280_0, g280_3, g280_6, g280_7, g280_10, g280_13, g280_14, g280_17, g280_18, g281_0, g281_1, g281_2, g281_3, g281_6, g281_7, g281_8, g281_9, g281_12, g281_13, g281_14, a4, a5, a6, Option.toList, List.nil_append, List.cons_append, va_rf, V, c1, ↓reduceIte, show ¬ ((1 : Int32) = 0) by decide, nI_e0, Nat.reduceEqDiff]
  rw [(txb_N j hj).1]
theorem m_wInner {q e w : Nat} (S : am_S h) (G : am_Gv h) (T : mT h t n) (E1 : am_I h 349 17 = nI e) (E2 : am_I h 349 19 = nI q) (hq : q ≤ e) (he : e ≤ n) (hw : w < 12) : ∀ r j b, j + r = 6 → ∃ j', ∀ Q, (am_J (d + 5) 202 22 [some (.ref 349), some (.int (nI w)), some (.int (bI b)), some (.int (nI j))] [] h Q ↔ am_J (d + 5) 202 87 [some (.ref 349), some (.int (nI w)), some (.int (bI (b && mta t q (e - q) w j r))), some (.int (nI j'))] [] h Q) := by
  have h240 := T.2.1
  have O2 : am_ob h 2 14 := ⟨am_S_lt S (by decide), by rw [G.2.2.1]⟩
  intro r
  induction r with
  | zero =>
    intro j b hj
    obtain rfl : j = 6 := by omega
    refine ⟨6, fun Q => ?_⟩
    rw [g202_22]
    simp (disch := first | with_reducible assumption | omega | exact Or.inl rfl | exact Or.inr rfl | exact bI_01 | exact c_cat | exact vt_ref | exact vt_null | rfl | with_reducible repeat (first | assumption | omega | apply S_I | apply S_L | apply S_D | apply ob_I | apply ob_L | apply ob_D | apply ob_R | apply ax_I | apply ax_L | apply ax_D | apply ax_R | apply o303 | apply o307 | apply o302 | apply o301 | apply ax304 | apply ax305 | apply ax306 | apply ax308 | apply ax309 | apply ax310 | apply lt_S | apply ar305 | apply ar308 | apply ar309)) only [g202_23, g202_25, nI_ltI, nI_leI, nI_eq, nI_add, nI_sub, nI_lt0, nI_e0, nI_m1, m1_nI, Nat.reduceEqDiff, Nat.reduceLT, Nat.reduceLeDiff, Nat.reduceAdd, Nat.reduceSub, Nat.reduceMul, ↓reduceIte, eq_self, mta, Bool.and_true, Nat.le_refl]
  | succ r ih =>
    intro j b hj
    cases b with
    | false =>
      refine ⟨j, fun Q => ?_⟩
      rw [g202_22]
      simp (disch := first | with_reducible assumption | omega | exact Or.inl rfl | exact Or.inr rfl | exact bI_01 | exact c_cat | exact vt_ref | exact vt_null | rfl | with_reducible repeat (first | assumption | omega | apply S_I | apply S_L | apply S_D | apply ob_I | apply ob_L | apply ob_D | apply ob_R | apply ax_I | apply ax_L | apply ax_D | apply ax_R | apply o303 | apply o307 | apply o302 | apply o301 | apply ax304 | apply ax305 | apply ax306 | apply ax308 | apply ax309 | apply ax310 | apply lt_S | apply ar305 | apply ar308 | apply ar309)) only [g202_23, g202_25, g202_28, g202_29, nI_ltI, nI_leI, nI_eq, nI_add, nI_sub, nI_lt0, nI_e0, nI_m1, m1_nI, Nat.reduceEqDiff, Nat.reduceLT, Nat.reduceLeDiff, Nat.reduceAdd, Nat.reduceSub, Nat.reduceMul, ↓reduceIte, eq_self, bI_f, Bool.false_and, show ¬ 6 ≤ j by omega]
    | true =>
      obtain ⟨j', W⟩ := ih (j + 1) (decide ((if j < e - q then t (q + j) else 32) = txN (6 * w + j))) (by omega)
      refine ⟨j', fun Q => ?_⟩
      have hx := txb_N (6 * w + j) (by omega)
      rw [g202_22, Bool.true_and]
      show _ ↔ am_J (d + 5) 202 87 [some (.ref 349), some (.int (nI w)), some (.int (bI (_ && mta t q (e - q) w (j + 1) r))), _] [] h Q
      rw [← W]
      by_cases c : q + j < e
      · obtain ⟨t1, t2, t3⟩ := T.2.2 (q + j) (by omega)
        by_cases c2 : t (q + j) = txN (6 * w + j)
        · simp (disch := first | with_reducible assumption | omega | exact Or.inl rfl | exact Or.inr rfl | exact bI_01 | exact c_cat | exact vt_ref | exact vt_null | rfl | with_reducible repeat (first | assumption | omega | apply S_I | apply S_L | apply S_D | apply ob_I | apply ob_L | apply ob_D | apply ob_R | apply ax_I | apply ax_L | apply ax_D | apply ax_R | apply o303 | apply o307 | apply o302 | apply o301 | apply ax304 | apply ax305 | apply ax306 | apply ax308 | apply ax309 | apply ax310 | apply lt_S | apply ar305 | apply ar308 | apply ar309)) only [g202_23, g202_25, g202_28, g202_29, g202_32, g202_33, g202_36, g202_37, g202_38, g202_39, g202_42, g202_45, g202_46, g202_49, g202_50, g202_53, g202_54, g202_55, g202_56, g202_59, g202_61, g202_63, g202_65, g202_66, g202_67, g202_68, g202_69, g202_72, g202_75, g202_76, g202_79, g202_80, g202_81, g202_84, Option.toList, List.nil_append, List.cons_append, va_rf, nI_ltI, nI_leI, nI_eq, nI_add, nI_sub, nI_lt0, nI_e0, nI_m1, m1_nI, Nat.reduceEqDiff, Nat.reduceLT, Nat.reduceLeDiff, Nat.reduceAdd, Nat.reduceSub, Nat.reduceMul, ↓reduceIte, eq_self, bI_t, show ¬ 6 ≤ j by omega, E1, E2, show ¬ e ≤ q + j by omega, t3, m_charAt, nI_mul, show j < e - q by omega, c2, decide_true]
        · simp (disch := first | with_reducible assumption | omega | exact Or.inl rfl | exact Or.inr rfl | exact bI_01 | exact c_cat | exact vt_ref | exact vt_null | rfl | with_reducible repeat (first | assumption | omega | apply S_I | apply S_L | apply S_D | apply ob_I | apply ob_L | apply ob_D | apply ob_R | apply ax_I | apply ax_L | apply ax_D | apply ax_R | apply o303 | apply o307 | apply o302 | apply o301 | apply ax304 | apply ax305 | apply ax306 | apply ax308 | apply ax309 | apply ax310 | apply lt_S | apply ar305 | apply ar308 | apply ar309)) only [g202_23, g202_25, g202_28, g202_29, g202_32, g202_33, g202_36, g202_37, g202_38, g202_39, g202_42, g202_45, g202_46, g202_49, g202_50, g202_53, g202_54, g202_55, g202_56, g202_59, g202_61, g202_63, g202_65, g202_66, g202_67, g202_68, g202_69, g202_72, g202_75, g202_76, g202_79, g202_80, g202_81, g202_84, Option.toList, List.nil_append, List.cons_append, va_rf, nI_ltI, nI_leI, nI_eq, nI_add, nI_sub, nI_lt0, nI_e0, nI_m1, m1_nI, Nat.reduceEqDiff, Nat.reduceLT, Nat.reduceLeDiff, Nat.reduceAdd, Nat.reduceSub, Nat.reduceMul, ↓reduceIte, eq_self, bI_t, show ¬ 6 ≤ j by omega, E1, E2, show ¬ e ≤ q + j by omega, t3, m_charAt, nI_mul, show j < e - q by omega, c2, decide_false, bI_f]
      · by_cases c2 : 32 = txN (6 * w + j)
        · simp (disch := first | with_reducible assumption | omega | exact Or.inl rfl | exact Or.inr rfl | exact bI_01 | exact c_cat | exact vt_ref | exact vt_null | rfl | with_reducible repeat (first | assumption | omega | apply S_I | apply S_L | apply S_D | apply ob_I | apply ob_L | apply ob_D | apply ob_R | apply ax_I | apply ax_L | apply ax_D | apply ax_R | apply o303 | apply o307 | apply o302 | apply o301 | apply ax304 | apply ax305 | apply ax306 | apply ax308 | apply ax309 | apply ax310 | apply lt_S | apply ar305 | apply ar308 | apply ar309)) only [g202_23, g202_25, g202_28, g202_29, g202_32, g202_33, g202_36, g202_37, g202_38, g202_39, g202_42, g202_45, g202_46, g202_49, g202_50, g202_53, g202_54, g202_55, g202_56, g202_59, g202_61, g202_63, g202_65, g202_66, g202_67, g202_68, g202_69, g202_72, g202_75, g202_76, g202_79, g202_80, g202_81, g202_84, Option.toList, List.nil_append, List.cons_append, va_rf, nI_ltI, nI_leI, nI_eq, nI_add, nI_sub, nI_lt0, nI_e0, nI_m1, m1_nI, Nat.reduceEqDiff, Nat.reduceLT, Nat.reduceLeDiff, Nat.reduceAdd, Nat.reduceSub, Nat.reduceMul, ↓reduceIte, eq_self, bI_t, show ¬ 6 ≤ j by omega, E1, E2, show e ≤ q + j by omega, m_charAt, nI_mul, show ¬ j < e - q by omega, ← c2, decide_true]
        · simp (disch := first | with_reducible assumption | omega | exact Or.inl rfl | exact Or.inr rfl | exact bI_01 | exact c_cat | exact vt_ref | exact vt_null | rfl | with_reducible repeat (first | assumption | omega | apply S_I | apply S_L | apply S_D | apply ob_I | apply ob_L | apply ob_D | apply ob_R | apply ax_I | apply ax_L | apply ax_D | apply ax_R | apply o303 | apply o307 | apply o302 | apply o301 | apply ax304 | apply ax305 | apply ax306 | apply ax308 | apply ax309 | apply ax310 | apply lt_S | apply ar305 | apply ar308 | apply ar309)) only [g202_23, g202_25, g202_28, g202_29, g202_32, g202_33, g202_36, g202_37, g202_38, g202_39, g202_42, g202_45, g202_46, g202_49, g202_50, g202_53, g202_54, g202_55, g202_56, g202_59, g202_61, g202_63, g202_65, g202_66, g202_67, g202_68, g202_69, g202_72, g202_75, g202_76, g202_79, g202_80, g202_81, g202_84, Option.toList, List.nil_append, List.cons_append, va_rf, nI_ltI, nI_leI, nI_eq, nI_add, nI_sub, nI_lt0, nI_e0, nI_m1, m1_nI, Nat.reduceEqDiff, Nat.reduceLT, Nat.reduceLeDiff, Nat.reduceAdd, Nat.reduceSub, Nat.reduceMul, ↓reduceIte, eq_self, bI_t, show ¬ 6 ≤ j by omega, E1, E2, show e ≤ q + j by omega, m_charAt, nI_mul, show ¬ j < e - q by omega, c2, decide_false, bI_f]
theorem m_wOuter {q e : Nat} (S : am_S h) (G : am_Gv h) (T : mT h t n) (E1 : am_I h 349 17 = nI e) (E2 : am_I h 349 19 = nI q) (hq : q ≤ e) (he : e ≤ n) : ∀ r w, 12 - w = r → w ≤ 12 → ∀ a b : Option Value, (am_J (d + 5) 202 12 [some (.ref 349), some (.int (nI w)), a, b] [] h Q ↔ Q (some (.int (xI 12 (am_scan (fun w => !mtc t q (e - q) w) 12 w)))) h) := by
  have h240 := T.2.1
  intro r
  induction r with
  | zero =>
    intro w hr hw a b
    obtain rfl : w = 12 := by omega
    rw [scan_stop (fun q => absurd q.1 (by decide)), g202_12]
    simp (disch := first | with_reducible assumption | omega | exact Or.inl rfl | exact Or.inr rfl | exact bI_01 | exact c_cat | exact vt_ref | exact vt_null | rfl | with_reducible repeat (first | assumption | omega | apply S_I | apply S_L | apply S_D | apply ob_I | apply ob_L | apply ob_D | apply ob_R | apply ax_I | apply ax_L | apply ax_D | apply ax_R | apply o303 | apply o307 | apply o302 | apply o301 | apply ax304 | apply ax305 | apply ax306 | apply ax308 | apply ax309 | apply ax310 | apply lt_S | apply ar305 | apply ar308 | apply ar309)) only [g202_13, g202_15, g202_113, g202_114, nI_ltI, nI_leI, nI_eq, nI_add, nI_sub, nI_lt0, nI_e0, nI_m1, m1_nI, Nat.reduceEqDiff, Nat.reduceLT, Nat.reduceLeDiff, Nat.reduceAdd, Nat.reduceSub, Nat.reduceMul, ↓reduceIte, eq_self, xI, Nat.le_refl, Nat.lt_irrefl]
  | succ r ih =>
    intro w hr hw a b
    obtain ⟨j', W⟩ := m_wInner (d := d) S G T E1 E2 hq he (show w < 12 by omega) 6 0 true rfl
    have W0 : am_J (d + 5) 202 12 [some (.ref 349), some (.int (nI w)), a, b] [] h Q ↔ am_J (d + 5) 202 22 [some (.ref 349), some (.int (nI w)), some (.int (bI true)), some (.int (nI 0))] [] h Q := by
      rw [g202_12]
      simp (disch := first | with_reducible assumption | omega | exact Or.inl rfl | exact Or.inr rfl | exact bI_01 | exact c_cat | exact vt_ref | exact vt_null | rfl | with_reducible repeat (first | assumption | omega | apply S_I | apply S_L | apply S_D | apply ob_I | apply ob_L | apply ob_D | apply ob_R | apply ax_I | apply ax_L | apply ax_D | apply ax_R | apply o303 | apply o307 | apply o302 | apply o301 | apply ax304 | apply ax305 | apply ax306 | apply ax308 | apply ax309 | apply ax310 | apply lt_S | apply ar305 | apply ar308 | apply ar309)) only [g202_13, g202_15, g202_18, g202_19, g202_20, g202_21, nI_ltI, nI_leI, nI_eq, nI_add, nI_sub, nI_lt0, nI_e0, nI_m1, m1_nI, Nat.reduceEqDiff, Nat.reduceLT, Nat.reduceLeDiff, Nat.reduceAdd, Nat.reduceSub, Nat.reduceMul, ↓reduceIte, eq_self, show ¬ 12 ≤ w by omega, bI_t]
    rw [W0, W, Bool.true_and]
    cases c1 : mta t q (e - q) w 0 6 with
    | false =>
      rw [scan_step (show w < 12 by omega) (by simp [mtc, c1]), ← ih (w + 1) (by omega) (by omega) (some (.int (bI false))) (some (.int (nI j')))]
      simp (disch := first | with_reducible assumption | omega | exact Or.inl rfl | exact Or.inr rfl | exact bI_01 | exact c_cat | exact vt_ref | exact vt_null | rfl | with_reducible repeat (first | assumption | omega | apply S_I | apply S_L | apply S_D | apply ob_I | apply ob_L | apply ob_D | apply ob_R | apply ax_I | apply ax_L | apply ax_D | apply ax_R | apply o303 | apply o307 | apply o302 | apply o301 | apply ax304 | apply ax305 | apply ax306 | apply ax308 | apply ax309 | apply ax310 | apply lt_S | apply ar305 | apply ar308 | apply ar309)) only [g202_87, g202_88, g202_91, g202_92, g202_95, g202_96, g202_99, g202_100, g202_102, g202_105, g202_106, g202_107, g202_110, nI_ltI, nI_leI, nI_eq, nI_add, nI_sub, nI_lt0, nI_e0, nI_m1, m1_nI, Nat.reduceEqDiff, Nat.reduceLT, Nat.reduceLeDiff, Nat.reduceAdd, Nat.reduceSub, Nat.reduceMul, ↓reduceIte, eq_self, bI_f]
    | true =>
      by_cases c2 : e - q ≤ 6
      · rw [scan_stop (fun x => by simp [mtc, c1, c2] at x)]
        simp (disch := first | with_reducible assumption | omega | exact Or.inl rfl | exact Or.inr rfl | exact bI_01 | exact c_cat | exact vt_ref | exact vt_null | rfl | with_reducible repeat (first | assumption | omega | apply S_I | apply S_L | apply S_D | apply ob_I | apply ob_L | apply ob_D | apply ob_R | apply ax_I | apply ax_L | apply ax_D | apply ax_R | apply o303 | apply o307 | apply o302 | apply o301 | apply ax304 | apply ax305 | apply ax306 | apply ax308 | apply ax309 | apply ax310 | apply lt_S | apply ar305 | apply ar308 | apply ar309)) only [g202_87, g202_88, g202_91, g202_92, g202_95, g202_96, g202_99, g202_100, g202_102, g202_105, g202_106, g202_107, g202_110, nI_ltI, nI_leI, nI_eq, nI_add, nI_sub, nI_lt0, nI_e0, nI_m1, m1_nI, Nat.reduceEqDiff, Nat.reduceLT, Nat.reduceLeDiff, Nat.reduceAdd, Nat.reduceSub, Nat.reduceMul, ↓reduceIte, eq_self, bI_t, E1, E2, show ¬ 6 < e - q by omega, xI, show w < 12 by omega]
      · rw [scan_step (show w < 12 by omega) (by simp [mtc, c2]), ← ih (w + 1) (by omega) (by omega) (some (.int (bI true))) (some (.int (nI j')))]
        simp (disch := first | with_reducible assumption | omega | exact Or.inl rfl | exact Or.inr rfl | exact bI_01 | exact c_cat | exact vt_ref | exact vt_null | rfl | with_reducible repeat (first | assumption | omega | apply S_I | apply S_L | apply S_D | apply ob_I | apply ob_L | apply ob_D | apply ob_R | apply ax_I | apply ax_L | apply ax_D | apply ax_R | apply o303 | apply o307 | apply o302 | apply o301 | apply ax304 | apply ax305 | apply ax306 | apply ax308 | apply ax309 | apply ax310 | apply lt_S | apply ar305 | apply ar308 | apply ar309)) only [g202_87, g202_88, g202_91, g202_92, g202_95, g202_96, g202_99, g202_100, g202_102, g202_105, g202_106, g202_107, g202_110, nI_ltI, nI_leI, nI_eq, nI_add, nI_sub, nI_lt0, nI_e0, nI_m1, m1_nI, Nat.reduceEqDiff, Nat.reduceLT, Nat.reduceLeDiff, Nat.reduceAdd, Nat.reduceSub, Nat.reduceMul, ↓reduceIte, eq_self, bI_t, E1, E2, show 6 < e - q by omega]
/-- what a name token is made of -/
theorem lx_name {q : Nat} (hK : lx_K t n q = 258) : q < n ∧ q < lx_E t n q ∧ lx_E t n q ≤ n ∧ lx_E t n q - q ≤ 8 ∧ ∀ j, q ≤ j → j < lx_E t n q → isL (t j) = true := by
  have h0 : ¬ n ≤ q := fun c => by unfold lx_K at hK; rw [if_pos c] at hK; omega
  have h1 : isL (t q) = true := by
    cases h1 : isL (t q) with
    | true => rfl
    | false =>
      exfalso
      unfold lx_K at hK
      simp only [h0, h1, ↓reduceIte, Bool.false_eq_true] at hK
      revert hK
      repeat' split
      all_goals first | omega | skip
      intro e
      rename_i h5
      have hm : t q ∈ [37, 40, 41, 42, 43, 44, 45, 47, 58, 60, 61] := of_decide_eq_true h5
      simp only [List.mem_cons, List.not_mem_nil, or_false] at hm
      omega
  have hE : lx_E t n q = lx_L t n q := by simp only [lx_E, h0, h1, ↓reduceIte]
  have h8 : ¬ 8 < lx_L t n q - q := fun c => by unfold lx_K at hK; rw [if_neg h0, if_pos h1, if_pos c] at hK; omega
  rw [hE]
  have s1 : lx_L t n q = lx_L t n (q + 1) := scan_step (by omega) h1
  have s2 : q + 1 ≤ lx_L t n (q + 1) := scan_ge
  exact ⟨by omega, by omega, scan_le (by omega), by omega, fun j h2 h3 => (scan_in h2 h3).2⟩
theorem lx_NM {q : Nat} (hK : lx_K t n q = 258) : NM (lN (lx_w 256 0 t q (lx_E t n q - q))) (lN (lx_w 32 96 t q (lx_E t n q - q))) := by
  obtain ⟨a1, a2, a3, a4, a5⟩ := lx_name hK
  exact ⟨t, q, lx_E t n q - q, by omega, a4, fun i hi => a5 _ (by omega) (by omega), rfl, rfl⟩
/-- the word that stands at q, by the class's row of words; 12: none -/
def lx_wd (t : Nat → Nat) (n q : Nat) : Nat := xwd (lN (lx_w 256 0 t q (lx_E t n q - q)))
theorem m_wordHere {q : Nat} (X : MX h t n (.inl q) k o m wn wp) (hK : lx_K t n q = 258) : am_J (d + 5) 202 0 [some (.ref 349), v1, v2, v3] [] h Q ↔ Q (some (.int (xI 12 (lx_wd t n q)))) h := by
  obtain ⟨S, G, T, ⟨⟨l1, l2, l3, l4⟩, lk, lq, f22, f4⟩, -⟩ := id X
  obtain ⟨a1, a2, a3, a4, a5⟩ := lx_name hK
  have e : am_scan (fun w => !mtc t q (lx_E t n q - q) w) 12 0 = lx_wd t n q := by
    unfold lx_wd xwd fdI
    exact scan_congr (fun i hi => by rw [mtc_iff a4 (fun j hj => a5 _ (by omega) (by omega)) hi]) 12 0 rfl
  have := m_wOuter (d := d) (Q := Q) S G T l1 l3 (Nat.le_of_lt a2) a3 12 0 rfl (by decide) v2 v3
  rw [e] at this
  rw [← this]
  rw [hK] at l2
  simp (disch := first | with_reducible assumption | omega | exact Or.inl rfl | exact Or.inr rfl | exact bI_01 | exact c_cat | exact vt_ref | exact vt_null | rfl | with_reducible repeat (first | assumption | omega | apply S_I | apply S_L | apply S_D | apply ob_I | apply ob_L | apply ob_D | apply ob_R | apply ax_I | apply ax_L | apply ax_D | apply ax_R | apply o303 | apply o307 | apply o302 | apply o301 | apply ax304 | apply ax305 | apply ax306 | apply ax308 | apply ax309 | apply ax310 | apply lt_S | apply ar305 | apply ar308 | apply ar309)) only [g202_0, g202_1, g202_4, g202_5, g202_8, g202_9, g202_10, g202_11, l2, mtok, nI_ltI, nI_leI, nI_eq, nI_add, nI_sub, nI_lt0, nI_e0, nI_m1, m1_nI, Nat.reduceEqDiff, Nat.reduceLT, Nat.reduceLeDiff, Nat.reduceAdd, Nat.reduceSub, Nat.reduceMul, ↓reduceIte, eq_self]
theorem m_isName {q : Nat} (X : MX h t n (.inl q) k o m wn wp) : am_J (d + 6) 201 0 [some (.ref 349)] [] h Q ↔ Q (some (.int (bI (decide (lx_K t n q = 258 ∧ lx_wd t n q = 12))))) h := by
  obtain ⟨S, G, T, ⟨⟨l1, l2, l3, l4⟩, lk, lq, f22, f4⟩, -⟩ := id X
  by_cases hK : lx_K t n q = 258
  · have l2' := l2
    rw [hK] at l2'
    have hw : lx_wd t n q ≤ 12 := scan_le (by decide)
    by_cases c : lx_wd t n q = 12
    · rw [show decide (lx_K t n q = 258 ∧ lx_wd t n q = 12) = true from decide_eq_true ⟨hK, c⟩]
      simp (disch := first | with_reducible assumption | omega | exact Or.inl rfl | exact Or.inr rfl | exact bI_01 | exact c_cat | exact vt_ref | exact vt_null | rfl | with_reducible repeat (first | assumption | omega | apply S_I | apply S_L | apply S_D | apply ob_I | apply ob_L | apply ob_D | apply ob_R | apply ax_I | apply ax_L | apply ax_D | apply ax_R | apply o303 | apply o307 | apply o302 | apply o301 | apply ax304 | apply ax305 | apply ax306 | apply ax308 | apply ax309 | apply ax310 | apply lt_S | apply ar305 | apply ar308 | apply ar309)) only [g201_0, g201_1, g201_4, g201_5, g201_8, g201_9, g201_12, g201_13, g201_16, g201_17, g201_20, g201_21, l2', mtok, nI_ltI, nI_leI, nI_eq, nI_add, nI_sub, nI_lt0, nI_e0, nI_m1, m1_nI, Nat.reduceEqDiff, Nat.reduceLT, Nat.reduceLeDiff, Nat.reduceAdd, Nat.reduceSub, Nat.reduceMul, ↓reduceIte, eq_self, Option.toList, List.nil_append, List.cons_append, va_rf, m_wordHere X hK, c, xI, Nat.lt_irrefl, bI_t]
    · rw [show decide (lx_K t n q = 258 ∧ lx_wd t n q = 12) = false from decide_eq_false (fun x => c x.2)]
      simp (disch := first | with_reducible assumption | omega | exact Or.inl rfl | exact Or.inr rfl | exact bI_01 | exact c_cat | exact vt_ref | exact vt_null | rfl | with_reducible repeat (first | assumption | omega | apply S_I | apply S_L | apply S_D | apply ob_I | apply ob_L | apply ob_D | apply ob_R | apply ax_I | apply ax_L | apply ax_D | apply ax_R | apply o303 | apply o307 | apply o302 | apply o301 | apply ax304 | apply ax305 | apply ax306 | apply ax308 | apply ax309 | apply ax310 | apply lt_S | apply ar305 | apply ar308 | apply ar309)) only [g201_0, g201_1, g201_4, g201_5, g201_8, g201_9, g201_12, g201_13, g201_16, g201_17, g201_20, g201_21, l2', mtok, nI_ltI, nI_leI, nI_eq, nI_add, nI_sub, nI_lt0, nI_e0, nI_m1, m1_nI, Nat.reduceEqDiff, Nat.reduceLT, Nat.reduceLeDiff, Nat.reduceAdd, Nat.reduceSub, Nat.reduceMul, ↓reduceIte, eq_self, Option.toList, List.nil_append, List.cons_append, va_rf, m_wordHere X hK, xI, show lx_wd t n q < 12 by omega, bI_f]
  · rw [show decide (lx_K t n q = 258 ∧ lx_wd t n q = 12) = false from decide_eq_false (fun x => hK x.1)]
    have hm : mtok (lx_K t n q) ≠ 1 := by
      have : ∀ K, K ∈ [37, 40, 41, 42, 43, 44, 45, 47, 58, 60, 61, 256, 257, 258, 259, 260, 261, 262, 263] → K ≠ 258 → mtok K ≠ 1 := by decide +kernel
      exact this _ (lx_K_mem t n q) hK
    have hm2 : mtok (lx_K t n q) ≤ 5 := by unfold mtok; repeat' split
                                           all_goals omega
    simp (disch := first | with_reducible assumption | omega | exact Or.inl rfl | exact Or.inr rfl | exact bI_01 | exact c_cat | exact vt_ref | exact vt_null | rfl | with_reducible repeat (first | assumption | omega | apply S_I | apply S_L | apply S_D | apply ob_I | apply ob_L | apply ob_D | apply ob_R | apply ax_I | apply ax_L | apply ax_D | apply ax_R | apply o303 | apply o307 | apply o302 | apply o301 | apply ax304 | apply ax305 | apply ax306 | apply ax308 | apply ax309 | apply ax310 | apply lt_S | apply ar305 | apply ar308 | apply ar309)) only [g201_0, g201_1, g201_4, g201_5, g201_8, g201_9, g201_12, g201_13, g201_16, g201_17, g201_20, g201_21, l2, nI_ltI, nI_leI, nI_eq, nI_add, nI_sub, nI_lt0, nI_e0, nI_m1, m1_nI, Nat.reduceEqDiff, Nat.reduceLT, Nat.reduceLeDiff, Nat.reduceAdd, Nat.reduceSub, Nat.reduceMul, ↓reduceIte, eq_self, hm, bI_f]
end WRD

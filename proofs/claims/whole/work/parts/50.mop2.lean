/-! THE MODEL'S PARSER: parts, nodes, words, names -/
def tb (h : am_H) (b n : Nat) : Int32 × Int32 × Int32 × Int32 × Int64 := (am_I h 352 (b + n), am_I h 353 (b + n), am_I h 354 (b + n), am_I h 355 (b + n), am_L h 357 (b + n))
theorem lx_ref {t : Nat → Nat} {n q : Nat} (hK : lx_K t n q = 259) : (65 ≤ t q ∧ t q ≤ 68) ∧ q + 2 < n ∧ 97 ≤ t (q + 1) ∧ t (q + 1) ≤ 104 ∧ 48 ≤ t (q + 2) ∧ t (q + 2) ≤ 55 := by
  unfold lx_K at hK
  by_cases h0 : n ≤ q
  · rw [if_pos h0] at hK; omega
  · rw [if_neg h0] at hK
    by_cases h1 : isL (t q) = true
    · rw [if_pos h1] at hK; split at hK <;> omega
    · rw [if_neg h1] at hK
      by_cases h2 : isG (t q) = true
      · rw [if_pos h2] at hK
        split at hK <;> split at hK <;> omega
      · rw [if_neg h2] at hK
        by_cases h3 : 65 ≤ t q ∧ t q ≤ 68
        · rw [if_pos h3] at hK
          by_cases h4 : lx_rf t n q = true
          · have : (((q + 2 < n ∧ 97 ≤ t (q + 1)) ∧ t (q + 1) ≤ 104) ∧ 48 ≤ t (q + 2)) ∧ t (q + 2) ≤ 55 := by simpa only [lx_rf, Bool.and_eq_true, decide_eq_true_eq] using h4
            omega
          · rw [if_neg h4] at hK; omega
        · rw [if_neg h3] at hK
          split at hK
          · omega
          · split at hK
            · omega
            · by_cases h5 : lx_sg (t q) = true
              · rw [if_pos h5] at hK
                have hm : t q ∈ [37, 40, 41, 42, 43, 44, 45, 47, 58, 60, 61] := of_decide_eq_true h5
                simp only [List.mem_cons, List.not_mem_nil, or_false] at hm
                omega
              · rw [if_neg h5] at hK; omega
section MOQ
variable {d : Nat} {h g g' : am_H} {Q : Option Value → am_H → Prop} {v0 v1 v2 v3 v4 v5 : Option Value} {t : Nat → Nat} {n : Nat} {md : Nat ⊕ (Nat × Nat)} {k o wn wp : Int32} {m m' : Nat}
theorem MX_set {k' o' wn' wp' : Int32} {m' : Nat} (X : MX h t n md k o m wn wp) (hm : m' ≤ 40) : MX (am_setI (am_setI (am_setI (am_setI (am_setI h 349 25 k') 349 26 o') 349 27 (nI m')) 349 24 wn') 349 23 wp') t n md k' o' m' wn' wp' := by
  obtain ⟨S, G, T, L, e1, e2, e3, e4, e5, e6⟩ := X
  have F : MF h (am_setI (am_setI (am_setI (am_setI (am_setI h 349 25 k') 349 26 o') 349 27 (nI m')) 349 24 wn') 349 23 wp') m := MF_I (MF_I (MF_I (MF_I (MF_I MF_refl (by omega)) (by omega)) (by omega)) (by omega)) (by omega)
  refine ⟨S, MF_G F G, MF_T0 F T, mS_keep (fun j hj => ?_) L, ?_, ?_, ?_, hm, ?_, ?_⟩
  · rw [rI_k (by omega), rI_k (by omega), rI_k (by omega), rI_k (by omega), rI_k (by omega)]
  all_goals simp only [hI_I, hI_L, hI_D, hI_R, hL_I, hL_L, hL_D, hL_R, hD_I, hD_L, hD_D, hD_R, hR_I, hR_L, hR_D, ↓reduceIte, Nat.reduceEqDiff]
theorem MX_k {k' : Int32} (X : MX h t n md k o m wn wp) : MX (am_setI h 349 25 k') t n md k' o m wn wp := by
  obtain ⟨S, G, T, L, e1, e2, e3, e4, e5, e6⟩ := id X
  have := MX_set (k' := k') (o' := o) (wn' := wn) (wp' := wp) X e4
  rw [setI_same (x := o) (by simp only [hI_I, hI_L, hI_D, hI_R, hL_I, hL_L, hL_D, hL_R, hD_I, hD_L, hD_D, hD_R, hR_I, hR_L, hR_D, ↓reduceIte, Nat.reduceEqDiff, e2]), setI_same (x := nI m) (by simp only [hI_I, hI_L, hI_D, hI_R, hL_I, hL_L, hL_D, hL_R, hD_I, hD_L, hD_D, hD_R, hR_I, hR_L, hR_D, ↓reduceIte, Nat.reduceEqDiff, e3]), setI_same (x := wn) (by simp only [hI_I, hI_L, hI_D, hI_R, hL_I, hL_L, hL_D, hL_R, hD_I, hD_L, hD_D, hD_R, hR_I, hR_L, hR_D, ↓reduceIte, Nat.reduceEqDiff, e5]), setI_same (x := wp) (by simp only [hI_I, hI_L, hI_D, hI_R, hL_I, hL_L, hL_D, hL_R, hD_I, hD_L, hD_D, hD_R, hR_I, hR_L, hR_D, ↓reduceIte, Nat.reduceEqDiff, e6])] at this
  exact this
theorem MX_o {o' : Int32} (X : MX h t n md k o m wn wp) : MX (am_setI h 349 26 o') t n md k o' m wn wp := by
  obtain ⟨S, G, T, L, e1, e2, e3, e4, e5, e6⟩ := id X
  have := MX_set (k' := k) (o' := o') (wn' := wn) (wp' := wp) X e4
  rw [setI_same (h := h) e1, setI_same (x := nI m) (by simp only [hI_I, hI_L, hI_D, hI_R, hL_I, hL_L, hL_D, hL_R, hD_I, hD_L, hD_D, hD_R, hR_I, hR_L, hR_D, ↓reduceIte, Nat.reduceEqDiff, e3]), setI_same (x := wn) (by simp only [hI_I, hI_L, hI_D, hI_R, hL_I, hL_L, hL_D, hL_R, hD_I, hD_L, hD_D, hD_R, hR_I, hR_L, hR_D, ↓reduceIte, Nat.reduceEqDiff, e5]), setI_same (x := wp) (by simp only [hI_I, hI_L, hI_D, hI_R, hL_I, hL_L, hL_D, hL_R, hD_I, hD_L, hD_D, hD_R, hR_I, hR_L, hR_D, ↓reduceIte, Nat.reduceEqDiff, e6])] at this
  exact this
theorem MX_m {m' : Nat} (X : MX h t n md k o m wn wp) (hm : m' ≤ 40) : MX (am_setI h 349 27 (nI m')) t n md k o m' wn wp := by
  obtain ⟨S, G, T, L, e1, e2, e3, e4, e5, e6⟩ := id X
  have := MX_set (k' := k) (o' := o) (wn' := wn) (wp' := wp) X hm
  rw [setI_same (h := h) e1, setI_same (h := h) e2, setI_same (x := wn) (by simp only [hI_I, hI_L, hI_D, hI_R, hL_I, hL_L, hL_D, hL_R, hD_I, hD_L, hD_D, hD_R, hR_I, hR_L, hR_D, ↓reduceIte, Nat.reduceEqDiff, e5]), setI_same (x := wp) (by simp only [hI_I, hI_L, hI_D, hI_R, hL_I, hL_L, hL_D, hL_R, hD_I, hD_L, hD_D, hD_R, hR_I, hR_L, hR_D, ↓reduceIte, Nat.reduceEqDiff, e6])] at this
  exact this
theorem MX_w {wn' wp' : Int32} (X : MX h t n md k o m wn wp) : MX (am_setI (am_setI h 349 23 wp') 349 24 wn') t n md k o m wn' wp' := by
  obtain ⟨S, G, T, L, e1, e2, e3, e4, e5, e6⟩ := X
  have F : MF h (am_setI (am_setI h 349 23 wp') 349 24 wn') m := MF_I (MF_I MF_refl (by omega)) (by omega)
  refine ⟨S, MF_G F G, MF_T0 F T, mS_keep (fun j hj => ?_) L, ?_, ?_, ?_, e4, ?_, ?_⟩
  · rw [rI_k (by omega), rI_k (by omega)]
  all_goals simp only [hI_I, hI_L, hI_D, hI_R, hL_I, hL_L, hL_D, hL_R, hD_I, hD_L, hD_D, hD_R, hR_I, hR_L, hR_D, ↓reduceIte, Nat.reduceEqDiff, e1, e2, e3]
theorem MX_tb {a j : Nat} {x : Int32} (X : MX h t n md k o m wn wp) (ha : 352 ≤ a ∧ a ≤ 357) : MX (am_setI h a j x) t n md k o m wn wp := by
  obtain ⟨S, G, T, L, e1, e2, e3, e4, e5, e6⟩ := X
  have F : am_fr (fun b => b = a) h (am_setI h a j x) := fr_I fr_refl rfl
  have r : ∀ i, am_I (am_setI h a j x) 349 i = am_I h 349 i := fun i => rI_a (by omega)
  exact ⟨S, Gv_fr F (by omega) (by omega) (by omega) G, mT_fr F (by omega) (r 21) T, mS_keep (fun j _ => r j) L, (r 25).trans e1, (r 26).trans e2, (r 27).trans e3, e4, (r 24).trans e5, (r 23).trans e6⟩
theorem MX_tbL {j : Nat} {x : Int64} (X : MX h t n md k o m wn wp) : MX (am_setL h 357 j x) t n md k o m wn wp := by
  obtain ⟨S, G, T, L, e1, e2, e3, e4, e5, e6⟩ := X
  have F : am_fr (fun b => b = 357) h (am_setL h 357 j x) := fr_L fr_refl rfl
  exact ⟨S, Gv_fr F (by decide) (by decide) (by decide) G, T, mS_keep (fun j _ => rfl) L, e1, e2, e3, e4, e5, e6⟩
/-- part -/
def mpart (md : Nat ⊕ (Nat × Nat)) (k : Int32) : Nat ⊕ (Nat × Nat) := if k = nI 40 then mdR 3 md else md
theorem m_part (X : MX h t n md k o m wn wp) {p : Int32} (hp : ∀ q, md = .inl q → p = nI q) : ∃ h', am_run (d + 1) 217 [some (.ref 349), some (.int p)] h none h' ∧ MX h' t n (mpart md k) (k + nI 1) o m wn wp ∧ MF h h' m := by
  have S := X.1
  have e1 := X.2.2.2.2.1
  by_cases c : k = nI 40
  · obtain ⟨h1, R1, X1, F1⟩ := m_stp (d := d) X (f := 3) (by decide) (by decide) hp
    have S1 := X1.1
    have e2 := X1.2.2.2.2.1
    rw [show mpart md k = mdR 3 md from if_pos c]
    refine ⟨am_setI h1 349 25 (k + nI 1), fun Q => ?_, MX_k X1, MF_trans F1 (MF_I MF_refl (by omega)) (Nat.le_refl _)⟩
    simp (disch := first | with_reducible assumption | omega | exact Or.inl rfl | exact Or.inr rfl | exact bI_01 | exact c_cat | rfl | with_reducible repeat (first | assumption | apply S_I | apply S_L | apply S_D | apply ob_I | apply ob_L | apply ob_D | apply ob_R | apply ax_I | apply ax_L | apply ax_D | apply ax_R)) only [g217_0, g217_1, g217_4, g217_6, g217_9, g217_10, g217_11, g217_12, g217_15, g217_16, g217_17, g217_20, g217_21, g217_22, g217_25, e1, c, ↓reduceIte, R1 _, Option.toList, List.nil_append, List.cons_append, va_rf]
    rw [e2, c]
  · rw [show mpart md k = md from if_neg c]
    refine ⟨am_setI h 349 25 (k + nI 1), fun Q => ?_, MX_k X, MF_I MF_refl (by omega)⟩
    simp (disch := first | with_reducible assumption | omega | exact Or.inl rfl | exact Or.inr rfl | exact bI_01 | exact c_cat | rfl | with_reducible repeat (first | assumption | apply S_I | apply S_L | apply S_D | apply ob_I | apply ob_L | apply ob_D | apply ob_R | apply ax_I | apply ax_L | apply ax_D | apply ax_R)) only [g217_0, g217_1, g217_4, g217_6, g217_9, g217_10, g217_11, g217_12, g217_15, g217_16, g217_17, g217_20, g217_21, g217_22, g217_25, e1, c, ↓reduceIte]
/-- opens -/
def mopen (md : Nat ⊕ (Nat × Nat)) (o : Int32) : Nat ⊕ (Nat × Nat) := if o = nI 10 then mdR 3 md else md
theorem m_from (X : MX h t n md k o m wn wp) : ∃ p : Int32, am_I h 349 19 = p ∧ ∀ q, md = .inl q → p = nI q := by
  have L := X.2.2.2.1
  match md, L with
  | .inl q, ⟨⟨l1, l2, l3, l4⟩, _⟩ => exact ⟨_, l3, fun q' e => by cases e; rfl⟩
  | .inr x, _ => exact ⟨_, rfl, fun q' e => by cases e⟩
theorem m_opens (X : MX h t n md k o m wn wp) : ∃ h', am_run (d + 1) 206 [some (.ref 349)] h none h' ∧ MX h' t n (mopen md o) k (o + nI 1) m wn wp ∧ MF h h' m := by
  have S := X.1
  have e1 := X.2.2.2.2.2.1
  obtain ⟨p, hp1, hp2⟩ := m_from X
  by_cases c : o = nI 10
  · obtain ⟨h1, R1, X1, F1⟩ := m_stp (d := d) X (f := 3) (by decide) (by decide) hp2
    have S1 := X1.1
    have e2 := X1.2.2.2.2.2.1
    rw [show mopen md o = mdR 3 md from if_pos c]
    refine ⟨am_setI h1 349 26 (o + nI 1), fun Q => ?_, MX_o X1, MF_trans F1 (MF_I MF_refl (by omega)) (Nat.le_refl _)⟩
    simp (disch := first | with_reducible assumption | omega | exact Or.inl rfl | exact Or.inr rfl | exact bI_01 | exact c_cat | rfl | with_reducible repeat (first | assumption | apply S_I | apply S_L | apply S_D | apply ob_I | apply ob_L | apply ob_D | apply ob_R | apply ax_I | apply ax_L | apply ax_D | apply ax_R)) only [g206_0, g206_1, g206_4, g206_6, g206_9, g206_10, g206_11, g206_12, g206_15, g206_18, g206_19, g206_20, g206_23, g206_24, g206_25, g206_28, e1, c, hp1, ↓reduceIte, R1 _, Option.toList, List.nil_append, List.cons_append, va_rf]
    rw [e2, c]
  · rw [show mopen md o = md from if_neg c]
    refine ⟨am_setI h 349 26 (o + nI 1), fun Q => ?_, MX_o X, MF_I MF_refl (by omega)⟩
    simp (disch := first | with_reducible assumption | omega | exact Or.inl rfl | exact Or.inr rfl | exact bI_01 | exact c_cat | rfl | with_reducible repeat (first | assumption | apply S_I | apply S_L | apply S_D | apply ob_I | apply ob_L | apply ob_D | apply ob_R | apply ax_I | apply ax_L | apply ax_D | apply ax_R)) only [g206_0, g206_1, g206_4, g206_6, g206_9, g206_10, g206_11, g206_12, g206_15, g206_18, g206_19, g206_20, g206_23, g206_24, g206_25, g206_28, e1, c, ↓reduceIte]
/-- wrong -/
theorem m_wrong (X : MX h t n md k o m wn wp) {f p : Int32} : ∃ h', am_run d 207 [some (.ref 349), some (.int f), some (.int p)] h none h' ∧ MX h' t n md k o m (xlat wn wp f p).1 (xlat wn wp f p).2 ∧ MF h h' m := by
  obtain ⟨S, G, T, L, e1, e2, e3, e4, e5, e6⟩ := id X
  by_cases h1 : wp = -1
  · have ex : xlat wn wp f p = (f, p) := if_pos (Or.inl h1)
    rw [ex]
    refine ⟨_, fun Q => ?_, MX_w X, MF_I (MF_I MF_refl (by omega)) (by omega)⟩
    simp (disch := first | with_reducible assumption | omega | exact Or.inl rfl | exact Or.inr rfl | exact bI_01 | exact c_cat | rfl | with_reducible repeat (first | assumption | apply S_I | apply S_L | apply S_D | apply ob_I | apply ob_L | apply ob_D | apply ob_R | apply ax_I | apply ax_L | apply ax_D | apply ax_R)) only [g207_0, g207_1, g207_4, g207_5, g207_8, g207_9, g207_12, g207_13, g207_16, g207_17, g207_18, g207_19, g207_22, g207_23, g207_24, g207_27, e6, h1, ↓reduceIte]
  · by_cases h2 : p < wp
    · have ex : xlat wn wp f p = (f, p) := if_pos (Or.inr h2)
      rw [ex]
      refine ⟨_, fun Q => ?_, MX_w X, MF_I (MF_I MF_refl (by omega)) (by omega)⟩
      simp (disch := first | with_reducible assumption | omega | exact Or.inl rfl | exact Or.inr rfl | exact bI_01 | exact c_cat | rfl | with_reducible repeat (first | assumption | apply S_I | apply S_L | apply S_D | apply ob_I | apply ob_L | apply ob_D | apply ob_R | apply ax_I | apply ax_L | apply ax_D | apply ax_R)) only [g207_0, g207_1, g207_4, g207_5, g207_8, g207_9, g207_12, g207_13, g207_16, g207_17, g207_18, g207_19, g207_22, g207_23, g207_24, g207_27, e6, h1, h2, ↓reduceIte]
    · have ex : xlat wn wp f p = (wn, wp) := if_neg (fun q => q.elim h1 h2)
      rw [ex]
      refine ⟨h, fun Q => ?_, X, MF_refl⟩
      simp (disch := first | with_reducible assumption | omega | exact Or.inl rfl | exact Or.inr rfl | exact bI_01 | exact c_cat | rfl | with_reducible repeat (first | assumption | apply S_I | apply S_L | apply S_D | apply ob_I | apply ob_L | apply ob_D | apply ob_R | apply ax_I | apply ax_L | apply ax_D | apply ax_R)) only [g207_0, g207_1, g207_4, g207_5, g207_8, g207_9, g207_12, g207_13, g207_16, g207_17, g207_18, g207_19, g207_22, g207_23, g207_24, g207_27, e6, h1, h2, ↓reduceIte]
/-- node -/
theorem m_nodeG {q : Nat} (X : MX h t n (.inl q) k o m wn wp) (hm : m < 40) {kd x y z : Int32} : ∃ h', am_run d 215 [some (.ref 349), some (.int kd), some (.int x), some (.int y), some (.int z), v5] h (some (.int (nI m))) h' ∧ MX h' t n (.inl q) k o (m + 1) wn wp ∧ MF h h' m ∧ tb h' 3648 m = (kd, x, y, z, lN 0) := by
  obtain ⟨S, G, T, ⟨l0, lk, lq, f22, f4⟩, e1, e2, e3, e4, e5, e6⟩ := id X
  refine ⟨am_setL (am_setI (am_setI (am_setI (am_setI (am_setI h 349 27 (nI (m + 1))) 352 (3648 + m) kd) 353 (3648 + m) x) 354 (3648 + m) y) 355 (3648 + m) z) 357 (3648 + m) (lN 0), fun Q => ?_, MX_tbL (MX_tb (MX_tb (MX_tb (MX_tb (MX_m X (by omega)) (by omega)) (by omega)) (by omega)) (by omega)), MF_TL (MF_T (MF_T (MF_T (MF_T (MF_I MF_refl (by omega)) (by omega) (by omega)) (by omega) (by omega)) (by omega) (by omega)) (by omega) (by omega)) (by omega) (by omega), ?_⟩
  · simp (disch := first | with_reducible assumption | omega | exact Or.inl rfl | exact Or.inr rfl | exact bI_01 | exact c_cat | rfl | with_reducible repeat (first | assumption | apply S_I | apply S_L | apply S_D | apply ob_I | apply ob_L | apply ob_D | apply ob_R | apply ax_I | apply ax_L | apply ax_D | apply ax_R)) only [g215_0, g215_3, g215_4, g215_7, g215_8, g215_10, g215_11, g215_14, g215_17, g215_18, g215_19, g215_22, g215_23, g215_24, g215_27, g215_28, g215_31, g215_33, g215_34, g215_35, g215_36, g215_39, g215_41, g215_42, g215_43, g215_44, g215_47, g215_49, g215_50, g215_51, g215_52, g215_55, g215_57, g215_59, g215_60, g215_61, g215_64, g215_66, g215_67, g215_68, g215_70, g215_73, g215_74, e3, f22, nI_ltI, nI_leI, nI_eq, nI_add, nI_sub, nI_lt0, nI_e0, nI_m1, m1_nI, Nat.reduceEqDiff, Nat.reduceLT, Nat.reduceLeDiff, Nat.reduceAdd, Nat.reduceSub, Nat.reduceMul, ↓reduceIte, eq_self, hI_I, hI_L, hI_D, hI_R, hL_I, hL_L, hL_D, hL_R, hD_I, hD_L, hD_D, hD_R, hR_I, hR_L, hR_D, ↓reduceIte, Nat.reduceEqDiff, show 3648 + m - 3648 = m by omega]
  · simp only [tb, hI_I, hI_L, hI_D, hI_R, hL_I, hL_L, hL_D, hL_R, hD_I, hD_L, hD_D, hD_R, hR_I, hR_L, hR_D, ↓reduceIte, Nat.reduceEqDiff]
theorem m_nodeB {x' : Nat × Nat} (X : MX h t n (.inr x') k o m wn wp) {kd x y z : Int32} : ∃ h', am_run d 215 [some (.ref 349), some (.int kd), some (.int x), some (.int y), some (.int z), v5] h (some (.int (nI m))) h' ∧ MX h' t n (.inr x') k o m wn wp ∧ MF h h' m := by
  obtain ⟨S, G, T, ⟨⟨b1, b2⟩, b3, b4, b5⟩, e1, e2, e3, e4, e5, e6⟩ := id X
  refine ⟨am_setL (am_setI (am_setI (am_setI (am_setI h 352 (3648 + m) kd) 353 (3648 + m) x) 354 (3648 + m) y) 355 (3648 + m) z) 357 (3648 + m) (lN 0), fun Q => ?_, MX_tbL (MX_tb (MX_tb (MX_tb (MX_tb X (by omega)) (by omega)) (by omega)) (by omega)), MF_TL (MF_T (MF_T (MF_T (MF_T MF_refl (by omega) (by omega)) (by omega) (by omega)) (by omega) (by omega)) (by omega) (by omega)) (by omega) (by omega)⟩
  simp (disch := first | with_reducible assumption | omega | exact Or.inl rfl | exact Or.inr rfl | exact bI_01 | exact c_cat | rfl | with_reducible repeat (first | assumption | apply S_I | apply S_L | apply S_D | apply ob_I | apply ob_L | apply ob_D | apply ob_R | apply ax_I | apply ax_L | apply ax_D | apply ax_R)) only [g215_0, g215_3, g215_4, g215_7, g215_8, g215_10, g215_11, g215_14, g215_17, g215_18, g215_19, g215_22, g215_23, g215_24, g215_27, g215_28, g215_31, g215_33, g215_34, g215_35, g215_36, g215_39, g215_41, g215_42, g215_43, g215_44, g215_47, g215_49, g215_50, g215_51, g215_52, g215_55, g215_57, g215_59, g215_60, g215_61, g215_64, g215_66, g215_67, g215_68, g215_70, g215_73, g215_74, e3, b1, b3, nI_ltI, nI_leI, nI_eq, nI_add, nI_sub, nI_lt0, nI_e0, nI_m1, m1_nI, Nat.reduceEqDiff, Nat.reduceLT, Nat.reduceLeDiff, Nat.reduceAdd, Nat.reduceSub, Nat.reduceMul, ↓reduceIte, eq_self, hI_I, hI_L, hI_D, hI_R, hL_I, hL_L, hL_D, hL_R, hD_I, hD_L, hD_D, hD_R, hR_I, hR_L, hR_D, ↓reduceIte, Nat.reduceEqDiff, show 3648 + m - 3648 = m by omega]
/-- whole[..] = .. -/
theorem MX_wh {x : Int64} (X : MX h t n md k o m' wn wp) (F : MF g h m) (hm : m < 40) : MX (am_setL h 357 (3648 + m) x) t n md k o m' wn wp ∧ MF g (am_setL h 357 (3648 + m) x) m := ⟨MX_tbL X, MF_TL F (by omega) (by omega)⟩
/-- nameHere -/
theorem m_nameLoop {q e : Nat} (S : am_S h) (T : mT h t n) (A : am_I h 349 17 = nI e) (he : e ≤ n) (hl : ∀ j, q ≤ j → j < e → 97 ≤ t j) : ∀ r i, e - i = r → q ≤ i → i ≤ e → (am_J d 204 7 [some (.ref 349), some (.long (lN (lx_w 32 96 t q (i - q)))), none, some (.int (nI i))] [] h Q ↔ Q (some (.long (lN (lx_w 32 96 t q (e - q))))) h) := by
  have h240 := T.2.1
  intro r
  induction r with
  | zero =>
    intro i hr hq hi
    obtain rfl : i = e := by omega
    rw [g204_7]
    simp (disch := first | with_reducible assumption | omega | exact Or.inl rfl | exact Or.inr rfl | exact bI_01 | exact c_cat | rfl | with_reducible repeat (first | assumption | apply S_I | apply S_L | apply S_D | apply ob_I | apply ob_L | apply ob_D | apply ob_R | apply ax_I | apply ax_L | apply ax_D | apply ax_R)) only [g204_8, g204_9, g204_12, g204_15, g204_18, g204_19, g204_20, g204_21, g204_24, g204_25, g204_26, g204_27, g204_28, g204_31, g204_32, g204_33, g204_36, g204_39, g204_40, A, nI_ltI, nI_leI, nI_eq, nI_add, nI_sub, nI_lt0, nI_e0, nI_m1, m1_nI, Nat.reduceEqDiff, Nat.reduceLT, Nat.reduceLeDiff, Nat.reduceAdd, Nat.reduceSub, Nat.reduceMul, ↓reduceIte, eq_self, Nat.le_refl]
  | succ r ih =>
    intro i hr hq hi
    obtain ⟨t1, t2, t3⟩ := T.2.2 i (by omega)
    have h97 := hl i hq (by omega)
    have ew : lx_w 32 96 t q (i + 1 - q) = 32 * lx_w 32 96 t q (i - q) + t i - 96 := by
      rw [show i + 1 - q = (i - q) + 1 by omega]
      show lx_w 32 96 t q (i - q) * 32 + (t (q + (i - q)) - 96) = _
      rw [show q + (i - q) = i by omega]; omega
    rw [g204_7]
    simp (disch := first | with_reducible assumption | omega | exact Or.inl rfl | exact Or.inr rfl | exact bI_01 | exact c_cat | rfl | with_reducible repeat (first | assumption | apply S_I | apply S_L | apply S_D | apply ob_I | apply ob_L | apply ob_D | apply ob_R | apply ax_I | apply ax_L | apply ax_D | apply ax_R)) only [g204_8, g204_9, g204_12, g204_15, g204_18, g204_19, g204_20, g204_21, g204_24, g204_25, g204_26, g204_27, g204_28, g204_31, g204_32, g204_33, g204_36, A, t3, nI_ltI, nI_leI, nI_eq, nI_add, nI_sub, nI_lt0, nI_e0, nI_m1, m1_nI, Nat.reduceEqDiff, Nat.reduceLT, Nat.reduceLeDiff, Nat.reduceAdd, Nat.reduceSub, Nat.reduceMul, ↓reduceIte, eq_self, show ¬ e ≤ i by omega, nI_l, lN_mul, lN_add, lN_sub]
    rw [← ew]
    exact ih (i + 1) (by omega) (by omega) (by omega)
theorem m_nameHere {q : Nat} (X : MX h t n (.inl q) k o m wn wp) (hl : ∀ j, q ≤ j → j < lx_E t n q → 97 ≤ t j) (hE : q ≤ lx_E t n q) : am_J d 204 0 [some (.ref 349), v1, v2, v3] [] h Q ↔ Q (some (.long (lN (lx_w 32 96 t q (lx_E t n q - q))))) h := by
  obtain ⟨S, G, T, ⟨⟨l1, l2, l3, l4⟩, lk, lq, f22, f4⟩, -⟩ := id X
  have := m_nameLoop (d := d) (Q := Q) S T l1 (lx_E_le lq lk) hl _ q rfl (Nat.le_refl _) hE
  rw [Nat.sub_self] at this
  rw [← this]
  simp (disch := first | with_reducible assumption | omega | exact Or.inl rfl | exact Or.inr rfl | exact bI_01 | exact c_cat | rfl | with_reducible repeat (first | assumption | apply S_I | apply S_L | apply S_D | apply ob_I | apply ob_L | apply ob_D | apply ob_R | apply ax_I | apply ax_L | apply ax_D | apply ax_R)) only [g204_0, g204_1, g204_2, g204_3, g204_6, l3]
  rfl
/-- cellHere -/
theorem m_cellHere {q : Nat} (X : MX h t n (.inl q) k o m wn wp) (hK : lx_K t n q = 259) : am_J d 218 0 [some (.ref 349)] [] h Q ↔ Q (some (.int (nI (lx_c t q)))) h := by
  obtain ⟨S, G, T, ⟨⟨l1, l2, l3, l4⟩, lk, lq, f22, f4⟩, -⟩ := id X
  have h240 := T.2.1
  have hE : lx_E t n q ≤ n := lx_E_le lq lk
  have hr : (65 ≤ t q ∧ t q ≤ 68) ∧ q + 2 < n ∧ 97 ≤ t (q + 1) ∧ t (q + 1) ≤ 104 ∧ 48 ≤ t (q + 2) ∧ t (q + 2) ≤ 55 := lx_ref hK
  obtain ⟨r0, r1, r2, r3, r4, r5⟩ := hr
  have t0 := (T.2.2 q (by omega)).2.2
  have t1 := (T.2.2 (q + 1) (by omega)).2.2
  have t2 := (T.2.2 (q + 2) (by omega)).2.2
  simp (disch := first | with_reducible assumption | omega | exact Or.inl rfl | exact Or.inr rfl | exact bI_01 | exact c_cat | rfl | with_reducible repeat (first | assumption | apply S_I | apply S_L | apply S_D | apply ob_I | apply ob_L | apply ob_D | apply ob_R | apply ax_I | apply ax_L | apply ax_D | apply ax_R)) only [g218_0, g218_2, g218_3, g218_6, g218_7, g218_10, g218_11, g218_13, g218_14, g218_15, g218_17, g218_18, g218_21, g218_22, g218_25, g218_26, g218_27, g218_28, g218_30, g218_31, g218_32, g218_33, g218_34, g218_37, g218_38, g218_41, g218_42, g218_43, g218_44, g218_45, g218_47, g218_48, l3, t0, t1, t2, nI_sub, nI_add, nI_mul]
  have : 64 * (t q - 65) + 8 * (t (q + 2) - 48) + t (q + 1) - 97 = lx_c t q := by unfold lx_c; omega
  rw [this]
end MOQ

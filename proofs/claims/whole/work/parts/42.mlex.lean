/-! THE MODEL'S LEXER -/
def mT (h : am_H) (t : Nat → Nat) (n : Nat) : Prop := am_I h 349 21 = nI n ∧ n ≤ 240 ∧ ∀ j, j < n → 1 ≤ t j ∧ t j ≤ 255 ∧ am_I h 350 j = nI (t j)
def mA (t : Nat → Nat) (n i : Nat) : Nat := if i < n then t i else 0
def mtok (k : Nat) : Nat := if k = 262 then 0 else if k = 258 then 1 else if k = 259 then 2 else if k = 260 then 3 else if k = 261 then 4 else 5
def msgn (k : Nat) : Nat := if k = 256 then 76 else if k = 257 then 78 else k
def LM (h : am_H) (t : Nat → Nat) (n q : Nat) : Prop := am_I h 349 17 = nI (lx_E t n q) ∧ am_I h 349 18 = nI (mtok (lx_K t n q)) ∧ am_I h 349 19 = nI q ∧ (mtok (lx_K t n q) = 5 → am_I h 349 20 = nI (msgn (lx_K t n q)))
def MB (h : am_H) (n f q : Nat) : Prop := am_I h 349 22 = nI f ∧ am_I h 349 4 = nI q ∧ ∃ q' e k, q' ≤ n ∧ am_I h 349 19 = nI q' ∧ q' ≤ e ∧ e ≤ n + 1 ∧ am_I h 349 17 = nI e ∧ k ≤ 5 ∧ am_I h 349 18 = nI k ∧ (k = 1 → e ≤ n)
/-- what next does -/
def MA (h h' : am_H) (t : Nat → Nat) (n q : Nat) : Prop := (lx_K t n q ≠ 263 → LM h' t n q ∧ am_I h' 349 22 = am_I h 349 22 ∧ am_I h' 349 4 = am_I h 349 4) ∧ (lx_K t n q = 263 → MB h' n 1 q) ∧ (∀ k, k ≠ 4 → (k < 17 ∨ 20 < k) → k ≠ 22 → am_I h' 349 k = am_I h 349 k) ∧ ∀ k, am_L h' 349 k = am_L h 349 k
section LEXM
variable {d : Nat} {h : am_H} {Q : Option Value → am_H → Prop} {v0 v1 v2 v3 : Option Value} {t : Nat → Nat} {n p q : Nat}
theorem mT_fr {P : Nat → Prop} {g : am_H} (F : am_fr P h g) (h350 : ¬ P 350) (h21 : am_I g 349 21 = am_I h 349 21) (T : mT h t n) : mT g t n := by
  obtain ⟨T2, T3, T4⟩ := T
  refine ⟨h21.trans T2, T3, fun j hj => ?_⟩
  rw [fr_rdI F h350]
  exact T4 j hj
theorem mT_I {k : Nat} {x : Int32} (T : mT h t n) (hk : k ≠ 21) : mT (am_setI h 349 k x) t n := ⟨by rw [rI_k (Ne.symm hk)]; exact T.1, T.2.1, fun j hj => by rw [rI_a (by decide)]; exact T.2.2 j hj⟩
theorem mT_L {a k : Nat} {x : Int64} (T : mT h t n) : mT (am_setL h a k x) t n := T
theorem mA_lt (hp : p < n) : mA t n p = t p := if_pos hp
theorem mA_ge (hp : n ≤ p) : mA t n p = 0 := if_neg (Nat.not_lt.mpr hp)
theorem mA_256 (T : mT h t n) (p : Nat) : mA t n p < 256 := by
  by_cases hp : p < n
  · rw [mA_lt hp]; have := (T.2.2 p hp).2.1; omega
  · rw [mA_ge (by omega)]; decide
theorem m_isL {k : Nat} (hk : k < 256) : am_J d 195 0 [some (.int (nI k))] [] h Q ↔ Q (some (.int (bI (isL k)))) h := by
  simp (disch := first | with_reducible assumption | omega | exact Or.inl rfl | exact Or.inr rfl | exact bI_01 | exact c_cat | rfl | with_reducible repeat (first | assumption | apply S_I | apply S_L | apply S_D | apply ob_I | apply ob_L | apply ob_D | apply ob_R | apply ax_I | apply ax_L | apply ax_D | apply ax_R)) only [g195_0, g195_1, g195_3, g195_6, g195_7, g195_9, g195_12, g195_13, g195_16, g195_17, nI_ltI, nI_leI, nI_eq, nI_add, nI_sub, nI_lt0, nI_e0, nI_m1, m1_nI, Nat.reduceEqDiff, Nat.reduceLT, Nat.reduceLeDiff, Nat.reduceAdd, Nat.reduceSub, Nat.reduceMul, ↓reduceIte, eq_self]
  by_cases h1 : k < 97
  · simp only [h1, ↓reduceIte, show isL k = false by simp [isL]; omega, bI_f]
  · by_cases h2 : 122 < k
    · simp only [h1, h2, ↓reduceIte, show isL k = false by simp [isL]; omega, bI_f]
    · simp only [h1, h2, ↓reduceIte, show isL k = true by simp [isL]; omega, bI_t]
theorem m_isG {k : Nat} (hk : k < 256) : am_J d 197 0 [some (.int (nI k))] [] h Q ↔ Q (some (.int (bI (isG k)))) h := by
  simp (disch := first | with_reducible assumption | omega | exact Or.inl rfl | exact Or.inr rfl | exact bI_01 | exact c_cat | rfl | with_reducible repeat (first | assumption | apply S_I | apply S_L | apply S_D | apply ob_I | apply ob_L | apply ob_D | apply ob_R | apply ax_I | apply ax_L | apply ax_D | apply ax_R)) only [g197_0, g197_1, g197_3, g197_6, g197_7, g197_9, g197_12, g197_13, g197_16, g197_17, nI_ltI, nI_leI, nI_eq, nI_add, nI_sub, nI_lt0, nI_e0, nI_m1, m1_nI, Nat.reduceEqDiff, Nat.reduceLT, Nat.reduceLeDiff, Nat.reduceAdd, Nat.reduceSub, Nat.reduceMul, ↓reduceIte, eq_self]
  by_cases h1 : k < 48
  · simp only [h1, ↓reduceIte, show isG k = false by simp [isG]; omega, bI_f]
  · by_cases h2 : 57 < k
    · simp only [h1, h2, ↓reduceIte, show isG k = false by simp [isG]; omega, bI_f]
    · simp only [h1, h2, ↓reduceIte, show isG k = true by simp [isG]; omega, bI_t]
theorem m_byteAt (S : am_S h) (T : mT h t n) {i : Nat} (hi : i < 2 ^ 31) : am_J d 194 0 [some (.ref 349), some (.int (nI i))] [] h Q ↔ Q (some (.int (nI (mA t n i)))) h := by
  obtain ⟨T2, T3, T4⟩ := T
  by_cases hn : i < n
  · obtain ⟨t1, t2, t3⟩ := T4 i hn
    simp (disch := first | with_reducible assumption | omega | exact Or.inl rfl | exact Or.inr rfl | exact bI_01 | exact c_cat | rfl | with_reducible repeat (first | assumption | apply S_I | apply S_L | apply S_D | apply ob_I | apply ob_L | apply ob_D | apply ob_R | apply ax_I | apply ax_L | apply ax_D | apply ax_R)) only [g194_0, g194_1, g194_2, g194_5, g194_8, g194_9, g194_12, g194_13, g194_14, g194_17, g194_18, nI_ltI, nI_leI, nI_eq, nI_add, nI_sub, nI_lt0, nI_e0, nI_m1, m1_nI, Nat.reduceEqDiff, Nat.reduceLT, Nat.reduceLeDiff, Nat.reduceAdd, Nat.reduceSub, Nat.reduceMul, ↓reduceIte, eq_self, T2, show ¬ n ≤ i by omega, mA, t3, hn]
  · simp (disch := first | with_reducible assumption | omega | exact Or.inl rfl | exact Or.inr rfl | exact bI_01 | exact c_cat | rfl | with_reducible repeat (first | assumption | apply S_I | apply S_L | apply S_D | apply ob_I | apply ob_L | apply ob_D | apply ob_R | apply ax_I | apply ax_L | apply ax_D | apply ax_R)) only [g194_0, g194_1, g194_2, g194_5, g194_8, g194_9, g194_12, g194_13, g194_14, g194_17, g194_18, nI_ltI, nI_leI, nI_eq, nI_add, nI_sub, nI_lt0, nI_e0, nI_m1, m1_nI, Nat.reduceEqDiff, Nat.reduceLT, Nat.reduceLeDiff, Nat.reduceAdd, Nat.reduceSub, Nat.reduceMul, ↓reduceIte, eq_self, T2, show n ≤ i by omega, mA, hn]
theorem m_skip : ∀ m p g, n - p = m → p ≤ n → am_S g → mT g t n → am_I g 349 17 = nI p → (am_J (d + 1) 193 8 [some (.ref 349), v1] [] g Q ↔ am_J (d + 1) 193 34 [some (.ref 349), v1] [] (am_setI g 349 17 (nI (lx_q t n p))) Q) := by
  intro m
  induction m with
  | zero =>
    intro p g hm hp S T N
    have h240 := T.2.1
    rw [show lx_q t n p = p from scan_stop (fun q => by omega), setI_same N, g193_8]
    simp (disch := first | with_reducible assumption | omega | exact Or.inl rfl | exact Or.inr rfl | exact bI_01 | exact c_cat | rfl | with_reducible repeat (first | assumption | apply S_I | apply S_L | apply S_D | apply ob_I | apply ob_L | apply ob_D | apply ob_R | apply ax_I | apply ax_L | apply ax_D | apply ax_R)) only [g193_9, g193_10, g193_13, g193_16, g193_18, g193_21, g193_22, g193_23, g193_26, g193_27, g193_28, g193_31, N, Option.toList, List.nil_append, List.cons_append, va_rf, m_byteAt, T, mA_ge (show n ≤ p by omega), nI_ltI, nI_leI, nI_eq, nI_add, nI_sub, nI_lt0, nI_e0, nI_m1, m1_nI, Nat.reduceEqDiff, Nat.reduceLT, Nat.reduceLeDiff, Nat.reduceAdd, Nat.reduceSub, Nat.reduceMul, ↓reduceIte, eq_self]
  | succ m ih =>
    intro p g hm hp S T N
    have h240 := T.2.1
    obtain ⟨t1, t2, t3⟩ := T.2.2 p (by omega)
    by_cases h0 : t p = 32
    · rw [show lx_q t n p = lx_q t n (p + 1) from scan_step (by omega) (decide_eq_true h0), g193_8]
      simp (disch := first | with_reducible assumption | omega | exact Or.inl rfl | exact Or.inr rfl | exact bI_01 | exact c_cat | rfl | with_reducible repeat (first | assumption | apply S_I | apply S_L | apply S_D | apply ob_I | apply ob_L | apply ob_D | apply ob_R | apply ax_I | apply ax_L | apply ax_D | apply ax_R)) only [g193_9, g193_10, g193_13, g193_16, g193_18, g193_21, g193_22, g193_23, g193_26, g193_27, g193_28, g193_31, N, Option.toList, List.nil_append, List.cons_append, va_rf, m_byteAt, T, mA_lt (show p < n by omega), nI_ltI, nI_leI, nI_eq, nI_add, nI_sub, nI_lt0, nI_e0, nI_m1, m1_nI, Nat.reduceEqDiff, Nat.reduceLT, Nat.reduceLeDiff, Nat.reduceAdd, Nat.reduceSub, Nat.reduceMul, ↓reduceIte, eq_self, h0]
      rw [ih (p + 1) _ (by omega) (by omega) (S_I S) (mT_I T (by decide)) rI_eq, setI_setI]
    · rw [show lx_q t n p = p from scan_stop (fun q => h0 (of_decide_eq_true q.2)), setI_same N, g193_8]
      simp (disch := first | with_reducible assumption | omega | exact Or.inl rfl | exact Or.inr rfl | exact bI_01 | exact c_cat | rfl | with_reducible repeat (first | assumption | apply S_I | apply S_L | apply S_D | apply ob_I | apply ob_L | apply ob_D | apply ob_R | apply ax_I | apply ax_L | apply ax_D | apply ax_R)) only [g193_9, g193_10, g193_13, g193_16, g193_18, g193_21, g193_22, g193_23, g193_26, g193_27, g193_28, g193_31, N, Option.toList, List.nil_append, List.cons_append, va_rf, m_byteAt, T, mA_lt (show p < n by omega), nI_ltI, nI_leI, nI_eq, nI_add, nI_sub, nI_lt0, nI_e0, nI_m1, m1_nI, Nat.reduceEqDiff, Nat.reduceLT, Nat.reduceLeDiff, Nat.reduceAdd, Nat.reduceSub, Nat.reduceMul, ↓reduceIte, eq_self, h0]
theorem m_letters : ∀ m p g, n - p = m → p ≤ n → am_S g → mT g t n → am_I g 349 17 = nI p → (am_J (d + 1) 193 82 [some (.ref 349), v1] [] g Q ↔ am_J (d + 1) 193 109 [some (.ref 349), v1] [] (am_setI g 349 17 (nI (lx_L t n p))) Q) := by
  intro m
  induction m with
  | zero =>
    intro p g hm hp S T N
    have h240 := T.2.1
    rw [show lx_L t n p = p from scan_stop (fun q => by omega), setI_same N, g193_82]
    simp (disch := first | with_reducible assumption | omega | exact Or.inl rfl | exact Or.inr rfl | exact bI_01 | exact c_cat | rfl | with_reducible repeat (first | assumption | apply S_I | apply S_L | apply S_D | apply ob_I | apply ob_L | apply ob_D | apply ob_R | apply ax_I | apply ax_L | apply ax_D | apply ax_R)) only [g193_83, g193_84, g193_87, g193_90, g193_93, g193_96, g193_97, g193_98, g193_101, g193_102, g193_103, g193_106, N, Option.toList, List.nil_append, List.cons_append, va_rf, m_byteAt, T, mA_ge (show n ≤ p by omega), nI_ltI, nI_leI, nI_eq, nI_add, nI_sub, nI_lt0, nI_e0, nI_m1, m1_nI, Nat.reduceEqDiff, Nat.reduceLT, Nat.reduceLeDiff, Nat.reduceAdd, Nat.reduceSub, Nat.reduceMul, ↓reduceIte, eq_self, m_isL, show isL 0 = false by decide, bI_f]
  | succ m ih =>
    intro p g hm hp S T N
    have h240 := T.2.1
    obtain ⟨t1, t2, t3⟩ := T.2.2 p (by omega)
    cases h0 : isL (t p) with
    | true =>
      rw [show lx_L t n p = lx_L t n (p + 1) from scan_step (by omega) h0, g193_82]
      simp (disch := first | with_reducible assumption | omega | exact Or.inl rfl | exact Or.inr rfl | exact bI_01 | exact c_cat | rfl | with_reducible repeat (first | assumption | apply S_I | apply S_L | apply S_D | apply ob_I | apply ob_L | apply ob_D | apply ob_R | apply ax_I | apply ax_L | apply ax_D | apply ax_R)) only [g193_83, g193_84, g193_87, g193_90, g193_93, g193_96, g193_97, g193_98, g193_101, g193_102, g193_103, g193_106, N, Option.toList, List.nil_append, List.cons_append, va_rf, m_byteAt, T, mA_lt (show p < n by omega), nI_ltI, nI_leI, nI_eq, nI_add, nI_sub, nI_lt0, nI_e0, nI_m1, m1_nI, Nat.reduceEqDiff, Nat.reduceLT, Nat.reduceLeDiff, Nat.reduceAdd, Nat.reduceSub, Nat.reduceMul, ↓reduceIte, eq_self, m_isL, h0, bI_t]
      rw [ih (p + 1) _ (by omega) (by omega) (S_I S) (mT_I T (by decide)) rI_eq, setI_setI]
    | false =>
      rw [show lx_L t n p = p from scan_stop (fun q => by rw [h0] at q; exact absurd q.2 (by decide)), setI_same N, g193_82]
      simp (disch := first | with_reducible assumption | omega | exact Or.inl rfl | exact Or.inr rfl | exact bI_01 | exact c_cat | rfl | with_reducible repeat (first | assumption | apply S_I | apply S_L | apply S_D | apply ob_I | apply ob_L | apply ob_D | apply ob_R | apply ax_I | apply ax_L | apply ax_D | apply ax_R)) only [g193_83, g193_84, g193_87, g193_90, g193_93, g193_96, g193_97, g193_98, g193_101, g193_102, g193_103, g193_106, N, Option.toList, List.nil_append, List.cons_append, va_rf, m_byteAt, T, mA_lt (show p < n by omega), nI_ltI, nI_leI, nI_eq, nI_add, nI_sub, nI_lt0, nI_e0, nI_m1, m1_nI, Nat.reduceEqDiff, Nat.reduceLT, Nat.reduceLeDiff, Nat.reduceAdd, Nat.reduceSub, Nat.reduceMul, ↓reduceIte, eq_self, m_isL, h0, bI_f]
theorem m_run1 : ∀ m p g, n - p = m → p ≤ n → am_S g → mT g t n → am_I g 349 17 = nI p → (am_J (d + 1) 198 5 [some (.ref 349), v1] [] g Q ↔ am_J (d + 1) 198 32 [some (.ref 349), v1] [] (am_setI g 349 17 (nI (lx_G t n p))) Q) := by
  intro m
  induction m with
  | zero =>
    intro p g hm hp S T N
    have h240 := T.2.1
    rw [show lx_G t n p = p from scan_stop (fun q => by omega), setI_same N, g198_5]
    simp (disch := first | with_reducible assumption | omega | exact Or.inl rfl | exact Or.inr rfl | exact bI_01 | exact c_cat | rfl | with_reducible repeat (first | assumption | apply S_I | apply S_L | apply S_D | apply ob_I | apply ob_L | apply ob_D | apply ob_R | apply ax_I | apply ax_L | apply ax_D | apply ax_R)) only [g198_6, g198_7, g198_10, g198_13, g198_16, g198_19, g198_20, g198_21, g198_24, g198_25, g198_26, g198_29, N, Option.toList, List.nil_append, List.cons_append, va_rf, m_byteAt, T, mA_ge (show n ≤ p by omega), nI_ltI, nI_leI, nI_eq, nI_add, nI_sub, nI_lt0, nI_e0, nI_m1, m1_nI, Nat.reduceEqDiff, Nat.reduceLT, Nat.reduceLeDiff, Nat.reduceAdd, Nat.reduceSub, Nat.reduceMul, ↓reduceIte, eq_self, m_isG, show isG 0 = false by decide, bI_f]
  | succ m ih =>
    intro p g hm hp S T N
    have h240 := T.2.1
    obtain ⟨t1, t2, t3⟩ := T.2.2 p (by omega)
    cases h0 : isG (t p) with
    | true =>
      rw [show lx_G t n p = lx_G t n (p + 1) from scan_step (by omega) h0, g198_5]
      simp (disch := first | with_reducible assumption | omega | exact Or.inl rfl | exact Or.inr rfl | exact bI_01 | exact c_cat | rfl | with_reducible repeat (first | assumption | apply S_I | apply S_L | apply S_D | apply ob_I | apply ob_L | apply ob_D | apply ob_R | apply ax_I | apply ax_L | apply ax_D | apply ax_R)) only [g198_6, g198_7, g198_10, g198_13, g198_16, g198_19, g198_20, g198_21, g198_24, g198_25, g198_26, g198_29, N, Option.toList, List.nil_append, List.cons_append, va_rf, m_byteAt, T, mA_lt (show p < n by omega), nI_ltI, nI_leI, nI_eq, nI_add, nI_sub, nI_lt0, nI_e0, nI_m1, m1_nI, Nat.reduceEqDiff, Nat.reduceLT, Nat.reduceLeDiff, Nat.reduceAdd, Nat.reduceSub, Nat.reduceMul, ↓reduceIte, eq_self, m_isG, h0, bI_t]
      rw [ih (p + 1) _ (by omega) (by omega) (S_I S) (mT_I T (by decide)) rI_eq, setI_setI]
    | false =>
      rw [show lx_G t n p = p from scan_stop (fun q => by rw [h0] at q; exact absurd q.2 (by decide)), setI_same N, g198_5]
      simp (disch := first | with_reducible assumption | omega | exact Or.inl rfl | exact Or.inr rfl | exact bI_01 | exact c_cat | rfl | with_reducible repeat (first | assumption | apply S_I | apply S_L | apply S_D | apply ob_I | apply ob_L | apply ob_D | apply ob_R | apply ax_I | apply ax_L | apply ax_D | apply ax_R)) only [g198_6, g198_7, g198_10, g198_13, g198_16, g198_19, g198_20, g198_21, g198_24, g198_25, g198_26, g198_29, N, Option.toList, List.nil_append, List.cons_append, va_rf, m_byteAt, T, mA_lt (show p < n by omega), nI_ltI, nI_leI, nI_eq, nI_add, nI_sub, nI_lt0, nI_e0, nI_m1, m1_nI, Nat.reduceEqDiff, Nat.reduceLT, Nat.reduceLeDiff, Nat.reduceAdd, Nat.reduceSub, Nat.reduceMul, ↓reduceIte, eq_self, m_isG, h0, bI_f]
theorem m_run2 {c : Nat} : ∀ m p g, n - p = m → p ≤ n → q ≤ p → am_S g → mT g t n → am_I g 349 17 = nI p → (am_J (d + 1) 198 86 [some (.ref 349), some (.int (nI (c + (p - q))))] [] g Q ↔ am_J (d + 1) 198 116 [some (.ref 349), some (.int (nI (c + (lx_G t n p - q))))] [] (am_setI g 349 17 (nI (lx_G t n p))) Q) := by
  intro m
  induction m with
  | zero =>
    intro p g hm hp hq S T N
    have h240 := T.2.1
    rw [show lx_G t n p = p from scan_stop (fun q => by omega), setI_same N, g198_86]
    simp (disch := first | with_reducible assumption | omega | exact Or.inl rfl | exact Or.inr rfl | exact bI_01 | exact c_cat | rfl | with_reducible repeat (first | assumption | apply S_I | apply S_L | apply S_D | apply ob_I | apply ob_L | apply ob_D | apply ob_R | apply ax_I | apply ax_L | apply ax_D | apply ax_R)) only [g198_87, g198_88, g198_91, g198_94, g198_97, g198_100, g198_101, g198_102, g198_105, g198_106, g198_107, g198_110, g198_113, N, Option.toList, List.nil_append, List.cons_append, va_rf, m_byteAt, T, mA_ge (show n ≤ p by omega), nI_ltI, nI_leI, nI_eq, nI_add, nI_sub, nI_lt0, nI_e0, nI_m1, m1_nI, Nat.reduceEqDiff, Nat.reduceLT, Nat.reduceLeDiff, Nat.reduceAdd, Nat.reduceSub, Nat.reduceMul, ↓reduceIte, eq_self, m_isG, show isG 0 = false by decide, bI_f]
  | succ m ih =>
    intro p g hm hp hq S T N
    have h240 := T.2.1
    obtain ⟨t1, t2, t3⟩ := T.2.2 p (by omega)
    cases h0 : isG (t p) with
    | true =>
      rw [show lx_G t n p = lx_G t n (p + 1) from scan_step (by omega) h0, g198_86]
      simp (disch := first | with_reducible assumption | omega | exact Or.inl rfl | exact Or.inr rfl | exact bI_01 | exact c_cat | rfl | with_reducible repeat (first | assumption | apply S_I | apply S_L | apply S_D | apply ob_I | apply ob_L | apply ob_D | apply ob_R | apply ax_I | apply ax_L | apply ax_D | apply ax_R)) only [g198_87, g198_88, g198_91, g198_94, g198_97, g198_100, g198_101, g198_102, g198_105, g198_106, g198_107, g198_110, g198_113, N, Option.toList, List.nil_append, List.cons_append, va_rf, m_byteAt, T, mA_lt (show p < n by omega), nI_ltI, nI_leI, nI_eq, nI_add, nI_sub, nI_lt0, nI_e0, nI_m1, m1_nI, Nat.reduceEqDiff, Nat.reduceLT, Nat.reduceLeDiff, Nat.reduceAdd, Nat.reduceSub, Nat.reduceMul, ↓reduceIte, eq_self, m_isG, h0, bI_t]
      rw [show c + (p - q) + 1 = c + (p + 1 - q) by omega, ih (p + 1) _ (by omega) (by omega) (by omega) (S_I S) (mT_I T (by decide)) rI_eq, setI_setI]
    | false =>
      rw [show lx_G t n p = p from scan_stop (fun q => by rw [h0] at q; exact absurd q.2 (by decide)), setI_same N, g198_86]
      simp (disch := first | with_reducible assumption | omega | exact Or.inl rfl | exact Or.inr rfl | exact bI_01 | exact c_cat | rfl | with_reducible repeat (first | assumption | apply S_I | apply S_L | apply S_D | apply ob_I | apply ob_L | apply ob_D | apply ob_R | apply ax_I | apply ax_L | apply ax_D | apply ax_R)) only [g198_87, g198_88, g198_91, g198_94, g198_97, g198_100, g198_101, g198_102, g198_105, g198_106, g198_107, g198_110, g198_113, N, Option.toList, List.nil_append, List.cons_append, va_rf, m_byteAt, T, mA_lt (show p < n by omega), nI_ltI, nI_leI, nI_eq, nI_add, nI_sub, nI_lt0, nI_e0, nI_m1, m1_nI, Nat.reduceEqDiff, Nat.reduceLT, Nat.reduceLeDiff, Nat.reduceAdd, Nat.reduceSub, Nat.reduceMul, ↓reduceIte, eq_self, m_isG, h0, bI_f]
theorem MA_k {g : am_H} (hk : ∀ k, k ≠ 4 → (k < 17 ∨ 20 < k) → k ≠ 22 → am_I g 349 k = am_I h 349 k) {j : Nat} {x : Int32} (hj : j = 4 ∨ j = 22 ∨ (17 ≤ j ∧ j ≤ 20)) : ∀ k, k ≠ 4 → (k < 17 ∨ 20 < k) → k ≠ 22 → am_I (am_setI g 349 j x) 349 k = am_I h 349 k := by
  intro k h1 h2 h3
  rw [rI_k (by omega)]
  exact hk k h1 h2 h3
theorem m_number (S : am_S h) (T : mT h t n) (N : am_I h 349 17 = nI q) (P : am_I h 349 19 = nI q) (hq : q < n) (hg : isG (t q) = true) (hl : isL (t q) = false) (F : am_I h 349 22 = nI 0) : ∃ h', am_run (d + 2) 198 [some (.ref 349), none] h none h' ∧ am_fr (fun a => a = 349) h h' ∧ MA h h' t n q := by
  have h240 := T.2.1
  have l1 : q ≤ lx_G t n q := scan_ge
  have l2 : lx_G t n q ≤ n := scan_le (Nat.le_of_lt hq)
  have hKq : ¬ n ≤ q := by omega
  have W0 : ∀ Q, am_J (d + 2) 198 0 [some (.ref 349), none] [] h Q ↔ am_J (d + 2) 198 32 [some (.ref 349), none] [] (am_setI (am_setI h 349 18 (nI 3)) 349 17 (nI (lx_G t n q))) Q := by
    intro Q
    rw [g198_0, g198_1, g198_2 S, m_run1 _ q _ rfl (Nat.le_of_lt hq) (S_I S) (mT_I T (by decide)) (by simp only [hI_I, hI_L, hI_D, hI_R, hL_I, hL_L, hL_D, hL_R, hD_I, hD_L, hD_D, hD_R, hR_I, hR_L, hR_D, ↓reduceIte, Nat.reduceEqDiff, N])]
  have T1 : mT (am_setI (am_setI h 349 18 (nI 3)) 349 17 (nI (lx_G t n q))) t n := mT_I (mT_I T (by decide)) (by decide)
  have k1 : ∀ k, k ≠ 4 → (k < 17 ∨ 20 < k) → k ≠ 22 → am_I (am_setI (am_setI h 349 18 (nI 3)) 349 17 (nI (lx_G t n q))) 349 k = am_I h 349 k := MA_k (MA_k (fun _ _ _ _ => rfl) (by omega)) (by omega)
  cases hp : lx_pt t n (lx_G t n q) with
  | false =>
    have hK : lx_K t n q = if 18 < lx_G t n q - q then 263 else 260 := by
      simp only [lx_K, hKq, hl, hg, hp, ↓reduceIte, Bool.false_eq_true]
    have hE : lx_E t n q = lx_G t n q := by simp only [lx_E, hKq, hl, hg, hp, ↓reduceIte, Bool.false_eq_true]
    have W : ∀ Q, am_J (d + 2) 198 32 [some (.ref 349), none] [] (am_setI (am_setI h 349 18 (nI 3)) 349 17 (nI (lx_G t n q))) Q ↔ am_J (d + 2) 198 116 [some (.ref 349), some (.int (nI (lx_G t n q - q)))] [] (am_setI (am_setI h 349 18 (nI 3)) 349 17 (nI (lx_G t n q))) Q := by
      intro Q
      have b1 := mA_256 T (lx_G t n q)
      have b2 := mA_256 T (lx_G t n q + 1)
      by_cases c : mA t n (lx_G t n q) = 46
      · have c2 : isG (mA t n (lx_G t n q + 1)) = false := by
          have c1 : lx_G t n q < n := by
            by_cases c1 : lx_G t n q < n
            · exact c1
            · rw [mA_ge (by omega)] at c; exact absurd c (by decide)
          rw [mA_lt c1] at c
          by_cases c2 : lx_G t n q + 1 < n
          · rw [mA_lt c2]; simpa [lx_pt, c1, c, c2] using hp
          · rw [mA_ge (by omega)]; decide
        simp (disch := first | with_reducible assumption | omega | exact Or.inl rfl | exact Or.inr rfl | exact bI_01 | exact c_cat | rfl | with_reducible repeat (first | assumption | apply S_I | apply S_L | apply S_D | apply ob_I | apply ob_L | apply ob_D | apply ob_R | apply ax_I | apply ax_L | apply ax_D | apply ax_R)) only [g198_32, g198_33, g198_36, g198_37, g198_40, g198_41, g198_42, g198_43, g198_44, g198_47, g198_50, g198_52, g198_55, g198_56, g198_57, g198_60, g198_61, g198_62, g198_65, g198_68, N, P, hI_I, hI_L, hI_D, hI_R, hL_I, hL_L, hL_D, hL_R, hD_I, hD_L, hD_D, hD_R, hR_I, hR_L, hR_D, ↓reduceIte, Nat.reduceEqDiff, Option.toList, List.nil_append, List.cons_append, va_rf, m_byteAt, T1, nI_ltI, nI_leI, nI_eq, nI_add, nI_sub, nI_lt0, nI_e0, nI_m1, m1_nI, Nat.reduceEqDiff, Nat.reduceLT, Nat.reduceLeDiff, Nat.reduceAdd, Nat.reduceSub, Nat.reduceMul, ↓reduceIte, eq_self, c, m_isG, c2, bI_f]
      · simp (disch := first | with_reducible assumption | omega | exact Or.inl rfl | exact Or.inr rfl | exact bI_01 | exact c_cat | rfl | with_reducible repeat (first | assumption | apply S_I | apply S_L | apply S_D | apply ob_I | apply ob_L | apply ob_D | apply ob_R | apply ax_I | apply ax_L | apply ax_D | apply ax_R)) only [g198_32, g198_33, g198_36, g198_37, g198_40, g198_41, g198_42, g198_43, g198_44, g198_47, g198_50, g198_52, g198_55, g198_56, g198_57, g198_60, g198_61, g198_62, g198_65, g198_68, N, P, hI_I, hI_L, hI_D, hI_R, hL_I, hL_L, hL_D, hL_R, hD_I, hD_L, hD_D, hD_R, hR_I, hR_L, hR_D, ↓reduceIte, Nat.reduceEqDiff, Option.toList, List.nil_append, List.cons_append, va_rf, m_byteAt, T1, nI_ltI, nI_leI, nI_eq, nI_add, nI_sub, nI_lt0, nI_e0, nI_m1, m1_nI, Nat.reduceEqDiff, Nat.reduceLT, Nat.reduceLeDiff, Nat.reduceAdd, Nat.reduceSub, Nat.reduceMul, ↓reduceIte, eq_self, c]
    by_cases h18 : 18 < lx_G t n q - q
    · rw [if_pos h18] at hK
      apply Exists.intro
      refine ⟨fun Q => ?_, ?_, ?_⟩
      · rw [W0, W]
        simp (disch := first | with_reducible assumption | omega | exact Or.inl rfl | exact Or.inr rfl | exact bI_01 | exact c_cat | rfl | with_reducible repeat (first | assumption | apply S_I | apply S_L | apply S_D | apply ob_I | apply ob_L | apply ob_D | apply ob_R | apply ax_I | apply ax_L | apply ax_D | apply ax_R)) only [g198_116, g198_117, g198_118, g198_121, g198_122, g198_125, g198_127, g198_130, g198_132, g198_135, g198_136, g198_137, g198_138, g198_141, g198_144, g196_0, g196_1, g196_4, g196_7, g196_8, g196_9, g196_10, g196_13, g196_14, g196_15, g196_18, Option.toList, List.nil_append, List.cons_append, va_rf, nI_ltI, nI_leI, nI_eq, nI_add, nI_sub, nI_lt0, nI_e0, nI_m1, m1_nI, Nat.reduceEqDiff, Nat.reduceLT, Nat.reduceLeDiff, Nat.reduceAdd, Nat.reduceSub, Nat.reduceMul, ↓reduceIte, eq_self, hI_I, hI_L, hI_D, hI_R, hL_I, hL_L, hL_D, hL_R, hD_I, hD_L, hD_D, hD_R, hR_I, hR_L, hR_D, ↓reduceIte, Nat.reduceEqDiff, P, F, show ¬ lx_G t n q - q ≤ 18 by omega]
        exact Iff.rfl
      · exact fr_I (fr_I (fr_I (fr_I fr_refl rfl) rfl) rfl) rfl
      · refine ⟨fun q => absurd hK q, fun _ => ?_, MA_k (MA_k k1 (by omega)) (by omega), fun _ => rfl⟩
        simp only [MB, hI_I, hI_L, hI_D, hI_R, hL_I, hL_L, hL_D, hL_R, hD_I, hD_L, hD_D, hD_R, hR_I, hR_L, hR_D, ↓reduceIte, Nat.reduceEqDiff, P, true_and]
        exact ⟨q, _, 3, by omega, rfl, by omega, by omega, rfl, by decide, rfl, by omega⟩
    · rw [if_neg h18] at hK
      apply Exists.intro
      refine ⟨fun Q => ?_, ?_, ?_⟩
      · rw [W0, W]
        simp (disch := first | with_reducible assumption | omega | exact Or.inl rfl | exact Or.inr rfl | exact bI_01 | exact c_cat | rfl | with_reducible repeat (first | assumption | apply S_I | apply S_L | apply S_D | apply ob_I | apply ob_L | apply ob_D | apply ob_R | apply ax_I | apply ax_L | apply ax_D | apply ax_R)) only [g198_116, g198_117, g198_118, g198_121, g198_122, g198_125, g198_127, g198_130, g198_132, g198_135, g198_136, g198_137, g198_138, g198_141, g198_144, g196_0, g196_1, g196_4, g196_7, g196_8, g196_9, g196_10, g196_13, g196_14, g196_15, g196_18, Option.toList, List.nil_append, List.cons_append, va_rf, nI_ltI, nI_leI, nI_eq, nI_add, nI_sub, nI_lt0, nI_e0, nI_m1, m1_nI, Nat.reduceEqDiff, Nat.reduceLT, Nat.reduceLeDiff, Nat.reduceAdd, Nat.reduceSub, Nat.reduceMul, ↓reduceIte, eq_self, hI_I, hI_L, hI_D, hI_R, hL_I, hL_L, hL_D, hL_R, hD_I, hD_L, hD_D, hD_R, hR_I, hR_L, hR_D, ↓reduceIte, Nat.reduceEqDiff, P, F, show lx_G t n q - q ≤ 18 by omega]
        exact Iff.rfl
      · exact fr_I (fr_I fr_refl rfl) rfl
      · refine ⟨fun _ => ?_, fun q => absurd (hK.symm.trans q) (by decide), k1, fun _ => rfl⟩
        simp only [LM, hI_I, hI_L, hI_D, hI_R, hL_I, hL_L, hL_D, hL_R, hD_I, hD_L, hD_D, hD_R, hR_I, hR_L, hR_D, ↓reduceIte, Nat.reduceEqDiff, P, hK, hE, mtok, Nat.reduceEqDiff, true_and, false_implies, and_self]
  | true =>
    have hpt : ((lx_G t n q < n ∧ t (lx_G t n q) = 46) ∧ lx_G t n q + 1 < n) ∧ isG (t (lx_G t n q + 1)) = true := by simpa only [lx_pt, Bool.and_eq_true, decide_eq_true_eq] using hp
    obtain ⟨⟨⟨p1, p2⟩, p3⟩, p4⟩ := hpt
    have m1 : lx_G t n q + 1 ≤ lx_G t n (lx_G t n q + 1) := scan_ge
    have m2 : lx_G t n (lx_G t n q + 1) ≤ n := scan_le (Nat.le_of_lt p3)
    have hK : lx_K t n q = if 15 < lx_G t n q - q + (lx_G t n (lx_G t n q + 1) - (lx_G t n q + 1)) then 263 else 261 := by
      simp only [lx_K, hKq, hl, hg, hp, ↓reduceIte, Bool.false_eq_true]
    have hE : lx_E t n q = lx_G t n (lx_G t n q + 1) := by simp only [lx_E, hKq, hl, hg, hp, ↓reduceIte, Bool.false_eq_true]
    have b2 : t (lx_G t n q + 1) < 256 := by have := (T.2.2 _ p3).2.1; omega
    have W : ∀ Q, am_J (d + 2) 198 32 [some (.ref 349), none] [] (am_setI (am_setI h 349 18 (nI 3)) 349 17 (nI (lx_G t n q))) Q ↔ am_J (d + 2) 198 116 [some (.ref 349), some (.int (nI (lx_G t n q - q + (lx_G t n (lx_G t n q + 1) - (lx_G t n q + 1)))))] [] (am_setI (am_setI (am_setI (am_setI h 349 18 (nI 3)) 349 17 (nI (lx_G t n q))) 349 18 (nI 4)) 349 17 (nI (lx_G t n (lx_G t n q + 1)))) Q := by
      intro Q
      simp (disch := first | with_reducible assumption | omega | exact Or.inl rfl | exact Or.inr rfl | exact bI_01 | exact c_cat | rfl | with_reducible repeat (first | assumption | apply S_I | apply S_L | apply S_D | apply ob_I | apply ob_L | apply ob_D | apply ob_R | apply ax_I | apply ax_L | apply ax_D | apply ax_R)) only [g198_32, g198_33, g198_36, g198_37, g198_40, g198_41, g198_42, g198_43, g198_44, g198_47, g198_50, g198_52, g198_55, g198_56, g198_57, g198_60, g198_61, g198_62, g198_65, g198_68, g198_71, g198_72, g198_73, g198_76, g198_77, g198_78, g198_81, g198_82, g198_83, N, P, hI_I, hI_L, hI_D, hI_R, hL_I, hL_L, hL_D, hL_R, hD_I, hD_L, hD_D, hD_R, hR_I, hR_L, hR_D, ↓reduceIte, Nat.reduceEqDiff, Option.toList, List.nil_append, List.cons_append, va_rf, m_byteAt, T1, nI_ltI, nI_leI, nI_eq, nI_add, nI_sub, nI_lt0, nI_e0, nI_m1, m1_nI, Nat.reduceEqDiff, Nat.reduceLT, Nat.reduceLeDiff, Nat.reduceAdd, Nat.reduceSub, Nat.reduceMul, ↓reduceIte, eq_self, mA_lt p1, mA_lt p3, p2, m_isG, p4, bI_t]
      have := m_run2 (d := d + 1) (Q := Q) (q := lx_G t n q + 1) (c := lx_G t n q - q) _ (lx_G t n q + 1) (am_setI (am_setI (am_setI (am_setI h 349 18 (nI 3)) 349 17 (nI (lx_G t n q))) 349 18 (nI 4)) 349 17 (nI (lx_G t n q + 1))) rfl (Nat.le_of_lt p3) (Nat.le_refl _) (S_I (S_I (S_I (S_I S)))) (mT_I (mT_I T1 (by decide)) (by decide)) rI_eq
      rw [Nat.sub_self, Nat.add_zero, setI_setI] at this
      exact this
    have k2 := MA_k (j := 17) (x := nI (lx_G t n (lx_G t n q + 1))) (MA_k (j := 18) (x := nI 4) k1 (by omega)) (by omega)
    by_cases h15 : 15 < lx_G t n q - q + (lx_G t n (lx_G t n q + 1) - (lx_G t n q + 1))
    · rw [if_pos h15] at hK
      apply Exists.intro
      refine ⟨fun Q => ?_, ?_, ?_⟩
      · rw [W0, W]
        simp (disch := first | with_reducible assumption | omega | exact Or.inl rfl | exact Or.inr rfl | exact bI_01 | exact c_cat | rfl | with_reducible repeat (first | assumption | apply S_I | apply S_L | apply S_D | apply ob_I | apply ob_L | apply ob_D | apply ob_R | apply ax_I | apply ax_L | apply ax_D | apply ax_R)) only [g198_116, g198_117, g198_118, g198_121, g198_122, g198_125, g198_127, g198_130, g198_132, g198_135, g198_136, g198_137, g198_138, g198_141, g198_144, g196_0, g196_1, g196_4, g196_7, g196_8, g196_9, g196_10, g196_13, g196_14, g196_15, g196_18, Option.toList, List.nil_append, List.cons_append, va_rf, nI_ltI, nI_leI, nI_eq, nI_add, nI_sub, nI_lt0, nI_e0, nI_m1, m1_nI, Nat.reduceEqDiff, Nat.reduceLT, Nat.reduceLeDiff, Nat.reduceAdd, Nat.reduceSub, Nat.reduceMul, ↓reduceIte, eq_self, hI_I, hI_L, hI_D, hI_R, hL_I, hL_L, hL_D, hL_R, hD_I, hD_L, hD_D, hD_R, hR_I, hR_L, hR_D, ↓reduceIte, Nat.reduceEqDiff, P, F, show ¬ lx_G t n q - q + (lx_G t n (lx_G t n q + 1) - (lx_G t n q + 1)) ≤ 15 by omega]
        exact Iff.rfl
      · exact fr_I (fr_I (fr_I (fr_I (fr_I (fr_I fr_refl rfl) rfl) rfl) rfl) rfl) rfl
      · refine ⟨fun q => absurd hK q, fun _ => ?_, MA_k (MA_k k2 (by omega)) (by omega), fun _ => rfl⟩
        simp only [MB, hI_I, hI_L, hI_D, hI_R, hL_I, hL_L, hL_D, hL_R, hD_I, hD_L, hD_D, hD_R, hR_I, hR_L, hR_D, ↓reduceIte, Nat.reduceEqDiff, P, true_and]
        exact ⟨q, _, 4, by omega, rfl, by omega, by omega, rfl, by decide, rfl, by omega⟩
    · rw [if_neg h15] at hK
      apply Exists.intro
      refine ⟨fun Q => ?_, ?_, ?_⟩
      · rw [W0, W]
        simp (disch := first | with_reducible assumption | omega | exact Or.inl rfl | exact Or.inr rfl | exact bI_01 | exact c_cat | rfl | with_reducible repeat (first | assumption | apply S_I | apply S_L | apply S_D | apply ob_I | apply ob_L | apply ob_D | apply ob_R | apply ax_I | apply ax_L | apply ax_D | apply ax_R)) only [g198_116, g198_117, g198_118, g198_121, g198_122, g198_125, g198_127, g198_130, g198_132, g198_135, g198_136, g198_137, g198_138, g198_141, g198_144, g196_0, g196_1, g196_4, g196_7, g196_8, g196_9, g196_10, g196_13, g196_14, g196_15, g196_18, Option.toList, List.nil_append, List.cons_append, va_rf, nI_ltI, nI_leI, nI_eq, nI_add, nI_sub, nI_lt0, nI_e0, nI_m1, m1_nI, Nat.reduceEqDiff, Nat.reduceLT, Nat.reduceLeDiff, Nat.reduceAdd, Nat.reduceSub, Nat.reduceMul, ↓reduceIte, eq_self, hI_I, hI_L, hI_D, hI_R, hL_I, hL_L, hL_D, hL_R, hD_I, hD_L, hD_D, hD_R, hR_I, hR_L, hR_D, ↓reduceIte, Nat.reduceEqDiff, P, F, show lx_G t n q - q + (lx_G t n (lx_G t n q + 1) - (lx_G t n q + 1)) ≤ 15 by omega]
        exact Iff.rfl
      · exact fr_I (fr_I (fr_I (fr_I fr_refl rfl) rfl) rfl) rfl
      · refine ⟨fun _ => ?_, fun q => absurd (hK.symm.trans q) (by decide), k2, fun _ => rfl⟩
        simp only [LM, hI_I, hI_L, hI_D, hI_R, hL_I, hL_L, hL_D, hL_R, hD_I, hD_L, hD_D, hD_R, hR_I, hR_L, hR_D, ↓reduceIte, Nat.reduceEqDiff, P, hK, hE, mtok, Nat.reduceEqDiff, true_and, false_implies, and_self]
end LEXM

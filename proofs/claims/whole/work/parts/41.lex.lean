/-! THE LEXER, as functions on the text; the class's lexer -/
def am_sc (P : Nat → Bool) (n : Nat) : Nat → Nat → Nat
  | 0, p => p
  | f + 1, p => if p < n ∧ P p = true then am_sc P n f (p + 1) else p
def am_scan (P : Nat → Bool) (n p : Nat) : Nat := am_sc P n (n - p) p
section SCN
variable {P : Nat → Bool} {n p j : Nat}
theorem scan_step (h1 : p < n) (h2 : P p = true) : am_scan P n p = am_scan P n (p + 1) := by
  unfold am_scan
  obtain ⟨m, e⟩ : ∃ m, n - p = m + 1 := ⟨n - p - 1, by omega⟩
  rw [e, show n - (p + 1) = m by omega]
  show (if p < n ∧ P p = true then am_sc P n m (p + 1) else p) = _
  rw [if_pos ⟨h1, h2⟩]
theorem scan_stop (h : ¬ (p < n ∧ P p = true)) : am_scan P n p = p := by
  unfold am_scan
  cases n - p with
  | zero => rfl
  | succ m =>
    show (if p < n ∧ P p = true then am_sc P n m (p + 1) else p) = _
    rw [if_neg h]
theorem scan_all : ∀ m p, n - p = m → p ≤ am_scan P n p ∧ (p ≤ n → am_scan P n p ≤ n) ∧ (∀ j, p ≤ j → j < am_scan P n p → j < n ∧ P j = true) ∧ ¬ (am_scan P n p < n ∧ P (am_scan P n p) = true) := by
  intro m
  induction m with
  | zero =>
    intro p hp
    have h0 : ¬ (p < n ∧ P p = true) := fun q => by omega
    rw [scan_stop h0]
    exact ⟨Nat.le_refl _, fun q => q, fun j h1 h2 => by omega, h0⟩
  | succ m ih =>
    intro p hp
    by_cases h0 : p < n ∧ P p = true
    · rw [scan_step h0.1 h0.2]
      obtain ⟨i1, i2, i3, i4⟩ := ih (p + 1) (by omega)
      refine ⟨by omega, fun q => i2 (by omega), fun j h1 h2 => ?_, i4⟩
      rcases Nat.eq_or_lt_of_le h1 with e | e
      · exact e ▸ h0
      · exact i3 j e h2
    · rw [scan_stop h0]
      exact ⟨Nat.le_refl _, fun q => q, fun j h1 h2 => by omega, h0⟩
theorem scan_ge : p ≤ am_scan P n p := (scan_all _ p rfl).1
theorem scan_le (h : p ≤ n) : am_scan P n p ≤ n := (scan_all _ p rfl).2.1 h
theorem scan_in (h1 : p ≤ j) (h2 : j < am_scan P n p) : j < n ∧ P j = true := (scan_all _ p rfl).2.2.1 j h1 h2
theorem scan_end : ¬ (am_scan P n p < n ∧ P (am_scan P n p) = true) := (scan_all _ p rfl).2.2.2
end SCN
def isL (k : Nat) : Bool := decide (97 ≤ k) && decide (k ≤ 122)
def isG (k : Nat) : Bool := decide (48 ≤ k) && decide (k ≤ 57)
/-- digits of base B, each less o -/
def lx_w (B o : Nat) (t : Nat → Nat) (q : Nat) : Nat → Nat
  | 0 => 0
  | m + 1 => lx_w B o t q m * B + (t (q + m) - o)
def lx_q (t : Nat → Nat) (n p : Nat) : Nat := am_scan (fun j => decide (t j = 32)) n p
def lx_L (t : Nat → Nat) (n q : Nat) : Nat := am_scan (fun j => isL (t j)) n q
def lx_G (t : Nat → Nat) (n q : Nat) : Nat := am_scan (fun j => isG (t j)) n q
/-- a point with a digit behind it -/
def lx_pt (t : Nat → Nat) (n e : Nat) : Bool := decide (e < n) && decide (t e = 46) && decide (e + 1 < n) && isG (t (e + 1))
def lx_rf (t : Nat → Nat) (n q : Nat) : Bool := decide (q + 2 < n) && decide (97 ≤ t (q + 1)) && decide (t (q + 1) ≤ 104) && decide (48 ≤ t (q + 2)) && decide (t (q + 2) ≤ 55)
def lx_sg (k : Nat) : Bool := decide (k ∈ [37, 40, 41, 42, 43, 44, 45, 47, 58, 60, 61])
/-- the token at q, by the class's numbers; 263: a fault -/
def lx_K (t : Nat → Nat) (n q : Nat) : Nat :=
  if n ≤ q then 262
  else if isL (t q) = true then (if 8 < lx_L t n q - q then 263 else 258)
  else if isG (t q) = true then
    (if lx_pt t n (lx_G t n q) = true then (if 15 < lx_G t n q - q + (lx_G t n (lx_G t n q + 1) - (lx_G t n q + 1)) then 263 else 261)
     else if 18 < lx_G t n q - q then 263 else 260)
  else if 65 ≤ t q ∧ t q ≤ 68 then (if lx_rf t n q = true then 259 else 263)
  else if t q = 60 ∧ q + 1 < n ∧ t (q + 1) = 61 then 256
  else if t q = 60 ∧ q + 1 < n ∧ t (q + 1) = 62 then 257
  else if lx_sg (t q) = true then t q else 263
/-- where the token at q ends -/
def lx_E (t : Nat → Nat) (n q : Nat) : Nat :=
  if n ≤ q then q
  else if isL (t q) = true then lx_L t n q
  else if isG (t q) = true then (if lx_pt t n (lx_G t n q) = true then lx_G t n (lx_G t n q + 1) else lx_G t n q)
  else if 65 ≤ t q ∧ t q ≤ 68 then q + 3
  else if t q = 60 ∧ q + 1 < n ∧ (t (q + 1) = 61 ∨ t (q + 1) = 62) then q + 2
  else q + 1
/-- digits behind the point; the number's digits as one number -/
def lx_b (t : Nat → Nat) (n q : Nat) : Nat := if lx_pt t n (lx_G t n q) = true then lx_G t n (lx_G t n q + 1) - (lx_G t n q + 1) else 0
def lx_v (t : Nat → Nat) (n q : Nat) : Nat := if lx_pt t n (lx_G t n q) = true then lx_w 10 48 t q (lx_G t n q - q) * 10 ^ lx_b t n q + lx_w 10 48 t (lx_G t n q + 1) (lx_b t n q) else lx_w 10 48 t q (lx_G t n q - q)
def lx_c (t : Nat → Nat) (q : Nat) : Nat := 64 * (t q - 65) + 8 * (t (q + 2) - 48) + (t (q + 1) - 97)
/-- the text at the class -/
def xT (h : am_H) (t : Nat → Nat) (n : Nat) : Prop := am_R h 302 0 = some 5 ∧ am_I h 5 1 = nI n ∧ n ≤ 240 ∧ ∀ j, j < n → 1 ≤ t j ∧ t j ≤ 255 ∧ am_I h 6 j = by8 (t j)
def tA (t : Nat → Nat) (n i : Nat) : Int32 := if i < n then nI (t i) else -1
section LEXX
variable {d : Nat} {h : am_H} {Q : Option Value → am_H → Prop} {v0 v1 v2 v3 : Option Value} {t : Nat → Nat} {n p q : Nat}
theorem xT_fr {P : Nat → Prop} {g : am_H} (F : am_fr P h g) (h5 : ¬ P 5) (h6 : ¬ P 6) (T : xT h t n) : xT g t n := by
  obtain ⟨T1, T2, T3, T4⟩ := T
  refine ⟨by rw [fr_rdR F]; exact T1, by rw [fr_rdI F h5]; exact T2, T3, fun j hj => ?_⟩
  rw [fr_rdI F h6]
  exact T4 j hj
theorem x_isL {k : Nat} (hk : k < 256) : am_J d 23 0 [some (.int (nI k))] [] h Q ↔ Q (some (.int (bI (isL k)))) h := by
  simp (disch := first | with_reducible assumption | omega | exact Or.inl rfl | exact Or.inr rfl | exact bI_01 | rfl | with_reducible repeat (first | assumption | apply S_I | apply S_L | apply S_D | apply ob_I | apply ob_L | apply ob_D | apply ob_R | apply ax_I | apply ax_L | apply ax_D | apply ax_R)) only [g23_0, g23_1, g23_3, g23_6, g23_7, g23_9, g23_12, g23_13, g23_16, g23_17, nI_ltI, nI_leI, nI_eq, nI_add, nI_sub, nI_lt0, nI_e0, nI_m1, m1_nI]
  by_cases h1 : k < 97
  · simp only [h1, ↓reduceIte, show isL k = false by simp [isL]; omega, bI_f]
  · by_cases h2 : 122 < k
    · simp only [h1, h2, ↓reduceIte, show isL k = false by simp [isL]; omega, bI_f]
    · simp only [h1, h2, ↓reduceIte, show isL k = true by simp [isL]; omega, bI_t]
theorem x_isG {k : Nat} (hk : k < 256) : am_J d 26 0 [some (.int (nI k))] [] h Q ↔ Q (some (.int (bI (isG k)))) h := by
  simp (disch := first | with_reducible assumption | omega | exact Or.inl rfl | exact Or.inr rfl | exact bI_01 | rfl | with_reducible repeat (first | assumption | apply S_I | apply S_L | apply S_D | apply ob_I | apply ob_L | apply ob_D | apply ob_R | apply ax_I | apply ax_L | apply ax_D | apply ax_R)) only [g26_0, g26_1, g26_3, g26_6, g26_7, g26_9, g26_12, g26_13, g26_16, g26_17, nI_ltI, nI_leI, nI_eq, nI_add, nI_sub, nI_lt0, nI_e0, nI_m1, m1_nI]
  by_cases h1 : k < 48
  · simp only [h1, ↓reduceIte, show isG k = false by simp [isG]; omega, bI_f]
  · by_cases h2 : 57 < k
    · simp only [h1, h2, ↓reduceIte, show isG k = false by simp [isG]; omega, bI_f]
    · simp only [h1, h2, ↓reduceIte, show isG k = true by simp [isG]; omega, bI_t]
theorem x_isGm : am_J d 26 0 [some (.int (-1))] [] h Q ↔ Q (some (.int (nI 0))) h := by
  simp (disch := first | with_reducible assumption | omega | exact Or.inl rfl | exact Or.inr rfl | exact bI_01 | rfl | with_reducible repeat (first | assumption | apply S_I | apply S_L | apply S_D | apply ob_I | apply ob_L | apply ob_D | apply ob_R | apply ax_I | apply ax_L | apply ax_D | apply ax_R)) only [g26_0, g26_1, g26_3, g26_6, g26_7, g26_9, g26_12, g26_13, g26_16, g26_17, show ((-1 : Int32) < nI 48) = True by decide, ↓reduceIte]
theorem x_at5 (S : am_S h) (T : xT h t n) {i : Nat} (hi : i < 2 ^ 31) : am_J d 135 0 [some (.ref 5), some (.int (nI i))] [] h Q ↔ Q (some (.int (tA t n i))) h := by
  have O5 := am_S_ob (a := 5) (c := 10) S (by decide +kernel)
  have R5 := am_S_rf (a := 5) (k := 0) (b := 6) S (by decide +kernel)
  obtain ⟨T1, T2, T3, T4⟩ := T
  by_cases hn : i < n
  · have X := am_S_ax (a := 6) (kd := 103) (n := 240) (q := i) S (by decide +kernel) (by omega) (by decide)
    obtain ⟨t1, t2, t3⟩ := T4 i hn
    simp (disch := first | with_reducible assumption | omega | exact Or.inl rfl | exact Or.inr rfl | exact bI_01 | rfl | with_reducible repeat (first | assumption | apply S_I | apply S_L | apply S_D | apply ob_I | apply ob_L | apply ob_D | apply ob_R | apply ax_I | apply ax_L | apply ax_D | apply ax_R)) only [g135_0, g135_1, g135_4, g135_5, g135_6, g135_9, g135_12, g135_13, g135_16, g135_17, g135_18, g135_21, g135_22, g135_25, g135_26, nI_ltI, nI_leI, nI_eq, nI_add, nI_sub, nI_lt0, nI_e0, nI_m1, m1_nI, T2, R5, va_rf, hn, ↓reduceIte, t3, tA, by8_and, show ¬ n ≤ i by omega]
  · simp (disch := first | with_reducible assumption | omega | exact Or.inl rfl | exact Or.inr rfl | exact bI_01 | rfl | with_reducible repeat (first | assumption | apply S_I | apply S_L | apply S_D | apply ob_I | apply ob_L | apply ob_D | apply ob_R | apply ax_I | apply ax_L | apply ax_D | apply ax_R)) only [g135_0, g135_1, g135_4, g135_5, g135_6, g135_9, g135_12, g135_13, g135_16, g135_17, g135_18, g135_21, g135_22, g135_25, g135_26, nI_ltI, nI_leI, nI_eq, nI_add, nI_sub, nI_lt0, nI_e0, nI_m1, m1_nI, T2, hn, ↓reduceIte, tA, show n ≤ i by omega]
theorem xT_I {a k : Nat} {x : Int32} (T : xT h t n) (h5 : a ≠ 5) (h6 : a ≠ 6) : xT (am_setI h a k x) t n := ⟨T.1, by rw [rI_a (Ne.symm h5)]; exact T.2.1, T.2.2.1, fun j hj => by rw [rI_a (Ne.symm h6)]; exact T.2.2.2 j hj⟩
theorem xT_L {a k : Nat} {x : Int64} (T : xT h t n) : xT (am_setL h a k x) t n := T
theorem tA_lt (hp : p < n) : tA t n p = nI (t p) := if_pos hp
theorem tA_ge (hp : n ≤ p) : tA t n p = -1 := if_neg (Nat.not_lt.mpr hp)
theorem x_skip : ∀ m p g, n - p = m → p ≤ n → am_S g → xT g t n → am_I g 302 1 = nI p → (am_J (d + 1) 22 11 [some (.ref 302), v1] [] g Q ↔ am_J (d + 1) 22 54 [some (.ref 302), v1] [] (am_setI g 302 1 (nI (lx_q t n p))) Q) := by
  intro m
  induction m with
  | zero =>
    intro p g hm hp S T N
    have hT := T.2.1
    have hR := T.1
    have O5 := am_S_ob (a := 5) (c := 10) S (by decide +kernel)
    have h240 := T.2.2.1
    rw [show lx_q t n p = p from scan_stop (fun q => by omega), setI_same N, g22_11]
    simp (disch := first | with_reducible assumption | omega | exact Or.inl rfl | exact Or.inr rfl | exact bI_01 | rfl | with_reducible repeat (first | assumption | apply S_I | apply S_L | apply S_D | apply ob_I | apply ob_L | apply ob_D | apply ob_R | apply ax_I | apply ax_L | apply ax_D | apply ax_R)) only [g22_12, g22_15, g22_16, g22_19, g22_22, N, hT, hR, va_rf, nI_ltI, nI_leI, nI_eq, nI_add, nI_sub, nI_lt0, nI_e0, nI_m1, m1_nI, show n ≤ p by omega, ↓reduceIte]
  | succ m ih =>
    intro p g hm hp S T N
    have hT := T.2.1
    have hR := T.1
    have O5 := am_S_ob (a := 5) (c := 10) S (by decide +kernel)
    have h240 := T.2.2.1
    obtain ⟨t1, t2, t3⟩ := T.2.2.2 p (by omega)
    by_cases h0 : t p = 32
    · rw [show lx_q t n p = lx_q t n (p + 1) from scan_step (by omega) (decide_eq_true h0), g22_11]
      have T1 : xT (am_setI g 302 1 (nI (p + 1))) t n := xT_I T (by decide) (by decide)
      simp (disch := first | with_reducible assumption | omega | exact Or.inl rfl | exact Or.inr rfl | exact bI_01 | rfl | with_reducible repeat (first | assumption | apply S_I | apply S_L | apply S_D | apply ob_I | apply ob_L | apply ob_D | apply ob_R | apply ax_I | apply ax_L | apply ax_D | apply ax_R)) only [g22_12, g22_15, g22_16, g22_19, g22_22, g22_25, g22_26, g22_29, g22_30, g22_33, g22_36, g22_38, g22_41, g22_42, g22_43, g22_46, g22_47, g22_48, g22_51, N, hT, hR, Option.toList, List.nil_append, List.cons_append, va_rf, nI_ltI, nI_leI, nI_eq, nI_add, nI_sub, nI_lt0, nI_e0, nI_m1, m1_nI, show ¬ n ≤ p by omega, ↓reduceIte, x_at5, tA_lt, h0]
      rw [ih (p + 1) _ (by omega) (by omega) (S_I S) T1 rI_eq, setI_setI]
    · rw [show lx_q t n p = p from scan_stop (fun q => h0 (of_decide_eq_true q.2)), setI_same N, g22_11]
      simp (disch := first | with_reducible assumption | omega | exact Or.inl rfl | exact Or.inr rfl | exact bI_01 | rfl | with_reducible repeat (first | assumption | apply S_I | apply S_L | apply S_D | apply ob_I | apply ob_L | apply ob_D | apply ob_R | apply ax_I | apply ax_L | apply ax_D | apply ax_R)) only [g22_12, g22_15, g22_16, g22_19, g22_22, g22_25, g22_26, g22_29, g22_30, g22_33, g22_36, g22_38, g22_41, g22_42, g22_43, g22_46, g22_47, g22_48, g22_51, N, hT, hR, Option.toList, List.nil_append, List.cons_append, va_rf, nI_ltI, nI_leI, nI_eq, nI_add, nI_sub, nI_lt0, nI_e0, nI_m1, m1_nI, show ¬ n ≤ p by omega, ↓reduceIte, x_at5, tA_lt, h0]
end LEXX

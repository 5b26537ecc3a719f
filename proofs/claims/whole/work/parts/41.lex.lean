/-! THE LEXER, as functions on the text; the class's lexer -/
def am_sc (P : Nat → Bool) (n : Nat) : Nat → Nat → Nat
  | 0, p => p
  | f + 1, p => if p < n ∧ P p = true then am_sc P n f (p + 1) else p
def am_scan (P : Nat → Bool) (n p : Nat) : Nat := am_sc P n (n - p) p
section SCN
variable {P : Nat → Bool} {n p j : Nat}
theorem scan_step (h1 : p < n) (h2 : P p = true) : am_scan P n p = am_scan P n (p + 1) := by
  unfold am_scan
  obtain ⟨m, e⟩ : ∃ m, n - p = m + 1 := ⟨n - p - 1, by omega⟩
  rw [e, show n - (p + 1) = m by omega]
  show (if p < n ∧ P p = true then am_sc P n m (p + 1) else p) = _
  rw [if_pos ⟨h1, h2⟩]
theorem scan_stop (h : ¬ (p < n ∧ P p = true)) : am_scan P n p = p := by
  unfold am_scan
  cases n - p with
  | zero => rfl
  | succ m =>
    show (if p < n ∧ P p = true then am_sc P n m (p + 1) else p) = _
    rw [if_neg h]
theorem scan_all : ∀ m p, n - p = m → p ≤ am_scan P n p ∧ (p ≤ n → am_scan P n p ≤ n) ∧ (∀ j, p ≤ j → j < am_scan P n p → j < n ∧ P j = true) ∧ ¬ (am_scan P n p < n ∧ P (am_scan P n p) = true) := by
  intro m
  induction m with
  | zero =>
    intro p hp
    have h0 : ¬ (p < n ∧ P p = true) := fun q => by omega
    rw [scan_stop h0]
    exact ⟨Nat.le_refl _, fun q => q, fun j h1 h2 => by omega, h0⟩
  | succ m ih =>
    intro p hp
    by_cases h0 : p < n ∧ P p = true
    · rw [scan_step h0.1 h0.2]
      obtain ⟨i1, i2, i3, i4⟩ := ih (p + 1) (by omega)
      refine ⟨by omega, fun q => i2 (by omega), fun j h1 h2 => ?_, i4⟩
      rcases Nat.eq_or_lt_of_le h1 with e | e
      · exact e ▸ h0
      · exact i3 j e h2
    · rw [scan_stop h0]
      exact ⟨Nat.le_refl _, fun q => q, fun j h1 h2 => by omega, h0⟩
theorem scan_ge : p ≤ am_scan P n p := (scan_all _ p rfl).1
theorem scan_le (h : p ≤ n) : am_scan P n p ≤ n := (scan_all _ p rfl).2.1 h
theorem scan_in (h1 : p ≤ j) (h2 : j < am_scan P n p) : j < n ∧ P j = true := (scan_all _ p rfl).2.2.1 j h1 h2
theorem scan_end : ¬ (am_scan P n p < n ∧ P (am_scan P n p) = true) := (scan_all _ p rfl).2.2.2
end SCN
def isL (k : Nat) : Bool := decide (97 ≤ k) && decide (k ≤ 122)
def isG (k : Nat) : Bool := decide (48 ≤ k) && decide (k ≤ 57)
/-- digits of base B, each less o -/
def lx_w (B o : Nat) (t : Nat → Nat) (q : Nat) : Nat → Nat
  | 0 => 0
  | m + 1 => lx_w B o t q m * B + (t (q + m) - o)
def lx_q (t : Nat → Nat) (n p : Nat) : Nat := am_scan (fun j => decide (t j = 32)) n p
def lx_L (t : Nat → Nat) (n q : Nat) : Nat := am_scan (fun j => isL (t j)) n q
def lx_G (t : Nat → Nat) (n q : Nat) : Nat := am_scan (fun j => isG (t j)) n q
/-- a point with a digit behind it -/
def lx_pt (t : Nat → Nat) (n e : Nat) : Bool := decide (e < n) && decide (t e = 46) && decide (e + 1 < n) && isG (t (e + 1))
def lx_rf (t : Nat → Nat) (n q : Nat) : Bool := decide (q + 2 < n) && decide (97 ≤ t (q + 1)) && decide (t (q + 1) ≤ 104) && decide (48 ≤ t (q + 2)) && decide (t (q + 2) ≤ 55)
def lx_sg (k : Nat) : Bool := decide (k ∈ [37, 40, 41, 42, 43, 44, 45, 47, 58, 60, 61])
/-- the token at q, by the class's numbers; 263: a fault -/
def lx_K (t : Nat → Nat) (n q : Nat) : Nat :=
  if n ≤ q then 262
  else if isL (t q) = true then (if 8 < lx_L t n q - q then 263 else 258)
  else if isG (t q) = true then
    (if lx_pt t n (lx_G t n q) = true then (if 15 < lx_G t n q - q + (lx_G t n (lx_G t n q + 1) - (lx_G t n q + 1)) then 263 else 261)
     else if 18 < lx_G t n q - q then 263 else 260)
  else if 65 ≤ t q ∧ t q ≤ 68 then (if lx_rf t n q = true then 259 else 263)
  else if t q = 60 ∧ q + 1 < n ∧ t (q + 1) = 61 then 256
  else if t q = 60 ∧ q + 1 < n ∧ t (q + 1) = 62 then 257
  else if lx_sg (t q) = true then t q else 263
/-- where the token at q ends -/
def lx_E (t : Nat → Nat) (n q : Nat) : Nat :=
  if n ≤ q then q
  else if isL (t q) = true then lx_L t n q
  else if isG (t q) = true then (if lx_pt t n (lx_G t n q) = true then lx_G t n (lx_G t n q + 1) else lx_G t n q)
  else if 65 ≤ t q ∧ t q ≤ 68 then q + 3
  else if t q = 60 ∧ q + 1 < n ∧ (t (q + 1) = 61 ∨ t (q + 1) = 62) then q + 2
  else q + 1
/-- digits behind the point; the number's digits as one number -/
def lx_b (t : Nat → Nat) (n q : Nat) : Nat := if lx_pt t n (lx_G t n q) = true then lx_G t n (lx_G t n q + 1) - (lx_G t n q + 1) else 0
def lx_v (t : Nat → Nat) (n q : Nat) : Nat := if lx_pt t n (lx_G t n q) = true then lx_w 10 48 t q (lx_G t n q - q) * 10 ^ lx_b t n q + lx_w 10 48 t (lx_G t n q + 1) (lx_b t n q) else lx_w 10 48 t q (lx_G t n q - q)
def lx_c (t : Nat → Nat) (q : Nat) : Nat := 64 * (t q - 65) + 8 * (t (q + 2) - 48) + (t (q + 1) - 97)
/-- the text at the class -/
def xT (h : am_H) (t : Nat → Nat) (n : Nat) : Prop := am_R h 302 0 = some 5 ∧ am_I h 5 1 = nI n ∧ n ≤ 240 ∧ ∀ j, j < n → 1 ≤ t j ∧ t j ≤ 255 ∧ am_I h 6 j = by8 (t j)
def tA (t : Nat → Nat) (n i : Nat) : Int32 := if i < n then nI (t i) else -1
section LEXX
variable {d : Nat} {h : am_H} {Q : Option Value → am_H → Prop} {v0 v1 v2 v3 : Option Value} {t : Nat → Nat} {n p q : Nat}
theorem nI_mul (a b : Nat) : nI a * nI b = nI (a * b) := by
  apply Int32.toBitVec_inj.mp
  rw [Int32.toBitVec_mul]
  show BitVec.ofNat 32 a * BitVec.ofNat 32 b = BitVec.ofNat 32 (a * b)
  rw [BitVec.ofNat_mul]
theorem xT_fr {P : Nat → Prop} {g : am_H} (F : am_fr P h g) (h5 : ¬ P 5) (h6 : ¬ P 6) (T : xT h t n) : xT g t n := by
  obtain ⟨T1, T2, T3, T4⟩ := T
  refine ⟨by rw [fr_rdR F]; exact T1, by rw [fr_rdI F h5]; exact T2, T3, fun j hj => ?_⟩
  rw [fr_rdI F h6]
  exact T4 j hj
theorem x_isL {k : Nat} (hk : k < 256) : am_J d 23 0 [some (.int (nI k))] [] h Q ↔ Q (some (.int (bI (isL k)))) h := by
  simp (disch := first | with_reducible assumption | omega | exact Or.inl rfl | exact Or.inr rfl | exact bI_01 | exact c_cat | rfl | with_reducible repeat (first | assumption | apply S_I | apply S_L | apply S_D | apply ob_I | apply ob_L | apply ob_D | apply ob_R | apply ax_I | apply ax_L | apply ax_D | apply ax_R)) only [g23_0, g23_1, g23_3, g23_6, g23_7, g23_9, g23_12, g23_13, g23_16, g23_17, nI_ltI, nI_leI, nI_eq, nI_add, nI_sub, nI_lt0, nI_e0, nI_m1, m1_nI, Nat.reduceEqDiff, Nat.reduceLT, Nat.reduceLeDiff, Nat.reduceAdd, Nat.reduceSub, Nat.reduceMul, ↓reduceIte, eq_self]
  by_cases h1 : k < 97
  · simp only [h1, ↓reduceIte, show isL k = false by simp [isL]; omega, bI_f]
  · by_cases h2 : 122 < k
    · simp only [h1, h2, ↓reduceIte, show isL k = false by simp [isL]; omega, bI_f]
    · simp only [h1, h2, ↓reduceIte, show isL k = true by simp [isL]; omega, bI_t]
theorem x_isG {k : Nat} (hk : k < 256) : am_J d 26 0 [some (.int (nI k))] [] h Q ↔ Q (some (.int (bI (isG k)))) h := by
  simp (disch := first | with_reducible assumption | omega | exact Or.inl rfl | exact Or.inr rfl | exact bI_01 | exact c_cat | rfl | with_reducible repeat (first | assumption | apply S_I | apply S_L | apply S_D | apply ob_I | apply ob_L | apply ob_D | apply ob_R | apply ax_I | apply ax_L | apply ax_D | apply ax_R)) only [g26_0, g26_1, g26_3, g26_6, g26_7, g26_9, g26_12, g26_13, g26_16, g26_17, nI_ltI, nI_leI, nI_eq, nI_add, nI_sub, nI_lt0, nI_e0, nI_m1, m1_nI, Nat.reduceEqDiff, Nat.reduceLT, Nat.reduceLeDiff, Nat.reduceAdd, Nat.reduceSub, Nat.reduceMul, ↓reduceIte, eq_self]
  by_cases h1 : k < 48
  · simp only [h1, ↓reduceIte, show isG k = false by simp [isG]; omega, bI_f]
  · by_cases h2 : 57 < k
    · simp only [h1, h2, ↓reduceIte, show isG k = false by simp [isG]; omega, bI_f]
    · simp only [h1, h2, ↓reduceIte, show isG k = true by simp [isG]; omega, bI_t]
theorem x_isGm : am_J d 26 0 [some (.int (-1))] [] h Q ↔ Q (some (.int (nI 0))) h := by
  simp (disch := first | with_reducible assumption | omega | exact Or.inl rfl | exact Or.inr rfl | exact bI_01 | exact c_cat | rfl | with_reducible repeat (first | assumption | apply S_I | apply S_L | apply S_D | apply ob_I | apply ob_L | apply ob_D | apply ob_R | apply ax_I | apply ax_L | apply ax_D | apply ax_R)) only [g26_0, g26_1, g26_3, g26_6, g26_7, g26_9, g26_12, g26_13, g26_16, g26_17, show ((-1 : Int32) < nI 48) = True by decide, ↓reduceIte]
theorem x_at5 (S : am_S h) (T : xT h t n) {i : Nat} (hi : i < 2 ^ 31) : am_J d 135 0 [some (.ref 5), some (.int (nI i))] [] h Q ↔ Q (some (.int (tA t n i))) h := by
  have O5 := am_S_ob (a := 5) (c := 10) S (by decide +kernel)
  have R5 := am_S_rf (a := 5) (k := 0) (b := 6) S (by decide +kernel)
  obtain ⟨T1, T2, T3, T4⟩ := T
  by_cases hn : i < n
  · have X := am_S_ax (a := 6) (kd := 103) (n := 240) (q := i) S (by decide +kernel) (by omega) (by decide)
    obtain ⟨t1, t2, t3⟩ := T4 i hn
    simp (disch := first | with_reducible assumption | omega | exact Or.inl rfl | exact Or.inr rfl | exact bI_01 | exact c_cat | rfl | with_reducible repeat (first | assumption | apply S_I | apply S_L | apply S_D | apply ob_I | apply ob_L | apply ob_D | apply ob_R | apply ax_I | apply ax_L | apply ax_D | apply ax_R)) only [g135_0, g135_1, g135_4, g135_5, g135_6, g135_9, g135_12, g135_13, g135_16, g135_17, g135_18, g135_21, g135_22, g135_25, g135_26, nI_ltI, nI_leI, nI_eq, nI_add, nI_sub, nI_lt0, nI_e0, nI_m1, m1_nI, Nat.reduceEqDiff, Nat.reduceLT, Nat.reduceLeDiff, Nat.reduceAdd, Nat.reduceSub, Nat.reduceMul, ↓reduceIte, eq_self, T2, R5, va_rf, hn, ↓reduceIte, t3, tA, by8_and, show ¬ n ≤ i by omega]
  · simp (disch := first | with_reducible assumption | omega | exact Or.inl rfl | exact Or.inr rfl | exact bI_01 | exact c_cat | rfl | with_reducible repeat (first | assumption | apply S_I | apply S_L | apply S_D | apply ob_I | apply ob_L | apply ob_D | apply ob_R | apply ax_I | apply ax_L | apply ax_D | apply ax_R)) only [g135_0, g135_1, g135_4, g135_5, g135_6, g135_9, g135_12, g135_13, g135_16, g135_17, g135_18, g135_21, g135_22, g135_25, g135_26, nI_ltI, nI_leI, nI_eq, nI_add, nI_sub, nI_lt0, nI_e0, nI_m1, m1_nI, Nat.reduceEqDiff, Nat.reduceLT, Nat.reduceLeDiff, Nat.reduceAdd, Nat.reduceSub, Nat.reduceMul, ↓reduceIte, eq_self, T2, hn, ↓reduceIte, tA, show n ≤ i by omega]
theorem xT_I {a k : Nat} {x : Int32} (T : xT h t n) (h5 : a ≠ 5) (h6 : a ≠ 6) : xT (am_setI h a k x) t n := ⟨T.1, by rw [rI_a (Ne.symm h5)]; exact T.2.1, T.2.2.1, fun j hj => by rw [rI_a (Ne.symm h6)]; exact T.2.2.2 j hj⟩
theorem xT_L {a k : Nat} {x : Int64} (T : xT h t n) : xT (am_setL h a k x) t n := T
theorem tA_lt (hp : p < n) : tA t n p = nI (t p) := if_pos hp
theorem tA_ge (hp : n ≤ p) : tA t n p = -1 := if_neg (Nat.not_lt.mpr hp)
theorem nI_subneg {a b : Nat} (h : a < b) (hb : b < 2 ^ 31) : nI a - nI b < 0 := by
  rw [Int32.lt_iff_toInt_lt, Int32.toInt_sub, nI_toInt (by omega), nI_toInt hb, Int.bmod_eq_of_le (by omega) (by omega), show (0 : Int32).toInt = 0 by decide]
  omega
theorem tA_sub {b : Nat} (h0 : ¬ tA t n p - nI b < 0) (hb : b < 200) : p < n ∧ b ≤ t p := by
  by_cases c : p < n
  · refine ⟨c, Nat.not_lt.mp (fun q => h0 ?_)⟩
    rw [tA_lt c]; exact nI_subneg q (by omega)
  · rw [tA_ge (by omega)] at h0
    have : ∀ b, b < 200 → (-1 : Int32) - nI b < 0 := by decide +kernel
    exact absurd (this b hb) h0
theorem x_skip : ∀ m p g, n - p = m → p ≤ n → am_S g → xT g t n → am_I g 302 1 = nI p → (am_J (d + 1) 22 11 [some (.ref 302), v1] [] g Q ↔ am_J (d + 1) 22 54 [some (.ref 302), v1] [] (am_setI g 302 1 (nI (lx_q t n p))) Q) := by
  intro m
  induction m with
  | zero =>
    intro p g hm hp S T N
    have hT := T.2.1
    have hR := T.1
    have O5 := am_S_ob (a := 5) (c := 10) S (by decide +kernel)
    have h240 := T.2.2.1
    rw [show lx_q t n p = p from scan_stop (fun q => by omega), setI_same N, g22_11]
    simp (disch := first | with_reducible assumption | omega | exact Or.inl rfl | exact Or.inr rfl | exact bI_01 | exact c_cat | rfl | with_reducible repeat (first | assumption | apply S_I | apply S_L | apply S_D | apply ob_I | apply ob_L | apply ob_D | apply ob_R | apply ax_I | apply ax_L | apply ax_D | apply ax_R)) only [g22_12, g22_15, g22_16, g22_19, g22_22, N, hT, hR, va_rf, nI_ltI, nI_leI, nI_eq, nI_add, nI_sub, nI_lt0, nI_e0, nI_m1, m1_nI, Nat.reduceEqDiff, Nat.reduceLT, Nat.reduceLeDiff, Nat.reduceAdd, Nat.reduceSub, Nat.reduceMul, ↓reduceIte, eq_self, show n ≤ p by omega, ↓reduceIte]
  | succ m ih =>
    intro p g hm hp S T N
    have hT := T.2.1
    have hR := T.1
    have O5 := am_S_ob (a := 5) (c := 10) S (by decide +kernel)
    have h240 := T.2.2.1
    obtain ⟨t1, t2, t3⟩ := T.2.2.2 p (by omega)
    by_cases h0 : t p = 32
    · rw [show lx_q t n p = lx_q t n (p + 1) from scan_step (by omega) (decide_eq_true h0), g22_11]
      have T1 : xT (am_setI g 302 1 (nI (p + 1))) t n := xT_I T (by decide) (by decide)
      simp (disch := first | with_reducible assumption | omega | exact Or.inl rfl | exact Or.inr rfl | exact bI_01 | exact c_cat | rfl | with_reducible repeat (first | assumption | apply S_I | apply S_L | apply S_D | apply ob_I | apply ob_L | apply ob_D | apply ob_R | apply ax_I | apply ax_L | apply ax_D | apply ax_R)) only [g22_12, g22_15, g22_16, g22_19, g22_22, g22_25, g22_26, g22_29, g22_30, g22_33, g22_36, g22_38, g22_41, g22_42, g22_43, g22_46, g22_47, g22_48, g22_51, N, hT, hR, Option.toList, List.nil_append, List.cons_append, va_rf, nI_ltI, nI_leI, nI_eq, nI_add, nI_sub, nI_lt0, nI_e0, nI_m1, m1_nI, Nat.reduceEqDiff, Nat.reduceLT, Nat.reduceLeDiff, Nat.reduceAdd, Nat.reduceSub, Nat.reduceMul, ↓reduceIte, eq_self, show ¬ n ≤ p by omega, ↓reduceIte, x_at5, tA_lt, h0]
      rw [ih (p + 1) _ (by omega) (by omega) (S_I S) T1 rI_eq, setI_setI]
    · rw [show lx_q t n p = p from scan_stop (fun q => h0 (of_decide_eq_true q.2)), setI_same N, g22_11]
      simp (disch := first | with_reducible assumption | omega | exact Or.inl rfl | exact Or.inr rfl | exact bI_01 | exact c_cat | rfl | with_reducible repeat (first | assumption | apply S_I | apply S_L | apply S_D | apply ob_I | apply ob_L | apply ob_D | apply ob_R | apply ax_I | apply ax_L | apply ax_D | apply ax_R)) only [g22_12, g22_15, g22_16, g22_19, g22_22, g22_25, g22_26, g22_29, g22_30, g22_33, g22_36, g22_38, g22_41, g22_42, g22_43, g22_46, g22_47, g22_48, g22_51, N, hT, hR, Option.toList, List.nil_append, List.cons_append, va_rf, nI_ltI, nI_leI, nI_eq, nI_add, nI_sub, nI_lt0, nI_e0, nI_m1, m1_nI, Nat.reduceEqDiff, Nat.reduceLT, Nat.reduceLeDiff, Nat.reduceAdd, Nat.reduceSub, Nat.reduceMul, ↓reduceIte, eq_self, show ¬ n ≤ p by omega, ↓reduceIte, x_at5, tA_lt, h0]
theorem lN_bv' (n : Nat) : (lN n).toBitVec = BitVec.ofNat 64 n := rfl
theorem sh8 (v c : Nat) (hc : c < 256) : (lN v <<< (lN 8 &&& 63)) ||| lN c = lN (v * 256 + c) := by
  rw [show (lN 8 &&& 63) = 8 by decide]
  apply Int64.toBitVec_inj.mp
  rw [Int64.toBitVec_or, Int64.toBitVec_shiftLeft, lN_bv', lN_bv', lN_bv', show (BitVec.smod (8 : Int64).toBitVec 64) = 8#64 by decide]
  apply BitVec.eq_of_toNat_eq
  rw [BitVec.toNat_or, BitVec.shiftLeft_eq', BitVec.toNat_shiftLeft, BitVec.toNat_ofNat, BitVec.toNat_ofNat, BitVec.toNat_ofNat, BitVec.toNat_ofNat, show 8 % 2 ^ 64 = 8 by decide, Nat.mod_eq_of_lt (show c < 2 ^ 64 by omega)]
  have e1 : (v % 2 ^ 64) <<< 8 % 2 ^ 64 = (v % 2 ^ 56) <<< 8 := by
    rw [Nat.shiftLeft_eq, Nat.shiftLeft_eq]; omega
  rw [e1, ← Nat.shiftLeft_add_eq_or_of_lt (show c < 2 ^ 8 from hc), Nat.shiftLeft_eq]; omega
theorem x_nameLoop : ∀ m p g, n - p = m → p ≤ n → q ≤ p → am_S g → xT g t n → am_I g 302 1 = nI p → am_L g 302 4 = lN (lx_w 256 0 t q (p - q)) → (am_J (d + 1) 24 5 [some (.ref 302)] [] g Q ↔ am_J (d + 1) 24 73 [some (.ref 302)] [] (am_setL (am_setI g 302 1 (nI (lx_L t n p))) 302 4 (lN (lx_w 256 0 t q (lx_L t n p - q)))) Q) := by
  intro m
  induction m with
  | zero =>
    intro p g hm hp hq S T N V
    have hT := T.2.1
    have hR := T.1
    have O5 := am_S_ob (a := 5) (c := 10) S (by decide +kernel)
    have h240 := T.2.2.1
    rw [show lx_L t n p = p from scan_stop (fun q => by omega), setI_same N, setL_same V, g24_5]
    simp (disch := first | with_reducible assumption | omega | exact Or.inl rfl | exact Or.inr rfl | exact bI_01 | exact c_cat | rfl | with_reducible repeat (first | assumption | apply S_I | apply S_L | apply S_D | apply ob_I | apply ob_L | apply ob_D | apply ob_R | apply ax_I | apply ax_L | apply ax_D | apply ax_R)) only [g24_6, g24_9, g24_10, g24_13, g24_16, N, hT, hR, va_rf, nI_ltI, nI_leI, nI_eq, nI_add, nI_sub, nI_lt0, nI_e0, nI_m1, m1_nI, Nat.reduceEqDiff, Nat.reduceLT, Nat.reduceLeDiff, Nat.reduceAdd, Nat.reduceSub, Nat.reduceMul, ↓reduceIte, eq_self, show n ≤ p by omega, ↓reduceIte]
  | succ m ih =>
    intro p g hm hp hq S T N V
    have hT := T.2.1
    have hR := T.1
    have O5 := am_S_ob (a := 5) (c := 10) S (by decide +kernel)
    have h240 := T.2.2.1
    obtain ⟨t1, t2, t3⟩ := T.2.2.2 p (by omega)
    cases h0 : isL (t p) with
    | true =>
      rw [show lx_L t n p = lx_L t n (p + 1) from scan_step (by omega) h0, g24_5]
      have T1 : xT (am_setI (am_setL g 302 4 (lN (lx_w 256 0 t q (p - q) * 256 + t p))) 302 1 (nI (p + 1))) t n := xT_I (xT_L T) (by decide) (by decide)
      have e : lx_w 256 0 t q (p + 1 - q) = lx_w 256 0 t q (p - q) * 256 + t p := by
        rw [show p + 1 - q = (p - q) + 1 by omega]
        show _ * 256 + (t (q + (p - q)) - 0) = _
        rw [show q + (p - q) = p by omega, Nat.sub_zero]
      simp (disch := first | with_reducible assumption | omega | exact Or.inl rfl | exact Or.inr rfl | exact bI_01 | exact c_cat | rfl | with_reducible repeat (first | assumption | apply S_I | apply S_L | apply S_D | apply ob_I | apply ob_L | apply ob_D | apply ob_R | apply ax_I | apply ax_L | apply ax_D | apply ax_R)) only [g24_6, g24_9, g24_10, g24_13, g24_16, g24_19, g24_20, g24_23, g24_24, g24_27, g24_30, g24_33, g24_36, g24_37, g24_38, g24_41, g24_43, g24_44, g24_45, g24_48, g24_49, g24_52, g24_55, g24_56, g24_57, g24_60, g24_61, g24_62, g24_65, g24_66, g24_67, g24_70, N, hT, hR, Option.toList, List.nil_append, List.cons_append, va_rf, nI_ltI, nI_leI, nI_eq, nI_add, nI_sub, nI_lt0, nI_e0, nI_m1, m1_nI, Nat.reduceEqDiff, Nat.reduceLT, Nat.reduceLeDiff, Nat.reduceAdd, Nat.reduceSub, Nat.reduceMul, ↓reduceIte, eq_self, show ¬ n ≤ p by omega, ↓reduceIte, x_at5, tA_lt, x_isL, h0, bI_t, V, nI_l, sh8, hI_L]
      rw [ih (p + 1) _ (by omega) (by omega) (by omega) (S_I (S_L S)) T1 rI_eq (by rw [hL_I, rL_eq, e]), setI_setI, setL_setI, setL_setL, setL_setI]
    | false =>
      rw [show lx_L t n p = p from scan_stop (fun q => by rw [h0] at q; exact absurd q.2 (by decide)), setI_same N, setL_same V, g24_5]
      simp (disch := first | with_reducible assumption | omega | exact Or.inl rfl | exact Or.inr rfl | exact bI_01 | exact c_cat | rfl | with_reducible repeat (first | assumption | apply S_I | apply S_L | apply S_D | apply ob_I | apply ob_L | apply ob_D | apply ob_R | apply ax_I | apply ax_L | apply ax_D | apply ax_R)) only [g24_6, g24_9, g24_10, g24_13, g24_16, g24_19, g24_20, g24_23, g24_24, g24_27, g24_30, g24_33, g24_36, g24_37, g24_38, g24_41, g24_43, g24_44, g24_45, g24_48, g24_49, g24_52, g24_55, g24_56, g24_57, g24_60, g24_61, g24_62, g24_65, g24_66, g24_67, g24_70, N, hT, hR, Option.toList, List.nil_append, List.cons_append, va_rf, nI_ltI, nI_leI, nI_eq, nI_add, nI_sub, nI_lt0, nI_e0, nI_m1, m1_nI, Nat.reduceEqDiff, Nat.reduceLT, Nat.reduceLeDiff, Nat.reduceAdd, Nat.reduceSub, Nat.reduceMul, ↓reduceIte, eq_self, show ¬ n ≤ p by omega, ↓reduceIte, x_at5, tA_lt, x_isL, h0, bI_f]
theorem x_runLoop {s : Int32} {v : Nat} : ∀ m p g, n - p = m → p ≤ n → q ≤ p → am_S g → xT g t n → am_I g 302 1 = nI p → am_L g 302 5 = lN (v * 10 ^ (p - q) + lx_w 10 48 t q (p - q)) → (am_J d 28 5 [some (.ref 302), some (.int s)] [] g Q ↔ am_J d 28 95 [some (.ref 302), some (.int s)] [] (am_setL (am_setI g 302 1 (nI (lx_G t n p))) 302 5 (lN (v * 10 ^ (lx_G t n p - q) + lx_w 10 48 t q (lx_G t n p - q)))) Q) := by
  intro m
  induction m with
  | zero =>
    intro p g hm hp hq S T N V
    have hT := T.2.1
    have hR := T.1
    have O5 := am_S_ob (a := 5) (c := 10) S (by decide +kernel)
    have h240 := T.2.2.1
    rw [show lx_G t n p = p from scan_stop (fun q => by omega), setI_same N, setL_same V, g28_5]
    simp (disch := first | with_reducible assumption | omega | exact Or.inl rfl | exact Or.inr rfl | exact bI_01 | exact c_cat | rfl | with_reducible repeat (first | assumption | apply S_I | apply S_L | apply S_D | apply ob_I | apply ob_L | apply ob_D | apply ob_R | apply ax_I | apply ax_L | apply ax_D | apply ax_R)) only [g28_6, g28_9, g28_10, g28_13, g28_16, N, hT, hR, va_rf, nI_ltI, nI_leI, nI_eq, nI_add, nI_sub, nI_lt0, nI_e0, nI_m1, m1_nI, Nat.reduceEqDiff, Nat.reduceLT, Nat.reduceLeDiff, Nat.reduceAdd, Nat.reduceSub, Nat.reduceMul, ↓reduceIte, eq_self, show n ≤ p by omega, ↓reduceIte]
  | succ m ih =>
    intro p g hm hp hq S T N V
    have hT := T.2.1
    have hR := T.1
    have O5 := am_S_ob (a := 5) (c := 10) S (by decide +kernel)
    have R5 := am_S_rf (a := 5) (k := 0) (b := 6) S (by decide +kernel)
    have X := am_S_ax (a := 6) (kd := 103) (n := 240) (q := p) S (by decide +kernel) (by have := T.2.2.1; omega) (by decide)
    have h240 := T.2.2.1
    obtain ⟨t1, t2, t3⟩ := T.2.2.2 p (by omega)
    cases h0 : isG (t p) with
    | true =>
      have hg : 48 ≤ t p ∧ t p ≤ 57 := by simpa [isG] using h0
      rw [show lx_G t n p = lx_G t n (p + 1) from scan_step (by omega) h0, g28_5]
      have e : v * 10 ^ (p + 1 - q) + lx_w 10 48 t q (p + 1 - q) = (v * 10 ^ (p - q) + lx_w 10 48 t q (p - q)) * 10 + (t p - 48) := by
        rw [show p + 1 - q = (p - q) + 1 by omega, Nat.pow_succ]
        show _ + (_ * 10 + (t (q + (p - q)) - 48)) = _
        rw [show q + (p - q) = p by omega, Nat.add_mul, Nat.mul_assoc, Nat.add_assoc]
      have T1 : xT (am_setI (am_setL g 302 5 (lN ((v * 10 ^ (p - q) + lx_w 10 48 t q (p - q)) * 10 + (t p - 48)))) 302 1 (nI (p + 1))) t n := xT_I (xT_L T) (by decide) (by decide)
      simp (disch := first | with_reducible assumption | omega | exact Or.inl rfl | exact Or.inr rfl | exact bI_01 | exact c_cat | rfl | with_reducible repeat (first | assumption | apply S_I | apply S_L | apply S_D | apply ob_I | apply ob_L | apply ob_D | apply ob_R | apply ax_I | apply ax_L | apply ax_D | apply ax_R)) only [g28_6, g28_9, g28_10, g28_13, g28_16, g28_19, g28_20, g28_23, g28_26, g28_27, g28_30, g28_31, g28_33, g28_36, g28_37, g28_40, g28_43, g28_44, g28_47, g28_48, g28_50, g28_53, g28_54, g28_55, g28_58, g28_61, g28_62, g28_63, g28_66, g28_69, g28_70, g28_73, g28_74, g28_76, g28_77, g28_78, g28_79, g28_82, g28_83, g28_84, g28_87, g28_88, g28_89, g28_92, N, hT, hR, R5, Option.toList, List.nil_append, List.cons_append, va_rf, nI_ltI, nI_leI, nI_eq, nI_add, nI_sub, nI_lt0, nI_e0, nI_m1, m1_nI, Nat.reduceEqDiff, Nat.reduceLT, Nat.reduceLeDiff, Nat.reduceAdd, Nat.reduceSub, Nat.reduceMul, ↓reduceIte, eq_self, show ¬ n ≤ p by omega, ↓reduceIte, t3, by8_lo, show ¬ t p < 48 by omega, show ¬ 57 < t p by omega, V, nI_l, lN_mul, lN_add, hI_L]
      rw [ih (p + 1) _ (by omega) (by omega) (by omega) (S_I (S_L S)) T1 rI_eq (by rw [hL_I, rL_eq, e]), setI_setI, setL_setI, setL_setL, setL_setI]
    | false =>
      have hg : ¬ (48 ≤ t p ∧ t p ≤ 57) := by
        intro q; rw [show isG (t p) = true by simp [isG]; omega] at h0; cases h0
      rw [show lx_G t n p = p from scan_stop (fun q => by rw [h0] at q; exact absurd q.2 (by decide)), setI_same N, setL_same V, g28_5]
      rcases (show t p < 48 ∨ (57 < t p ∧ t p < 128) ∨ 128 ≤ t p by omega) with c | c | c
      · simp (disch := first | with_reducible assumption | omega | exact Or.inl rfl | exact Or.inr rfl | exact bI_01 | exact c_cat | rfl | with_reducible repeat (first | assumption | apply S_I | apply S_L | apply S_D | apply ob_I | apply ob_L | apply ob_D | apply ob_R | apply ax_I | apply ax_L | apply ax_D | apply ax_R)) only [g28_6, g28_9, g28_10, g28_13, g28_16, g28_19, g28_20, g28_23, g28_26, g28_27, g28_30, g28_31, g28_33, g28_36, g28_37, g28_40, g28_43, g28_44, g28_47, g28_48, g28_50, g28_53, g28_54, g28_55, g28_58, g28_61, g28_62, g28_63, g28_66, g28_69, g28_70, g28_73, g28_74, g28_76, g28_77, g28_78, g28_79, g28_82, g28_83, g28_84, g28_87, g28_88, g28_89, g28_92, N, hT, hR, R5, Option.toList, List.nil_append, List.cons_append, va_rf, nI_ltI, nI_leI, nI_eq, nI_add, nI_sub, nI_lt0, nI_e0, nI_m1, m1_nI, Nat.reduceEqDiff, Nat.reduceLT, Nat.reduceLeDiff, Nat.reduceAdd, Nat.reduceSub, Nat.reduceMul, ↓reduceIte, eq_self, show ¬ n ≤ p by omega, ↓reduceIte, t3, by8_lo, c]
      · simp (disch := first | with_reducible assumption | omega | exact Or.inl rfl | exact Or.inr rfl | exact bI_01 | exact c_cat | rfl | with_reducible repeat (first | assumption | apply S_I | apply S_L | apply S_D | apply ob_I | apply ob_L | apply ob_D | apply ob_R | apply ax_I | apply ax_L | apply ax_D | apply ax_R)) only [g28_6, g28_9, g28_10, g28_13, g28_16, g28_19, g28_20, g28_23, g28_26, g28_27, g28_30, g28_31, g28_33, g28_36, g28_37, g28_40, g28_43, g28_44, g28_47, g28_48, g28_50, g28_53, g28_54, g28_55, g28_58, g28_61, g28_62, g28_63, g28_66, g28_69, g28_70, g28_73, g28_74, g28_76, g28_77, g28_78, g28_79, g28_82, g28_83, g28_84, g28_87, g28_88, g28_89, g28_92, N, hT, hR, R5, Option.toList, List.nil_append, List.cons_append, va_rf, nI_ltI, nI_leI, nI_eq, nI_add, nI_sub, nI_lt0, nI_e0, nI_m1, m1_nI, Nat.reduceEqDiff, Nat.reduceLT, Nat.reduceLeDiff, Nat.reduceAdd, Nat.reduceSub, Nat.reduceMul, ↓reduceIte, eq_self, show ¬ n ≤ p by omega, ↓reduceIte, t3, by8_lo, c, show ¬ t p < 48 by omega]
      · have hb : by8 (t p) < nI 48 := Int32.lt_trans (by8_hi _ (by omega) c) (by decide)
        simp (disch := first | with_reducible assumption | omega | exact Or.inl rfl | exact Or.inr rfl | exact bI_01 | exact c_cat | rfl | with_reducible repeat (first | assumption | apply S_I | apply S_L | apply S_D | apply ob_I | apply ob_L | apply ob_D | apply ob_R | apply ax_I | apply ax_L | apply ax_D | apply ax_R)) only [g28_6, g28_9, g28_10, g28_13, g28_16, g28_19, g28_20, g28_23, g28_26, g28_27, g28_30, g28_31, g28_33, g28_36, g28_37, g28_40, g28_43, g28_44, g28_47, g28_48, g28_50, g28_53, g28_54, g28_55, g28_58, g28_61, g28_62, g28_63, g28_66, g28_69, g28_70, g28_73, g28_74, g28_76, g28_77, g28_78, g28_79, g28_82, g28_83, g28_84, g28_87, g28_88, g28_89, g28_92, N, hT, hR, R5, Option.toList, List.nil_append, List.cons_append, va_rf, nI_ltI, nI_leI, nI_eq, nI_add, nI_sub, nI_lt0, nI_e0, nI_m1, m1_nI, Nat.reduceEqDiff, Nat.reduceLT, Nat.reduceLeDiff, Nat.reduceAdd, Nat.reduceSub, Nat.reduceMul, ↓reduceIte, eq_self, show ¬ n ≤ p by omega, ↓reduceIte, t3, hb]
/-- refuse, where there was no fault -/
theorem x_refuse (S : am_S h) (F : am_I h 302 8 = nI 0) {k : Nat} (P : am_I h 302 3 = nI q) : am_J d 25 0 [some (.ref 302), some (.int (nI k))] [] h Q ↔ Q none (am_setI (am_setI (am_setI h 302 8 (nI k)) 302 9 (nI q)) 302 2 (nI 263)) := by
  simp (disch := first | with_reducible assumption | omega | exact Or.inl rfl | exact Or.inr rfl | exact bI_01 | exact c_cat | rfl | with_reducible repeat (first | assumption | apply S_I | apply S_L | apply S_D | apply ob_I | apply ob_L | apply ob_D | apply ob_R | apply ax_I | apply ax_L | apply ax_D | apply ax_R)) only [g25_0, g25_1, g25_4, g25_7, g25_8, g25_9, g25_12, g25_13, g25_14, g25_17, g25_20, g25_21, g25_24, g25_27, F, nI_ltI, nI_leI, nI_eq, nI_add, nI_sub, nI_lt0, nI_e0, nI_m1, m1_nI, Nat.reduceEqDiff, Nat.reduceLT, Nat.reduceLeDiff, Nat.reduceAdd, Nat.reduceSub, Nat.reduceMul, ↓reduceIte, eq_self, P, hI_I, hI_L, hI_D, hI_R, hL_I, hL_L, hL_D, hL_R, hD_I, hD_L, hD_D, hD_R, hR_I, hR_L, hR_D, ↓reduceIte, Nat.reduceEqDiff]
theorem x_refuse' (S : am_S h) {f : Nat} (F : am_I h 302 8 = nI f) (h0 : f ≠ 0) (h1 : f < 100) {k : Int32} : am_J d 25 0 [some (.ref 302), some (.int k)] [] h Q ↔ Q none (am_setI h 302 2 (nI 263)) := by
  simp (disch := first | with_reducible assumption | omega | exact Or.inl rfl | exact Or.inr rfl | exact bI_01 | exact c_cat | rfl | with_reducible repeat (first | assumption | apply S_I | apply S_L | apply S_D | apply ob_I | apply ob_L | apply ob_D | apply ob_R | apply ax_I | apply ax_L | apply ax_D | apply ax_R)) only [g25_0, g25_1, g25_4, g25_7, g25_8, g25_9, g25_12, g25_13, g25_14, g25_17, g25_20, g25_21, g25_24, g25_27, F, nI_ltI, nI_leI, nI_eq, nI_add, nI_sub, nI_lt0, nI_e0, nI_m1, m1_nI, Nat.reduceEqDiff, Nat.reduceLT, Nat.reduceLeDiff, Nat.reduceAdd, Nat.reduceSub, Nat.reduceMul, ↓reduceIte, eq_self, h0, hI_I, hI_L, hI_D, hI_R, hL_I, hL_L, hL_D, hL_R, hD_I, hD_L, hD_D, hD_R, hR_I, hR_L, hR_D, ↓reduceIte, Nat.reduceEqDiff]
theorem x_readRun (S : am_S h) (T : xT h t n) (N : am_I h 302 1 = nI p) (hp : p ≤ n) {v : Nat} (V : am_L h 302 5 = lN v) : am_J d 28 0 [some (.ref 302), v1] [] h Q ↔ Q (some (.int (nI (lx_G t n p - p)))) (am_setL (am_setI h 302 1 (nI (lx_G t n p))) 302 5 (lN (v * 10 ^ (lx_G t n p - p) + lx_w 10 48 t p (lx_G t n p - p)))) := by
  have := T.2.2.1
  have l1 : p ≤ lx_G t n p := scan_ge
  have l2 : lx_G t n p ≤ n := scan_le hp
  rw [g28_0, g28_1 S, g28_4, x_runLoop (q := p) (v := v) _ p h rfl hp (Nat.le_refl _) S T N (by rw [V, Nat.sub_self]; show lN v = lN (v * 1 + 0); rw [Nat.mul_one, Nat.add_zero]), N]
  simp (disch := first | with_reducible assumption | omega | exact Or.inl rfl | exact Or.inr rfl | exact bI_01 | exact c_cat | rfl | with_reducible repeat (first | assumption | apply S_I | apply S_L | apply S_D | apply ob_I | apply ob_L | apply ob_D | apply ob_R | apply ax_I | apply ax_L | apply ax_D | apply ax_R)) only [g28_95, g28_96, g28_99, g28_100, g28_101, nI_ltI, nI_leI, nI_eq, nI_add, nI_sub, nI_lt0, nI_e0, nI_m1, m1_nI, Nat.reduceEqDiff, Nat.reduceLT, Nat.reduceLeDiff, Nat.reduceAdd, Nat.reduceSub, Nat.reduceMul, ↓reduceIte, eq_self, hI_I, hI_L, hI_D, hI_R, hL_I, hL_L, hL_D, hL_R, hD_I, hD_L, hD_D, hD_R, hR_I, hR_L, hR_D, ↓reduceIte, Nat.reduceEqDiff]
theorem x_readName (S : am_S h) (T : xT h t n) (N : am_I h 302 1 = nI q) (P : am_I h 302 3 = nI q) (hq : q ≤ n) (F : am_I h 302 8 = nI 0) : ∃ h', am_run (d + 1) 24 [some (.ref 302)] h none h' ∧ am_fr (fun a => a = 302) h h' ∧ am_I h' 302 1 = nI (lx_L t n q) ∧ am_I h' 302 3 = nI q ∧ am_I h' 302 7 = am_I h 302 7 ∧
    (¬ 8 < lx_L t n q - q → am_I h' 302 2 = nI 258 ∧ am_L h' 302 4 = lN (lx_w 256 0 t q (lx_L t n q - q)) ∧ am_I h' 302 8 = nI 0 ∧ am_I h' 302 9 = am_I h 302 9) ∧ (8 < lx_L t n q - q → am_I h' 302 2 = nI 263 ∧ am_I h' 302 8 = nI 1 ∧ am_I h' 302 9 = nI q) := by
  have := T.2.2.1
  have l1 : q ≤ lx_L t n q := scan_ge
  have l2 : lx_L t n q ≤ n := scan_le hq
  have W : ∀ Q, am_J (d + 1) 24 0 [some (.ref 302)] [] h Q ↔ am_J (d + 1) 24 73 [some (.ref 302)] [] (am_setL (am_setI h 302 1 (nI (lx_L t n q))) 302 4 (lN (lx_w 256 0 t q (lx_L t n q - q)))) Q := by
    intro Q
    rw [g24_0, g24_1, g24_2 S, x_nameLoop (q := q) _ q _ rfl hq (Nat.le_refl _) (S_L S) (xT_L T) N (by rw [rL_eq, Nat.sub_self]; rfl), setL_setI, setL_setI, setL_setL]
  by_cases h8 : 8 < lx_L t n q - q
  · refine ⟨am_setI (am_setI (am_setI (am_setI (am_setL (am_setI h 302 1 (nI (lx_L t n q))) 302 4 (lN (lx_w 256 0 t q (lx_L t n q - q)))) 302 2 (nI 258)) 302 8 (nI 1)) 302 9 (nI q)) 302 2 (nI 263), fun Q => ?_, ?_, ?_⟩
    · rw [W]
      simp (disch := first | with_reducible assumption | omega | exact Or.inl rfl | exact Or.inr rfl | exact bI_01 | exact c_cat | rfl | with_reducible repeat (first | assumption | apply S_I | apply S_L | apply S_D | apply ob_I | apply ob_L | apply ob_D | apply ob_R | apply ax_I | apply ax_L | apply ax_D | apply ax_R)) only [g24_73, g24_74, g24_77, g24_80, g24_81, g24_84, g24_85, g24_88, g24_89, g24_91, g24_94, g24_95, g24_96, g24_99, g25_0, g25_1, g25_4, g25_7, g25_8, g25_9, g25_12, g25_13, g25_14, g25_17, g25_20, g25_21, g25_24, g25_27, Option.toList, List.nil_append, List.cons_append, va_rf, nI_ltI, nI_leI, nI_eq, nI_add, nI_sub, nI_lt0, nI_e0, nI_m1, m1_nI, Nat.reduceEqDiff, Nat.reduceLT, Nat.reduceLeDiff, Nat.reduceAdd, Nat.reduceSub, Nat.reduceMul, ↓reduceIte, eq_self, hI_I, hI_L, hI_D, hI_R, hL_I, hL_L, hL_D, hL_R, hD_I, hD_L, hD_D, hD_R, hR_I, hR_L, hR_D, ↓reduceIte, Nat.reduceEqDiff, P, F, h8, show ¬ lx_L t n q - q ≤ 8 by omega]
    · exact fr_I (fr_I (fr_I (fr_I (fr_L (fr_I fr_refl rfl) rfl) rfl) rfl) rfl) rfl
    · simp only [hI_I, hI_L, hI_D, hI_R, hL_I, hL_L, hL_D, hL_R, hD_I, hD_L, hD_D, hD_R, hR_I, hR_L, hR_D, ↓reduceIte, Nat.reduceEqDiff, h8, not_true, false_implies, true_implies, P, and_self]
  · refine ⟨am_setI (am_setL (am_setI h 302 1 (nI (lx_L t n q))) 302 4 (lN (lx_w 256 0 t q (lx_L t n q - q)))) 302 2 (nI 258), fun Q => ?_, ?_, ?_⟩
    · rw [W]
      simp (disch := first | with_reducible assumption | omega | exact Or.inl rfl | exact Or.inr rfl | exact bI_01 | exact c_cat | rfl | with_reducible repeat (first | assumption | apply S_I | apply S_L | apply S_D | apply ob_I | apply ob_L | apply ob_D | apply ob_R | apply ax_I | apply ax_L | apply ax_D | apply ax_R)) only [g24_73, g24_74, g24_77, g24_80, g24_81, g24_84, g24_85, g24_88, g24_89, g24_91, g24_94, g24_95, g24_96, g24_99, Option.toList, List.nil_append, List.cons_append, va_rf, nI_ltI, nI_leI, nI_eq, nI_add, nI_sub, nI_lt0, nI_e0, nI_m1, m1_nI, Nat.reduceEqDiff, Nat.reduceLT, Nat.reduceLeDiff, Nat.reduceAdd, Nat.reduceSub, Nat.reduceMul, ↓reduceIte, eq_self, hI_I, hI_L, hI_D, hI_R, hL_I, hL_L, hL_D, hL_R, hD_I, hD_L, hD_D, hD_R, hR_I, hR_L, hR_D, ↓reduceIte, Nat.reduceEqDiff, P, F, h8, show lx_L t n q - q ≤ 8 by omega]
    · exact fr_I (fr_L (fr_I fr_refl rfl) rfl) rfl
    · simp only [hI_I, hI_L, hI_D, hI_R, hL_I, hL_L, hL_D, hL_R, hD_I, hD_L, hD_D, hD_R, hR_I, hR_L, hR_D, ↓reduceIte, Nat.reduceEqDiff, h8, not_false_eq_true, false_implies, true_implies, P, F, and_self]
/-- what advance leaves behind; with a fault -/
def LX (h : am_H) (t : Nat → Nat) (n q : Nat) : Prop := am_I h 302 1 = nI (lx_E t n q) ∧ am_I h 302 2 = nI (lx_K t n q) ∧ am_I h 302 3 = nI q ∧ (lx_K t n q = 258 → am_L h 302 4 = lN (lx_w 256 0 t q (lx_E t n q - q))) ∧ (lx_K t n q = 260 ∨ lx_K t n q = 261 → am_L h 302 5 = lN (lx_v t n q) ∧ am_I h 302 6 = nI (lx_b t n q)) ∧ (lx_K t n q = 259 → am_I h 302 7 = nI (lx_c t q))
def LB (h : am_H) (n f q : Nat) : Prop := am_I h 302 2 = nI 263 ∧ am_I h 302 8 = nI f ∧ am_I h 302 9 = nI q ∧ (∃ e, e ≤ n ∧ am_I h 302 3 = nI e) ∧ ∃ e, e ≤ n ∧ am_I h 302 1 = nI e
/-- what advance does: h before, h' behind it -/
def LA (h h' : am_H) (t : Nat → Nat) (n q : Nat) : Prop := (lx_K t n q ≠ 263 → LX h' t n q ∧ am_I h' 302 8 = am_I h 302 8 ∧ am_I h' 302 9 = am_I h 302 9) ∧ (lx_K t n q = 263 → LB h' n 1 q) ∧ (lx_K t n q ≠ 259 → am_I h' 302 7 = am_I h 302 7)
theorem x_digits (S : am_S h) (T : xT h t n) (N : am_I h 302 1 = nI q) (P : am_I h 302 3 = nI q) (hq : q < n) (hg : isG (t q) = true) (hl : isL (t q) = false) (F : am_I h 302 8 = nI 0) : ∃ h', am_run (d + 1) 27 [some (.ref 302), none] h none h' ∧ am_fr (fun a => a = 302) h h' ∧ LA h h' t n q := by
  have T3 := T.2.2.1
  have hR := T.1
  have O5 := am_S_ob (a := 5) (c := 10) S (by decide +kernel)
  have l1 : q ≤ lx_G t n q := scan_ge
  have l2 : lx_G t n q ≤ n := scan_le (Nat.le_of_lt hq)
  have hKq : ¬ n ≤ q := by omega
  have T0 : xT (am_setI (am_setL h 302 5 (lN 0)) 302 6 (nI 0)) t n := xT_I (xT_L T) (by decide) (by decide)
  have S0 : am_S (am_setI (am_setL h 302 5 (lN 0)) 302 6 (nI 0)) := S_I (S_L S)
  have N0 : am_I (am_setI (am_setL h 302 5 (lN 0)) 302 6 (nI 0)) 302 1 = nI q := by simp only [hI_I, hI_L, hI_D, hI_R, hL_I, hL_L, hL_D, hL_R, hD_I, hD_L, hD_D, hD_R, hR_I, hR_L, hR_D, ↓reduceIte, Nat.reduceEqDiff, N]
  have V0 : am_L (am_setI (am_setL h 302 5 (lN 0)) 302 6 (nI 0)) 302 5 = lN 0 := by simp only [hI_I, hI_L, hI_D, hI_R, hL_I, hL_L, hL_D, hL_R, hD_I, hD_L, hD_D, hD_R, hR_I, hR_L, hR_D, ↓reduceIte, Nat.reduceEqDiff]
  cases hp : lx_pt t n (lx_G t n q) with
  | false =>
    have hv : tA t n (lx_G t n q) = nI 46 → tA t n (lx_G t n q + 1) = -1 ∨ ∃ k, tA t n (lx_G t n q + 1) = nI k ∧ k < 256 ∧ isG k = false := by
      intro e
      by_cases c1 : lx_G t n q < n
      · rw [tA_lt c1] at e
        have e1 : t (lx_G t n q) = 46 := (nI_eq (by have := (T.2.2.2 _ c1).2.1; omega) (by decide)).mp e
        by_cases c2 : lx_G t n q + 1 < n
        · refine Or.inr ⟨_, tA_lt c2, by have := (T.2.2.2 _ c2).2.1; omega, ?_⟩
          simpa [lx_pt, c1, e1, c2] using hp
        · exact Or.inl (tA_ge (by omega))
      · rw [tA_ge (by omega)] at e; exact absurd e (by decide)
    have hK : lx_K t n q = if 18 < lx_G t n q - q then 263 else 260 := by
      simp only [lx_K, hKq, hl, hg, hp, ↓reduceIte, Bool.false_eq_true]
    have hE : lx_E t n q = lx_G t n q := by simp only [lx_E, hKq, hl, hg, hp, ↓reduceIte, Bool.false_eq_true]
    have hV : lx_v t n q = lx_w 10 48 t q (lx_G t n q - q) := by simp only [lx_v, hp, ↓reduceIte, Bool.false_eq_true]
    have hB : lx_b t n q = 0 := by simp only [lx_b, hp, ↓reduceIte, Bool.false_eq_true]
    have W : ∀ Q, am_J (d + 1) 27 0 [some (.ref 302), none] [] h Q ↔ am_J (d + 1) 27 82 [some (.ref 302), some (.int (nI (lx_G t n q - q)))] [] (am_setI (am_setL (am_setI (am_setI h 302 6 (nI 0)) 302 1 (nI (lx_G t n q))) 302 5 (lN (lx_v t n q))) 302 2 (nI 260)) Q := by
      intro Q
      rw [hV]
      simp (disch := first | with_reducible assumption | omega | exact Or.inl rfl | exact Or.inr rfl | exact bI_01 | exact c_cat | rfl | with_reducible repeat (first | assumption | apply S_I | apply S_L | apply S_D | apply ob_I | apply ob_L | apply ob_D | apply ob_R | apply ax_I | apply ax_L | apply ax_D | apply ax_R)) only [g27_0, g27_1, g27_2, g27_5, g27_6, g27_7, g27_10, g27_11, x_readRun S0 T0 N0 (Nat.le_of_lt hq) V0, Option.toList, List.nil_append, List.cons_append, va_rf]
      rw [show 0 * 10 ^ (lx_G t n q - q) + lx_w 10 48 t q (lx_G t n q - q) = lx_w 10 48 t q (lx_G t n q - q) by omega, setL_setI, setL_setI, setL_setL]
      have T1 : xT (am_setI (am_setI (am_setI (am_setL h 302 5 (lN (lx_w 10 48 t q (lx_G t n q - q)))) 302 6 (nI 0)) 302 1 (nI (lx_G t n q))) 302 2 (nI 260)) t n := xT_I (xT_I (xT_I (xT_L T) (by decide) (by decide)) (by decide) (by decide)) (by decide) (by decide)
      by_cases c : tA t n (lx_G t n q) = nI 46
      · rcases hv c with e | ⟨k, e1, e2, e3⟩
        · simp (disch := first | with_reducible assumption | omega | exact Or.inl rfl | exact Or.inr rfl | exact bI_01 | exact c_cat | rfl | with_reducible repeat (first | assumption | apply S_I | apply S_L | apply S_D | apply ob_I | apply ob_L | apply ob_D | apply ob_R | apply ax_I | apply ax_L | apply ax_D | apply ax_R)) only [g27_14, g27_15, g27_16, g27_19, g27_22, g27_23, g27_26, g27_27, g27_30, g27_33, g27_35, g27_38, g27_39, g27_42, g27_43, g27_46, g27_47, g27_48, g27_51, g27_54, hR, Option.toList, List.nil_append, List.cons_append, va_rf, hI_I, hI_L, hI_D, hI_R, hL_I, hL_L, hL_D, hL_R, hD_I, hD_L, hD_D, hD_R, hR_I, hR_L, hR_D, ↓reduceIte, Nat.reduceEqDiff, x_at5, T1, nI_ltI, nI_leI, nI_eq, nI_add, nI_sub, nI_lt0, nI_e0, nI_m1, m1_nI, Nat.reduceEqDiff, Nat.reduceLT, Nat.reduceLeDiff, Nat.reduceAdd, Nat.reduceSub, Nat.reduceMul, ↓reduceIte, eq_self, c, e, x_isGm]
          rfl
        · simp (disch := first | with_reducible assumption | omega | exact Or.inl rfl | exact Or.inr rfl | exact bI_01 | exact c_cat | rfl | with_reducible repeat (first | assumption | apply S_I | apply S_L | apply S_D | apply ob_I | apply ob_L | apply ob_D | apply ob_R | apply ax_I | apply ax_L | apply ax_D | apply ax_R)) only [g27_14, g27_15, g27_16, g27_19, g27_22, g27_23, g27_26, g27_27, g27_30, g27_33, g27_35, g27_38, g27_39, g27_42, g27_43, g27_46, g27_47, g27_48, g27_51, g27_54, hR, Option.toList, List.nil_append, List.cons_append, va_rf, hI_I, hI_L, hI_D, hI_R, hL_I, hL_L, hL_D, hL_R, hD_I, hD_L, hD_D, hD_R, hR_I, hR_L, hR_D, ↓reduceIte, Nat.reduceEqDiff, x_at5, T1, nI_ltI, nI_leI, nI_eq, nI_add, nI_sub, nI_lt0, nI_e0, nI_m1, m1_nI, Nat.reduceEqDiff, Nat.reduceLT, Nat.reduceLeDiff, Nat.reduceAdd, Nat.reduceSub, Nat.reduceMul, ↓reduceIte, eq_self, c, e1, x_isG, e3, bI_f]
          rfl
      · simp (disch := first | with_reducible assumption | omega | exact Or.inl rfl | exact Or.inr rfl | exact bI_01 | exact c_cat | rfl | with_reducible repeat (first | assumption | apply S_I | apply S_L | apply S_D | apply ob_I | apply ob_L | apply ob_D | apply ob_R | apply ax_I | apply ax_L | apply ax_D | apply ax_R)) only [g27_14, g27_15, g27_16, g27_19, g27_22, g27_23, g27_26, g27_27, g27_30, g27_33, g27_35, g27_38, g27_39, g27_42, g27_43, g27_46, g27_47, g27_48, g27_51, g27_54, hR, Option.toList, List.nil_append, List.cons_append, va_rf, hI_I, hI_L, hI_D, hI_R, hL_I, hL_L, hL_D, hL_R, hD_I, hD_L, hD_D, hD_R, hR_I, hR_L, hR_D, ↓reduceIte, Nat.reduceEqDiff, x_at5, T1, nI_ltI, nI_leI, nI_eq, nI_add, nI_sub, nI_lt0, nI_e0, nI_m1, m1_nI, Nat.reduceEqDiff, Nat.reduceLT, Nat.reduceLeDiff, Nat.reduceAdd, Nat.reduceSub, Nat.reduceMul, ↓reduceIte, eq_self, c]
        rfl
    by_cases h18 : 18 < lx_G t n q - q
    · rw [if_pos h18] at hK
      apply Exists.intro
      refine ⟨fun Q => ?_, ?_, ?_⟩
      · rw [W]
        simp (disch := first | with_reducible assumption | omega | exact Or.inl rfl | exact Or.inr rfl | exact bI_01 | exact c_cat | rfl | with_reducible repeat (first | assumption | apply S_I | apply S_L | apply S_D | apply ob_I | apply ob_L | apply ob_D | apply ob_R | apply ax_I | apply ax_L | apply ax_D | apply ax_R)) only [g27_82, g27_83, g27_84, g27_87, g27_88, g27_89, g27_92, g27_95, g27_98, g27_100, g27_103, g27_105, g27_108, g27_109, g27_110, g27_113, g25_0, g25_1, g25_4, g25_7, g25_8, g25_9, g25_12, g25_13, g25_14, g25_17, g25_20, g25_21, g25_24, g25_27, Option.toList, List.nil_append, List.cons_append, va_rf, nI_ltI, nI_leI, nI_eq, nI_add, nI_sub, nI_lt0, nI_e0, nI_m1, m1_nI, Nat.reduceEqDiff, Nat.reduceLT, Nat.reduceLeDiff, Nat.reduceAdd, Nat.reduceSub, Nat.reduceMul, ↓reduceIte, eq_self, hI_I, hI_L, hI_D, hI_R, hL_I, hL_L, hL_D, hL_R, hD_I, hD_L, hD_D, hD_R, hR_I, hR_L, hR_D, ↓reduceIte, Nat.reduceEqDiff, P, F, show ¬ lx_G t n q - q ≤ 18 by omega, Nat.add_zero]
        exact Iff.rfl
      · exact fr_I (fr_I (fr_I (fr_I (fr_L (fr_I (fr_I fr_refl rfl) rfl) rfl) rfl) rfl) rfl) rfl
      · refine ⟨fun q => absurd hK q, fun _ => ?_, (by intro k7; first | (simp only [hI_I, hI_L, hI_D, hI_R, hL_I, hL_L, hL_D, hL_R, hD_I, hD_L, hD_D, hD_R, hR_I, hR_L, hR_D, ↓reduceIte, Nat.reduceEqDiff]; done) | (simp only [hI_I, hI_L, hI_D, hI_R, hL_I, hL_L, hL_D, hL_R, hD_I, hD_L, hD_D, hD_R, hR_I, hR_L, hR_D, ↓reduceIte, Nat.reduceEqDiff, g7]; done) | exact g7 | exact absurd hK k7)⟩
        simp only [LB, hI_I, hI_L, hI_D, hI_R, hL_I, hL_L, hL_D, hL_R, hD_I, hD_L, hD_D, hD_R, hR_I, hR_L, hR_D, ↓reduceIte, Nat.reduceEqDiff, P, true_and]
        exact ⟨⟨q, by omega, rfl⟩, _, l2, rfl⟩
    · rw [if_neg h18] at hK
      apply Exists.intro
      refine ⟨fun Q => ?_, ?_, ?_⟩
      · rw [W]
        simp (disch := first | with_reducible assumption | omega | exact Or.inl rfl | exact Or.inr rfl | exact bI_01 | exact c_cat | rfl | with_reducible repeat (first | assumption | apply S_I | apply S_L | apply S_D | apply ob_I | apply ob_L | apply ob_D | apply ob_R | apply ax_I | apply ax_L | apply ax_D | apply ax_R)) only [g27_82, g27_83, g27_84, g27_87, g27_88, g27_89, g27_92, g27_95, g27_98, g27_100, g27_103, g27_105, g27_108, g27_109, g27_110, g27_113, g25_0, g25_1, g25_4, g25_7, g25_8, g25_9, g25_12, g25_13, g25_14, g25_17, g25_20, g25_21, g25_24, g25_27, Option.toList, List.nil_append, List.cons_append, va_rf, nI_ltI, nI_leI, nI_eq, nI_add, nI_sub, nI_lt0, nI_e0, nI_m1, m1_nI, Nat.reduceEqDiff, Nat.reduceLT, Nat.reduceLeDiff, Nat.reduceAdd, Nat.reduceSub, Nat.reduceMul, ↓reduceIte, eq_self, hI_I, hI_L, hI_D, hI_R, hL_I, hL_L, hL_D, hL_R, hD_I, hD_L, hD_D, hD_R, hR_I, hR_L, hR_D, ↓reduceIte, Nat.reduceEqDiff, P, F, show lx_G t n q - q ≤ 18 by omega, Nat.add_zero]
        exact Iff.rfl
      · exact fr_I (fr_L (fr_I (fr_I fr_refl rfl) rfl) rfl) rfl
      · refine ⟨fun _ => ?_, fun q => absurd (hK.symm.trans q) (by decide), (by intro k7; first | (simp only [hI_I, hI_L, hI_D, hI_R, hL_I, hL_L, hL_D, hL_R, hD_I, hD_L, hD_D, hD_R, hR_I, hR_L, hR_D, ↓reduceIte, Nat.reduceEqDiff]; done) | (simp only [hI_I, hI_L, hI_D, hI_R, hL_I, hL_L, hL_D, hL_R, hD_I, hD_L, hD_D, hD_R, hR_I, hR_L, hR_D, ↓reduceIte, Nat.reduceEqDiff, g7]; done) | exact g7 | exact absurd hK k7)⟩
        simp only [LX, hI_I, hI_L, hI_D, hI_R, hL_I, hL_L, hL_D, hL_R, hD_I, hD_L, hD_D, hD_R, hR_I, hR_L, hR_D, ↓reduceIte, Nat.reduceEqDiff, P, hK, hE, hB, true_and, false_implies, true_implies, true_or, and_self, Nat.reduceEqDiff]
  | true =>
    have hpt : ((lx_G t n q < n ∧ t (lx_G t n q) = 46) ∧ lx_G t n q + 1 < n) ∧ isG (t (lx_G t n q + 1)) = true := by simpa only [lx_pt, Bool.and_eq_true, decide_eq_true_eq] using hp
    obtain ⟨⟨⟨p1, p2⟩, p3⟩, p4⟩ := hpt
    have m1 : lx_G t n q + 1 ≤ lx_G t n (lx_G t n q + 1) := scan_ge
    have m2 : lx_G t n (lx_G t n q + 1) ≤ n := scan_le (Nat.le_of_lt p3)
    have hB : lx_b t n q = lx_G t n (lx_G t n q + 1) - (lx_G t n q + 1) := by simp only [lx_b, hp, ↓reduceIte]
    have hK : lx_K t n q = if 15 < lx_G t n q - q + lx_b t n q then 263 else 261 := by
      simp only [lx_K, hKq, hl, hg, hp, ↓reduceIte, Bool.false_eq_true, hB]
    have hE : lx_E t n q = lx_G t n (lx_G t n q + 1) := by simp only [lx_E, hKq, hl, hg, hp, ↓reduceIte, Bool.false_eq_true]
    have hV : lx_v t n q = lx_w 10 48 t q (lx_G t n q - q) * 10 ^ lx_b t n q + lx_w 10 48 t (lx_G t n q + 1) (lx_b t n q) := by simp only [lx_v, hp, ↓reduceIte]
    have W : ∃ g, (∀ Q, am_J (d + 1) 27 0 [some (.ref 302), none] [] h Q ↔ am_J (d + 1) 27 82 [some (.ref 302), some (.int (nI (lx_G t n q - q)))] [] g Q) ∧ am_fr (fun a => a = 302) h g ∧ am_I g 302 1 = nI (lx_G t n (lx_G t n q + 1)) ∧ am_I g 302 2 = nI 261 ∧ am_I g 302 3 = nI q ∧ am_L g 302 5 = lN (lx_v t n q) ∧ am_I g 302 6 = nI (lx_b t n q) ∧ am_I g 302 8 = nI 0 ∧ am_I g 302 9 = am_I h 302 9 ∧ am_I g 302 7 = am_I h 302 7 := by
      have T2 : xT (am_setI (am_setI (am_setI (am_setI (am_setL h 302 5 (lN (lx_w 10 48 t q (lx_G t n q - q)))) 302 6 (nI 0)) 302 1 (nI (lx_G t n q))) 302 2 (nI 260)) 302 1 (nI (lx_G t n q + 1))) t n := xT_I (xT_I (xT_I (xT_I (xT_L T) (by decide) (by decide)) (by decide) (by decide)) (by decide) (by decide)) (by decide) (by decide)
      have T1 : xT (am_setI (am_setI (am_setI (am_setL h 302 5 (lN (lx_w 10 48 t q (lx_G t n q - q)))) 302 6 (nI 0)) 302 1 (nI (lx_G t n q))) 302 2 (nI 260)) t n := xT_I (xT_I (xT_I (xT_L T) (by decide) (by decide)) (by decide) (by decide)) (by decide) (by decide)
      have S2 : am_S (am_setI (am_setI (am_setI (am_setI (am_setL h 302 5 (lN (lx_w 10 48 t q (lx_G t n q - q)))) 302 6 (nI 0)) 302 1 (nI (lx_G t n q))) 302 2 (nI 260)) 302 1 (nI (lx_G t n q + 1))) := S_I (S_I (S_I (S_I (S_L S))))
      have h46 : t (lx_G t n q + 1) < 256 := by have := (T.2.2.2 _ p3).2.1; omega
      apply Exists.intro
      refine ⟨fun Q => ?_, ?_, ?_⟩
      · simp (disch := first | with_reducible assumption | omega | exact Or.inl rfl | exact Or.inr rfl | exact bI_01 | exact c_cat | rfl | with_reducible repeat (first | assumption | apply S_I | apply S_L | apply S_D | apply ob_I | apply ob_L | apply ob_D | apply ob_R | apply ax_I | apply ax_L | apply ax_D | apply ax_R)) only [g27_0, g27_1, g27_2, g27_5, g27_6, g27_7, g27_10, g27_11, x_readRun S0 T0 N0 (Nat.le_of_lt hq) V0, Option.toList, List.nil_append, List.cons_append, va_rf]
        rw [show 0 * 10 ^ (lx_G t n q - q) + lx_w 10 48 t q (lx_G t n q - q) = lx_w 10 48 t q (lx_G t n q - q) by omega, setL_setI, setL_setI, setL_setL]
        simp (disch := first | with_reducible assumption | omega | exact Or.inl rfl | exact Or.inr rfl | exact bI_01 | exact c_cat | rfl | with_reducible repeat (first | assumption | apply S_I | apply S_L | apply S_D | apply ob_I | apply ob_L | apply ob_D | apply ob_R | apply ax_I | apply ax_L | apply ax_D | apply ax_R)) only [g27_14, g27_15, g27_16, g27_19, g27_22, g27_23, g27_26, g27_27, g27_30, g27_33, g27_35, g27_38, g27_39, g27_42, g27_43, g27_46, g27_47, g27_48, g27_51, g27_54, g27_57, g27_58, g27_59, g27_62, g27_63, g27_64, g27_67, g27_68, g27_69, g27_72, g27_75, g27_76, g27_79, hR, Option.toList, List.nil_append, List.cons_append, va_rf, hI_I, hI_L, hI_D, hI_R, hL_I, hL_L, hL_D, hL_R, hD_I, hD_L, hD_D, hD_R, hR_I, hR_L, hR_D, ↓reduceIte, Nat.reduceEqDiff, x_at5, T1, nI_ltI, nI_leI, nI_eq, nI_add, nI_sub, nI_lt0, nI_e0, nI_m1, m1_nI, Nat.reduceEqDiff, Nat.reduceLT, Nat.reduceLeDiff, Nat.reduceAdd, Nat.reduceSub, Nat.reduceMul, ↓reduceIte, eq_self, tA_lt, p2, x_isG, p4, bI_t, x_readRun (p := lx_G t n q + 1) (v := lx_w 10 48 t q (lx_G t n q - q)) S2 T2 rI_eq (Nat.le_of_lt p3) (by simp only [hI_I, hI_L, hI_D, hI_R, hL_I, hL_L, hL_D, hL_R, hD_I, hD_L, hD_D, hD_R, hR_I, hR_L, hR_D, ↓reduceIte, Nat.reduceEqDiff])]
        exact Iff.rfl
      · exact fr_I (fr_I (fr_L (fr_I (fr_I (fr_I (fr_I (fr_I (fr_L fr_refl rfl) rfl) rfl) rfl) rfl) rfl) rfl) rfl) rfl
      · simp only [hI_I, hI_L, hI_D, hI_R, hL_I, hL_L, hL_D, hL_R, hD_I, hD_L, hD_D, hD_R, hR_I, hR_L, hR_D, ↓reduceIte, Nat.reduceEqDiff, P, hV, hB, F, and_self]
    obtain ⟨g, W, Fg, g1, g2, g3, g5, g6, g8, g9, g7⟩ := W
    have Sg := fr_S Fg S
    by_cases h15 : 15 < lx_G t n q - q + lx_b t n q
    · rw [if_pos h15] at hK
      apply Exists.intro
      refine ⟨fun Q => ?_, ?_, ?_⟩
      · rw [W]
        simp (disch := first | with_reducible assumption | omega | exact Or.inl rfl | exact Or.inr rfl | exact bI_01 | exact c_cat | rfl | with_reducible repeat (first | assumption | apply S_I | apply S_L | apply S_D | apply ob_I | apply ob_L | apply ob_D | apply ob_R | apply ax_I | apply ax_L | apply ax_D | apply ax_R)) only [g27_82, g27_83, g27_84, g27_87, g27_88, g27_89, g27_92, g27_95, g27_98, g27_100, g27_103, g27_105, g27_108, g27_109, g27_110, g27_113, g25_0, g25_1, g25_4, g25_7, g25_8, g25_9, g25_12, g25_13, g25_14, g25_17, g25_20, g25_21, g25_24, g25_27, Option.toList, List.nil_append, List.cons_append, va_rf, nI_ltI, nI_leI, nI_eq, nI_add, nI_sub, nI_lt0, nI_e0, nI_m1, m1_nI, Nat.reduceEqDiff, Nat.reduceLT, Nat.reduceLeDiff, Nat.reduceAdd, Nat.reduceSub, Nat.reduceMul, ↓reduceIte, eq_self, hI_I, hI_L, hI_D, hI_R, hL_I, hL_L, hL_D, hL_R, hD_I, hD_L, hD_D, hD_R, hR_I, hR_L, hR_D, ↓reduceIte, Nat.reduceEqDiff, g2, g3, g6, g8, show ¬ lx_G t n q - q + lx_b t n q ≤ 15 by omega]
        exact Iff.rfl
      · exact fr_I (fr_I (fr_I Fg rfl) rfl) rfl
      · refine ⟨fun q => absurd hK q, fun _ => ?_, (by intro k7; first | (simp only [hI_I, hI_L, hI_D, hI_R, hL_I, hL_L, hL_D, hL_R, hD_I, hD_L, hD_D, hD_R, hR_I, hR_L, hR_D, ↓reduceIte, Nat.reduceEqDiff]; done) | (simp only [hI_I, hI_L, hI_D, hI_R, hL_I, hL_L, hL_D, hL_R, hD_I, hD_L, hD_D, hD_R, hR_I, hR_L, hR_D, ↓reduceIte, Nat.reduceEqDiff, g7]; done) | exact g7 | exact absurd hK k7)⟩
        simp only [LB, hI_I, hI_L, hI_D, hI_R, hL_I, hL_L, hL_D, hL_R, hD_I, hD_L, hD_D, hD_R, hR_I, hR_L, hR_D, ↓reduceIte, Nat.reduceEqDiff, g1, g3, true_and]
        exact ⟨⟨q, by omega, rfl⟩, _, m2, rfl⟩
    · rw [if_neg h15] at hK
      apply Exists.intro
      refine ⟨fun Q => ?_, ?_, ?_⟩
      · rw [W]
        simp (disch := first | with_reducible assumption | omega | exact Or.inl rfl | exact Or.inr rfl | exact bI_01 | exact c_cat | rfl | with_reducible repeat (first | assumption | apply S_I | apply S_L | apply S_D | apply ob_I | apply ob_L | apply ob_D | apply ob_R | apply ax_I | apply ax_L | apply ax_D | apply ax_R)) only [g27_82, g27_83, g27_84, g27_87, g27_88, g27_89, g27_92, g27_95, g27_98, g27_100, g27_103, g27_105, g27_108, g27_109, g27_110, g27_113, g25_0, g25_1, g25_4, g25_7, g25_8, g25_9, g25_12, g25_13, g25_14, g25_17, g25_20, g25_21, g25_24, g25_27, Option.toList, List.nil_append, List.cons_append, va_rf, nI_ltI, nI_leI, nI_eq, nI_add, nI_sub, nI_lt0, nI_e0, nI_m1, m1_nI, Nat.reduceEqDiff, Nat.reduceLT, Nat.reduceLeDiff, Nat.reduceAdd, Nat.reduceSub, Nat.reduceMul, ↓reduceIte, eq_self, hI_I, hI_L, hI_D, hI_R, hL_I, hL_L, hL_D, hL_R, hD_I, hD_L, hD_D, hD_R, hR_I, hR_L, hR_D, ↓reduceIte, Nat.reduceEqDiff, g2, g3, g6, g8, show lx_G t n q - q + lx_b t n q ≤ 15 by omega]
        exact Iff.rfl
      · exact Fg
      · refine ⟨fun _ => ?_, fun q => absurd (hK.symm.trans q) (by decide), (by intro k7; first | (simp only [hI_I, hI_L, hI_D, hI_R, hL_I, hL_L, hL_D, hL_R, hD_I, hD_L, hD_D, hD_R, hR_I, hR_L, hR_D, ↓reduceIte, Nat.reduceEqDiff]; done) | (simp only [hI_I, hI_L, hI_D, hI_R, hL_I, hL_L, hL_D, hL_R, hD_I, hD_L, hD_D, hD_R, hR_I, hR_L, hR_D, ↓reduceIte, Nat.reduceEqDiff, g7]; done) | exact g7 | exact absurd hK k7)⟩
        simp only [LX, hI_I, hI_L, hI_D, hI_R, hL_I, hL_L, hL_D, hL_R, hD_I, hD_L, hD_D, hD_R, hR_I, hR_L, hR_D, ↓reduceIte, Nat.reduceEqDiff, hK, hE, g1, g2, g3, g5, g6, g8, g9, F, true_and, false_implies, true_implies, or_true, and_self, Nat.reduceEqDiff]
/-- readRef, where the sheet's letter stands -/
theorem x_readRef (S : am_S h) (T : xT h t n) (N : am_I h 302 1 = nI q) (P : am_I h 302 3 = nI q) (hq : q < n) (hA : 65 ≤ t q ∧ t q ≤ 68) (F : am_I h 302 8 = nI 0) : ∃ h', am_run (d + 1) 29 [some (.ref 302), some (.int (nI (t q - 65))), none, none] h none h' ∧ am_fr (fun a => a = 302) h h' ∧ LA h h' t n q := by
  have T3 := T.2.2.1
  have hR := T.1
  have O5 := am_S_ob (a := 5) (c := 10) S (by decide +kernel)
  have hKq : ¬ n ≤ q := by omega
  have hl : isL (t q) = false := by simp [isL]; omega
  have hg : isG (t q) = false := by simp [isG]; omega
  have hK : lx_K t n q = if lx_rf t n q = true then 259 else 263 := by simp only [lx_K, hKq, hl, hg, hA, and_self, ↓reduceIte, Bool.false_eq_true]
  have hE : lx_E t n q = q + 3 := by simp only [lx_E, hKq, hl, hg, hA, and_self, ↓reduceIte, Bool.false_eq_true]
  cases hr : lx_rf t n q with
  | true =>
    rw [hr, if_pos rfl] at hK
    have hrf : (((q + 2 < n ∧ 97 ≤ t (q + 1)) ∧ t (q + 1) ≤ 104) ∧ 48 ≤ t (q + 2)) ∧ t (q + 2) ≤ 55 := by simpa only [lx_rf, Bool.and_eq_true, decide_eq_true_eq] using hr
    obtain ⟨⟨⟨⟨r1, r2⟩, r3⟩, r4⟩, r5⟩ := hrf
    have e1 : tA t n (q + 1) - nI 97 = nI (t (q + 1) - 97) := by rw [tA_lt (by omega), nI_sub r2]
    have e2 : tA t n (q + 2) - nI 48 = nI (t (q + 2) - 48) := by rw [tA_lt (by omega), nI_sub r4]
    apply Exists.intro
    refine ⟨fun Q => ?_, ?_, ?_⟩
    · simp (disch := first | with_reducible assumption | omega | exact Or.inl rfl | exact Or.inr rfl | exact bI_01 | exact c_cat | rfl | with_reducible repeat (first | assumption | apply S_I | apply S_L | apply S_D | apply ob_I | apply ob_L | apply ob_D | apply ob_R | apply ax_I | apply ax_L | apply ax_D | apply ax_R)) only [g29_0, g29_1, g29_4, g29_5, g29_8, g29_9, g29_10, g29_13, g29_15, g29_16, g29_17, g29_18, g29_21, g29_22, g29_25, g29_26, g29_27, g29_30, g29_32, g29_33, g29_34, g29_35, g29_38, g29_39, g29_41, g29_44, g29_45, g29_48, g29_49, g29_51, g29_54, g29_55, g29_56, g29_59, g29_60, g29_61, g29_63, g29_64, g29_65, g29_67, g29_68, g29_69, g29_70, g29_71, g29_72, g29_75, g29_76, g29_77, g29_80, g29_81, g29_82, g29_85, g29_86, g29_89, g29_92, hR, N, Option.toList, List.nil_append, List.cons_append, va_rf, hI_I, hI_L, hI_D, hI_R, hL_I, hL_L, hL_D, hL_R, hD_I, hD_L, hD_D, hD_R, hR_I, hR_L, hR_D, ↓reduceIte, Nat.reduceEqDiff, x_at5, T, nI_add, e1, e2, nI_lt0, nI_ltI, nI_leI, show ¬ 7 < t (q + 1) - 97 by omega, show t (q + 2) - 48 ≤ 7 by omega, nI_mul]
      exact Iff.rfl
    · exact fr_I (fr_I (fr_I fr_refl rfl) rfl) rfl
    · refine ⟨fun _ => ?_, fun q => absurd (hK.symm.trans q) (by decide), (by intro k7; first | (simp only [hI_I, hI_L, hI_D, hI_R, hL_I, hL_L, hL_D, hL_R, hD_I, hD_L, hD_D, hD_R, hR_I, hR_L, hR_D, ↓reduceIte, Nat.reduceEqDiff]; done) | (simp only [hI_I, hI_L, hI_D, hI_R, hL_I, hL_L, hL_D, hL_R, hD_I, hD_L, hD_D, hD_R, hR_I, hR_L, hR_D, ↓reduceIte, Nat.reduceEqDiff, g7]; done) | exact g7 | exact absurd hK k7)⟩
      simp only [LX, hI_I, hI_L, hI_D, hI_R, hL_I, hL_L, hL_D, hL_R, hD_I, hD_L, hD_D, hD_R, hR_I, hR_L, hR_D, ↓reduceIte, Nat.reduceEqDiff, hK, hE, P, F, true_and, false_implies, true_implies, and_true, or_self, Nat.reduceEqDiff, lx_c]
  | false =>
    rw [hr] at hK
    simp only [Bool.false_eq_true, ↓reduceIte] at hK
    have W : ∀ Q, am_J (d + 1) 29 0 [some (.ref 302), some (.int (nI (t q - 65))), none, none] [] h Q ↔ Q none (am_setI (am_setI (am_setI h 302 8 (nI 1)) 302 9 (nI q)) 302 2 (nI 263)) := by
      intro Q
      by_cases c1 : tA t n (q + 1) - nI 97 < 0
      · simp (disch := first | with_reducible assumption | omega | exact Or.inl rfl | exact Or.inr rfl | exact bI_01 | exact c_cat | rfl | with_reducible repeat (first | assumption | apply S_I | apply S_L | apply S_D | apply ob_I | apply ob_L | apply ob_D | apply ob_R | apply ax_I | apply ax_L | apply ax_D | apply ax_R)) only [g29_0, g29_1, g29_4, g29_5, g29_8, g29_9, g29_10, g29_13, g29_15, g29_16, g29_17, g29_18, g29_21, g29_22, g29_25, g29_26, g29_27, g29_30, g29_32, g29_33, g29_34, g29_35, g29_38, g29_39, g29_41, g29_44, g29_45, g29_48, g29_49, g29_51, g29_54, g29_55, g29_56, g29_59, g25_0, g25_1, g25_4, g25_7, g25_8, g25_9, g25_12, g25_13, g25_14, g25_17, g25_20, g25_21, g25_24, g25_27, hR, N, Option.toList, List.nil_append, List.cons_append, va_rf, hI_I, hI_L, hI_D, hI_R, hL_I, hL_L, hL_D, hL_R, hD_I, hD_L, hD_D, hD_R, hR_I, hR_L, hR_D, ↓reduceIte, Nat.reduceEqDiff, x_at5, T, nI_add, nI_e0, c1, P, F]
      · obtain ⟨a1, a2⟩ := tA_sub (b := 97) c1 (by decide)
        have b1 := (T.2.2.2 _ a1).2.1
        by_cases c2 : 7 < t (q + 1) - 97
        · simp (disch := first | with_reducible assumption | omega | exact Or.inl rfl | exact Or.inr rfl | exact bI_01 | exact c_cat | rfl | with_reducible repeat (first | assumption | apply S_I | apply S_L | apply S_D | apply ob_I | apply ob_L | apply ob_D | apply ob_R | apply ax_I | apply ax_L | apply ax_D | apply ax_R)) only [g29_0, g29_1, g29_4, g29_5, g29_8, g29_9, g29_10, g29_13, g29_15, g29_16, g29_17, g29_18, g29_21, g29_22, g29_25, g29_26, g29_27, g29_30, g29_32, g29_33, g29_34, g29_35, g29_38, g29_39, g29_41, g29_44, g29_45, g29_48, g29_49, g29_51, g29_54, g29_55, g29_56, g29_59, g25_0, g25_1, g25_4, g25_7, g25_8, g25_9, g25_12, g25_13, g25_14, g25_17, g25_20, g25_21, g25_24, g25_27, hR, N, Option.toList, List.nil_append, List.cons_append, va_rf, hI_I, hI_L, hI_D, hI_R, hL_I, hL_L, hL_D, hL_R, hD_I, hD_L, hD_D, hD_R, hR_I, hR_L, hR_D, ↓reduceIte, Nat.reduceEqDiff, x_at5, T, nI_add, nI_e0, tA_lt, nI_sub, nI_lt0, nI_ltI, c2, P, F]
        · by_cases c3 : tA t n (q + 2) - nI 48 < 0
          · simp (disch := first | with_reducible assumption | omega | exact Or.inl rfl | exact Or.inr rfl | exact bI_01 | exact c_cat | rfl | with_reducible repeat (first | assumption | apply S_I | apply S_L | apply S_D | apply ob_I | apply ob_L | apply ob_D | apply ob_R | apply ax_I | apply ax_L | apply ax_D | apply ax_R)) only [g29_0, g29_1, g29_4, g29_5, g29_8, g29_9, g29_10, g29_13, g29_15, g29_16, g29_17, g29_18, g29_21, g29_22, g29_25, g29_26, g29_27, g29_30, g29_32, g29_33, g29_34, g29_35, g29_38, g29_39, g29_41, g29_44, g29_45, g29_48, g29_49, g29_51, g29_54, g29_55, g29_56, g29_59, g25_0, g25_1, g25_4, g25_7, g25_8, g25_9, g25_12, g25_13, g25_14, g25_17, g25_20, g25_21, g25_24, g25_27, hR, N, Option.toList, List.nil_append, List.cons_append, va_rf, hI_I, hI_L, hI_D, hI_R, hL_I, hL_L, hL_D, hL_R, hD_I, hD_L, hD_D, hD_R, hR_I, hR_L, hR_D, ↓reduceIte, Nat.reduceEqDiff, x_at5, T, nI_add, nI_e0, tA_lt (p := q + 1), nI_sub, nI_lt0, nI_ltI, c2, c3, P, F]
          · obtain ⟨a3, a4⟩ := tA_sub (b := 48) c3 (by decide)
            have b3 := (T.2.2.2 _ a3).2.1
            have c4 : ¬ t (q + 2) - 48 ≤ 7 := by
              intro c4
              rw [show lx_rf t n q = true by simp only [lx_rf, Bool.and_eq_true, decide_eq_true_eq]; omega] at hr
              cases hr
            simp (disch := first | with_reducible assumption | omega | exact Or.inl rfl | exact Or.inr rfl | exact bI_01 | exact c_cat | rfl | with_reducible repeat (first | assumption | apply S_I | apply S_L | apply S_D | apply ob_I | apply ob_L | apply ob_D | apply ob_R | apply ax_I | apply ax_L | apply ax_D | apply ax_R)) only [g29_0, g29_1, g29_4, g29_5, g29_8, g29_9, g29_10, g29_13, g29_15, g29_16, g29_17, g29_18, g29_21, g29_22, g29_25, g29_26, g29_27, g29_30, g29_32, g29_33, g29_34, g29_35, g29_38, g29_39, g29_41, g29_44, g29_45, g29_48, g29_49, g29_51, g29_54, g29_55, g29_56, g29_59, g25_0, g25_1, g25_4, g25_7, g25_8, g25_9, g25_12, g25_13, g25_14, g25_17, g25_20, g25_21, g25_24, g25_27, hR, N, Option.toList, List.nil_append, List.cons_append, va_rf, hI_I, hI_L, hI_D, hI_R, hL_I, hL_L, hL_D, hL_R, hD_I, hD_L, hD_D, hD_R, hR_I, hR_L, hR_D, ↓reduceIte, Nat.reduceEqDiff, x_at5, T, nI_add, nI_e0, tA_lt, nI_sub, nI_lt0, nI_ltI, nI_leI, c2, c4, P, F]
    refine ⟨_, W, fr_I (fr_I (fr_I fr_refl rfl) rfl) rfl, fun q => absurd hK q, fun _ => ?_, (by intro k7; first | (simp only [hI_I, hI_L, hI_D, hI_R, hL_I, hL_L, hL_D, hL_R, hD_I, hD_L, hD_D, hD_R, hR_I, hR_L, hR_D, ↓reduceIte, Nat.reduceEqDiff]; done) | (simp only [hI_I, hI_L, hI_D, hI_R, hL_I, hL_L, hL_D, hL_R, hD_I, hD_L, hD_D, hD_R, hR_I, hR_L, hR_D, ↓reduceIte, Nat.reduceEqDiff, g7]; done) | exact g7 | exact absurd hK k7)⟩
    simp only [LB, hI_I, hI_L, hI_D, hI_R, hL_I, hL_L, hL_D, hL_R, hD_I, hD_L, hD_D, hD_R, hR_I, hR_L, hR_D, ↓reduceIte, Nat.reduceEqDiff, P, N, true_and]
    exact ⟨⟨q, by omega, rfl⟩, q, by omega, rfl⟩
theorem x_readSign (S : am_S h) (T : xT h t n) (N : am_I h 302 1 = nI q) (P : am_I h 302 3 = nI q) (hq : q < n) (hl : isL (t q) = false) (hg : isG (t q) = false) (hA : ¬ (65 ≤ t q ∧ t q ≤ 68)) (F : am_I h 302 8 = nI 0) : ∃ h', am_run (d + 1) 30 [some (.ref 302), some (.int (nI (t q))), none] h none h' ∧ am_fr (fun a => a = 302) h h' ∧ LA h h' t n q := by
  have T3 := T.2.2.1
  have hR := T.1
  have O5 := am_S_ob (a := 5) (c := 10) S (by decide +kernel)
  have hKq : ¬ n ≤ q := by omega
  have tq := T.2.2.2 q hq
  by_cases h60 : t q = 60
  · by_cases h61 : q + 1 < n ∧ t (q + 1) = 61
    · have hK : lx_K t n q = 256 := by simp only [lx_K, hKq, hl, hg, hA, h60, h61, and_self, ↓reduceIte, Bool.false_eq_true]; rfl
      have hE : lx_E t n q = q + 2 := by simp only [lx_E, hKq, hl, hg, hA, h60, h61, and_self, ↓reduceIte, Bool.false_eq_true, true_or]; rfl
      apply Exists.intro
      refine ⟨fun Q => ?_, ?_, ?_⟩
      · simp (disch := first | with_reducible assumption | omega | exact Or.inl rfl | exact Or.inr rfl | exact bI_01 | exact c_cat | rfl | with_reducible repeat (first | assumption | apply S_I | apply S_L | apply S_D | apply ob_I | apply ob_L | apply ob_D | apply ob_R | apply ax_I | apply ax_L | apply ax_D | apply ax_R)) only [g30_0, g30_1, g30_4, g30_5, g30_8, g30_9, g30_10, g30_13, g30_14, g30_15, g30_17, g30_20, g30_21, g30_23, g30_26, g30_27, g30_29, g30_32, g30_33, g30_34, g30_36, g30_39, g30_42, g30_45, g30_48, g30_51, g30_52, g30_53, g30_56, g30_57, g30_58, g30_61, hR, N, Option.toList, List.nil_append, List.cons_append, va_rf, hI_I, hI_L, hI_D, hI_R, hL_I, hL_L, hL_D, hL_R, hD_I, hD_L, hD_D, hD_R, hR_I, hR_L, hR_D, ↓reduceIte, Nat.reduceEqDiff, x_at5, T, nI_ltI, nI_leI, nI_eq, nI_add, nI_sub, nI_lt0, nI_e0, nI_m1, m1_nI, Nat.reduceEqDiff, Nat.reduceLT, Nat.reduceLeDiff, Nat.reduceAdd, Nat.reduceSub, Nat.reduceMul, ↓reduceIte, eq_self, h60, tA_lt h61.1, h61.2]
        exact Iff.rfl
      · exact fr_I (fr_I fr_refl rfl) rfl
      · refine ⟨fun _ => ?_, fun q => absurd (hK.symm.trans q) (by decide), (by intro k7; first | (simp only [hI_I, hI_L, hI_D, hI_R, hL_I, hL_L, hL_D, hL_R, hD_I, hD_L, hD_D, hD_R, hR_I, hR_L, hR_D, ↓reduceIte, Nat.reduceEqDiff]; done) | (simp only [hI_I, hI_L, hI_D, hI_R, hL_I, hL_L, hL_D, hL_R, hD_I, hD_L, hD_D, hD_R, hR_I, hR_L, hR_D, ↓reduceIte, Nat.reduceEqDiff, g7]; done) | exact g7 | exact absurd hK k7)⟩
        simp only [LX, hI_I, hI_L, hI_D, hI_R, hL_I, hL_L, hL_D, hL_R, hD_I, hD_L, hD_D, hD_R, hR_I, hR_L, hR_D, ↓reduceIte, Nat.reduceEqDiff, hK, hE, P, F, true_and, false_implies, true_implies, and_true, or_self, Nat.reduceEqDiff]
    · by_cases h62 : q + 1 < n ∧ t (q + 1) = 62
      · have hK : lx_K t n q = 257 := by simp only [lx_K, hKq, hl, hg, hA, h60, h62, and_self, ↓reduceIte, Bool.false_eq_true, Nat.reduceEqDiff, and_false]; rfl
        have hE : lx_E t n q = q + 2 := by simp only [lx_E, hKq, hl, hg, hA, h60, h62, and_self, ↓reduceIte, Bool.false_eq_true, or_true]; rfl
        apply Exists.intro
        refine ⟨fun Q => ?_, ?_, ?_⟩
        · simp (disch := first | with_reducible assumption | omega | exact Or.inl rfl | exact Or.inr rfl | exact bI_01 | exact c_cat | rfl | with_reducible repeat (first | assumption | apply S_I | apply S_L | apply S_D | apply ob_I | apply ob_L | apply ob_D | apply ob_R | apply ax_I | apply ax_L | apply ax_D | apply ax_R)) only [g30_0, g30_1, g30_4, g30_5, g30_8, g30_9, g30_10, g30_13, g30_14, g30_15, g30_17, g30_20, g30_21, g30_23, g30_26, g30_27, g30_29, g30_32, g30_33, g30_34, g30_36, g30_39, g30_42, g30_45, g30_48, g30_51, g30_52, g30_53, g30_56, g30_57, g30_58, g30_61, hR, N, Option.toList, List.nil_append, List.cons_append, va_rf, hI_I, hI_L, hI_D, hI_R, hL_I, hL_L, hL_D, hL_R, hD_I, hD_L, hD_D, hD_R, hR_I, hR_L, hR_D, ↓reduceIte, Nat.reduceEqDiff, x_at5, T, nI_ltI, nI_leI, nI_eq, nI_add, nI_sub, nI_lt0, nI_e0, nI_m1, m1_nI, Nat.reduceEqDiff, Nat.reduceLT, Nat.reduceLeDiff, Nat.reduceAdd, Nat.reduceSub, Nat.reduceMul, ↓reduceIte, eq_self, h60, tA_lt h62.1, h62.2]
          exact Iff.rfl
        · exact fr_I (fr_I fr_refl rfl) rfl
        · refine ⟨fun _ => ?_, fun q => absurd (hK.symm.trans q) (by decide), (by intro k7; first | (simp only [hI_I, hI_L, hI_D, hI_R, hL_I, hL_L, hL_D, hL_R, hD_I, hD_L, hD_D, hD_R, hR_I, hR_L, hR_D, ↓reduceIte, Nat.reduceEqDiff]; done) | (simp only [hI_I, hI_L, hI_D, hI_R, hL_I, hL_L, hL_D, hL_R, hD_I, hD_L, hD_D, hD_R, hR_I, hR_L, hR_D, ↓reduceIte, Nat.reduceEqDiff, g7]; done) | exact g7 | exact absurd hK k7)⟩
          simp only [LX, hI_I, hI_L, hI_D, hI_R, hL_I, hL_L, hL_D, hL_R, hD_I, hD_L, hD_D, hD_R, hR_I, hR_L, hR_D, ↓reduceIte, Nat.reduceEqDiff, hK, hE, P, F, true_and, false_implies, true_implies, and_true, or_self, Nat.reduceEqDiff]
      · have hK : lx_K t n q = 60 := by simp only [lx_K, hKq, hl, hg, hA, h60, h61, h62, and_false, ↓reduceIte, Bool.false_eq_true]; rfl
        have hE : lx_E t n q = q + 1 := by
          have : ¬ (q + 1 < n ∧ (t (q + 1) = 61 ∨ t (q + 1) = 62)) := fun x => x.2.elim (fun y => h61 ⟨x.1, y⟩) (fun y => h62 ⟨x.1, y⟩)
          simp only [lx_E, hKq, hl, hg, hA, h60, this, and_false, ↓reduceIte, Bool.false_eq_true]; rfl
        have f1 : (tA t n (q + 1) = nI 61) = False := eq_false (fun e => by
          by_cases c : q + 1 < n
          · rw [tA_lt c] at e; exact h61 ⟨c, (nI_eq (by have := (T.2.2.2 _ c).2.1; omega) (by decide)).mp e⟩
          · rw [tA_ge (by omega)] at e; exact absurd e (by decide))
        have f2 : (tA t n (q + 1) = nI 62) = False := eq_false (fun e => by
          by_cases c : q + 1 < n
          · rw [tA_lt c] at e; exact h62 ⟨c, (nI_eq (by have := (T.2.2.2 _ c).2.1; omega) (by decide)).mp e⟩
          · rw [tA_ge (by omega)] at e; exact absurd e (by decide))
        apply Exists.intro
        refine ⟨fun Q => ?_, ?_, ?_⟩
        · simp (disch := first | with_reducible assumption | omega | exact Or.inl rfl | exact Or.inr rfl | exact bI_01 | exact c_cat | rfl | with_reducible repeat (first | assumption | apply S_I | apply S_L | apply S_D | apply ob_I | apply ob_L | apply ob_D | apply ob_R | apply ax_I | apply ax_L | apply ax_D | apply ax_R)) only [g30_0, g30_1, g30_4, g30_5, g30_8, g30_9, g30_10, g30_13, g30_14, g30_15, g30_17, g30_20, g30_21, g30_23, g30_26, g30_27, g30_29, g30_32, g30_33, g30_34, g30_36, g30_39, g30_42, g30_45, g30_48, g30_51, g30_52, g30_53, g30_56, g30_57, g30_58, g30_61, g30_62, g30_176, g30_177, g30_178, g30_181, g30_182, g30_183, g30_186, g30_187, g30_188, g30_191, g30_194, g30_195, g30_196, g30_199, g30_63_60, hR, N, Option.toList, List.nil_append, List.cons_append, va_rf, hI_I, hI_L, hI_D, hI_R, hL_I, hL_L, hL_D, hL_R, hD_I, hD_L, hD_D, hD_R, hR_I, hR_L, hR_D, ↓reduceIte, Nat.reduceEqDiff, x_at5, T, nI_add, nI_eq, h60, f1, f2]
          exact Iff.rfl
        · exact fr_I (fr_I fr_refl rfl) rfl
        · refine ⟨fun _ => ?_, fun q => absurd (hK.symm.trans q) (by decide), (by intro k7; first | (simp only [hI_I, hI_L, hI_D, hI_R, hL_I, hL_L, hL_D, hL_R, hD_I, hD_L, hD_D, hD_R, hR_I, hR_L, hR_D, ↓reduceIte, Nat.reduceEqDiff]; done) | (simp only [hI_I, hI_L, hI_D, hI_R, hL_I, hL_L, hL_D, hL_R, hD_I, hD_L, hD_D, hD_R, hR_I, hR_L, hR_D, ↓reduceIte, Nat.reduceEqDiff, g7]; done) | exact g7 | exact absurd hK k7)⟩
          simp only [LX, hI_I, hI_L, hI_D, hI_R, hL_I, hL_L, hL_D, hL_R, hD_I, hD_L, hD_D, hD_R, hR_I, hR_L, hR_D, ↓reduceIte, Nat.reduceEqDiff, hK, hE, P, F, true_and, false_implies, true_implies, and_true, or_self, Nat.reduceEqDiff]
  · have hE : lx_E t n q = q + 1 := by simp only [lx_E, hKq, hl, hg, hA, h60, false_and, ↓reduceIte, Bool.false_eq_true]
    have hK : lx_K t n q = if lx_sg (t q) = true then t q else 263 := by simp only [lx_K, hKq, hl, hg, hA, h60, false_and, ↓reduceIte, Bool.false_eq_true]
    have W0 : ∀ Q, am_J (d + 1) 30 0 [some (.ref 302), some (.int (nI (t q))), none] [] h Q ↔ am_J (d + 1) 30 63 [some (.ref 302), some (.int (nI (t q))), some (.int (tA t n (q + 1)))] [.int (nI (t q))] h Q := by
      intro Q
      simp (disch := first | with_reducible assumption | omega | exact Or.inl rfl | exact Or.inr rfl | exact bI_01 | exact c_cat | rfl | with_reducible repeat (first | assumption | apply S_I | apply S_L | apply S_D | apply ob_I | apply ob_L | apply ob_D | apply ob_R | apply ax_I | apply ax_L | apply ax_D | apply ax_R)) only [g30_0, g30_1, g30_4, g30_5, g30_8, g30_9, g30_10, g30_13, g30_14, g30_15, g30_17, g30_20, g30_21, g30_23, g30_26, g30_27, g30_29, g30_32, g30_33, g30_34, g30_36, g30_39, g30_42, g30_45, g30_48, g30_51, g30_52, g30_53, g30_56, g30_57, g30_58, g30_61, g30_62, hR, N, Option.toList, List.nil_append, List.cons_append, va_rf, hI_I, hI_L, hI_D, hI_R, hL_I, hL_L, hL_D, hL_R, hD_I, hD_L, hD_D, hD_R, hR_I, hR_L, hR_D, ↓reduceIte, Nat.reduceEqDiff, x_at5, T, nI_add, nI_eq, h60]
    cases hs : lx_sg (t q) with
    | true =>
      rw [hs, if_pos rfl] at hK
      have hm : t q ∈ [37, 40, 41, 42, 43, 44, 45, 47, 58, 60, 61] := of_decide_eq_true hs
      have W1 : ∀ Q, am_J (d + 1) 30 63 [some (.ref 302), some (.int (nI (t q))), some (.int (tA t n (q + 1)))] [.int (nI (t q))] h Q ↔ am_J (d + 1) 30 176 [some (.ref 302), some (.int (nI (t q))), some (.int (tA t n (q + 1)))] [] h Q := by
        intro Q
        simp only [List.mem_cons, List.not_mem_nil, or_false] at hm
        rcases hm with e | e | e | e | e | e | e | e | e | e | e <;> rw [e] <;> first | exact g30_63_37 | exact g30_63_40 | exact g30_63_41 | exact g30_63_42 | exact g30_63_43 | exact g30_63_44 | exact g30_63_45 | exact g30_63_47 | exact g30_63_58 | exact g30_63_60 | exact g30_63_61
      have hb : t q < 256 := by omega
      have k1 : t q ≠ 263 := by omega
      have k2 : t q ≠ 258 := by omega
      have k3 : t q ≠ 260 := by omega
      have k4 : t q ≠ 261 := by omega
      have k5 : t q ≠ 259 := by omega
      apply Exists.intro
      refine ⟨fun Q => ?_, ?_, ?_⟩
      · rw [W0, W1]
        simp (disch := first | with_reducible assumption | omega | exact Or.inl rfl | exact Or.inr rfl | exact bI_01 | exact c_cat | rfl | with_reducible repeat (first | assumption | apply S_I | apply S_L | apply S_D | apply ob_I | apply ob_L | apply ob_D | apply ob_R | apply ax_I | apply ax_L | apply ax_D | apply ax_R)) only [g30_176, g30_177, g30_178, g30_181, g30_182, g30_183, g30_186, g30_187, g30_188, g30_191, g30_194, g30_195, g30_196, g30_199, N, Option.toList, List.nil_append, List.cons_append, va_rf, hI_I, hI_L, hI_D, hI_R, hL_I, hL_L, hL_D, hL_R, hD_I, hD_L, hD_D, hD_R, hR_I, hR_L, hR_D, ↓reduceIte, Nat.reduceEqDiff, nI_add]
        exact Iff.rfl
      · exact fr_I (fr_I fr_refl rfl) rfl
      · refine ⟨fun _ => ?_, fun q => absurd (hK.symm.trans q) k1, (by intro k7; first | (simp only [hI_I, hI_L, hI_D, hI_R, hL_I, hL_L, hL_D, hL_R, hD_I, hD_L, hD_D, hD_R, hR_I, hR_L, hR_D, ↓reduceIte, Nat.reduceEqDiff]; done) | (simp only [hI_I, hI_L, hI_D, hI_R, hL_I, hL_L, hL_D, hL_R, hD_I, hD_L, hD_D, hD_R, hR_I, hR_L, hR_D, ↓reduceIte, Nat.reduceEqDiff, g7]; done) | exact g7 | exact absurd hK k7)⟩
        simp only [LX, hI_I, hI_L, hI_D, hI_R, hL_I, hL_L, hL_D, hL_R, hD_I, hD_L, hD_D, hD_R, hR_I, hR_L, hR_D, ↓reduceIte, Nat.reduceEqDiff, hK, hE, P, F, true_and, false_implies, true_implies, and_true, or_self, Nat.reduceEqDiff, k2, k3, k4, k5]
    | false =>
      rw [hs] at hK
      simp only [Bool.false_eq_true, ↓reduceIte] at hK
      have hm : ¬ t q ∈ [37, 40, 41, 42, 43, 44, 45, 47, 58, 60, 61] := of_decide_eq_false hs
      have W1 : ∀ Q, am_J (d + 1) 30 63 [some (.ref 302), some (.int (nI (t q))), some (.int (tA t n (q + 1)))] [.int (nI (t q))] h Q ↔ am_J (d + 1) 30 194 [some (.ref 302), some (.int (nI (t q))), some (.int (tA t n (q + 1)))] [] h Q := by
        intro Q
        by_cases c : t q < 37 ∨ 61 < t q
        · exact g30_63d (by rw [nI_toInt (by omega)]; omega)
        · simp only [List.mem_cons, List.not_mem_nil, or_false] at hm
          rcases (show t q = 38 ∨ t q = 39 ∨ t q = 46 ∨ t q = 48 ∨ t q = 49 ∨ t q = 50 ∨ t q = 51 ∨ t q = 52 ∨ t q = 53 ∨ t q = 54 ∨ t q = 55 ∨ t q = 56 ∨ t q = 57 ∨ t q = 59 by omega) with e | e | e | e | e | e | e | e | e | e | e | e | e | e <;> rw [e] <;> first | exact g30_63_38 | exact g30_63_39 | exact g30_63_46 | exact g30_63_48 | exact g30_63_49 | exact g30_63_50 | exact g30_63_51 | exact g30_63_52 | exact g30_63_53 | exact g30_63_54 | exact g30_63_55 | exact g30_63_56 | exact g30_63_57 | exact g30_63_59
      apply Exists.intro
      refine ⟨fun Q => ?_, ?_, ?_⟩
      · rw [W0, W1]
        simp (disch := first | with_reducible assumption | omega | exact Or.inl rfl | exact Or.inr rfl | exact bI_01 | exact c_cat | rfl | with_reducible repeat (first | assumption | apply S_I | apply S_L | apply S_D | apply ob_I | apply ob_L | apply ob_D | apply ob_R | apply ax_I | apply ax_L | apply ax_D | apply ax_R)) only [g30_194, g30_195, g30_196, g30_199, g25_0, g25_1, g25_4, g25_7, g25_8, g25_9, g25_12, g25_13, g25_14, g25_17, g25_20, g25_21, g25_24, g25_27, N, Option.toList, List.nil_append, List.cons_append, va_rf, hI_I, hI_L, hI_D, hI_R, hL_I, hL_L, hL_D, hL_R, hD_I, hD_L, hD_D, hD_R, hR_I, hR_L, hR_D, ↓reduceIte, Nat.reduceEqDiff, nI_e0, P, F]
        exact Iff.rfl
      · exact fr_I (fr_I (fr_I fr_refl rfl) rfl) rfl
      · refine ⟨fun q => absurd hK q, fun _ => ?_, (by intro k7; first | (simp only [hI_I, hI_L, hI_D, hI_R, hL_I, hL_L, hL_D, hL_R, hD_I, hD_L, hD_D, hD_R, hR_I, hR_L, hR_D, ↓reduceIte, Nat.reduceEqDiff]; done) | (simp only [hI_I, hI_L, hI_D, hI_R, hL_I, hL_L, hL_D, hL_R, hD_I, hD_L, hD_D, hD_R, hR_I, hR_L, hR_D, ↓reduceIte, Nat.reduceEqDiff, g7]; done) | exact g7 | exact absurd hK k7)⟩
        simp only [LB, hI_I, hI_L, hI_D, hI_R, hL_I, hL_L, hL_D, hL_R, hD_I, hD_L, hD_D, hD_R, hR_I, hR_L, hR_D, ↓reduceIte, Nat.reduceEqDiff, P, N, true_and]
        exact ⟨⟨q, by omega, rfl⟩, q, by omega, rfl⟩
theorem x_adv1 (S : am_S h) (T : xT h t n) (N : am_I h 302 1 = nI p) (hp : p ≤ n) {k : Nat} (K : am_I h 302 2 = nI k) (hk : k < 263) : am_J (d + 1) 22 0 [some (.ref 302), v1] [] h Q ↔ am_J (d + 1) 22 74 [some (.ref 302), some (.int (tA t n (lx_q t n p)))] [] (am_setI (am_setI h 302 1 (nI (lx_q t n p))) 302 3 (nI (lx_q t n p))) Q := by
  have T3 := T.2.2.1
  have O5 := am_S_ob (a := 5) (c := 10) S (by decide +kernel)
  have hR := T.1
  have l2 : lx_q t n p ≤ n := scan_le hp
  have W : am_J (d + 1) 22 0 [some (.ref 302), v1] [] h Q ↔ am_J (d + 1) 22 11 [some (.ref 302), v1] [] h Q := by
    simp (disch := first | with_reducible assumption | omega | exact Or.inl rfl | exact Or.inr rfl | exact bI_01 | exact c_cat | rfl | with_reducible repeat (first | assumption | apply S_I | apply S_L | apply S_D | apply ob_I | apply ob_L | apply ob_D | apply ob_R | apply ax_I | apply ax_L | apply ax_D | apply ax_R)) only [g22_0, g22_1, g22_4, g22_7, g22_10, K, nI_ltI, nI_leI, nI_eq, nI_add, nI_sub, nI_lt0, nI_e0, nI_m1, m1_nI, Nat.reduceEqDiff, Nat.reduceLT, Nat.reduceLeDiff, Nat.reduceAdd, Nat.reduceSub, Nat.reduceMul, ↓reduceIte, eq_self, show ¬ k = 263 by omega]
  rw [W, x_skip _ p h rfl hp S T N]
  have T1 : xT (am_setI (am_setI h 302 1 (nI (lx_q t n p))) 302 3 (nI (lx_q t n p))) t n := xT_I (xT_I T (by decide) (by decide)) (by decide) (by decide)
  simp (disch := first | with_reducible assumption | omega | exact Or.inl rfl | exact Or.inr rfl | exact bI_01 | exact c_cat | rfl | with_reducible repeat (first | assumption | apply S_I | apply S_L | apply S_D | apply ob_I | apply ob_L | apply ob_D | apply ob_R | apply ax_I | apply ax_L | apply ax_D | apply ax_R)) only [g22_54, g22_55, g22_56, g22_59, g22_62, g22_63, g22_66, g22_67, g22_70, g22_73, hR, Option.toList, List.nil_append, List.cons_append, va_rf, hI_I, hI_L, hI_D, hI_R, hL_I, hL_L, hL_D, hL_R, hD_I, hD_L, hD_D, hD_R, hR_I, hR_L, hR_D, ↓reduceIte, Nat.reduceEqDiff, x_at5, T1]
theorem LA_h {h0 h' : am_H} (h8 : am_I h 302 8 = am_I h0 302 8) (h9 : am_I h 302 9 = am_I h0 302 9) (h7 : am_I h 302 7 = am_I h0 302 7) (A : LA h h' t n q) : LA h0 h' t n q := ⟨fun k => by rw [← h8, ← h9]; exact A.1 k, A.2.1, fun k => by rw [← h7]; exact A.2.2 k⟩
theorem x_advance (S : am_S h) (T : xT h t n) (N : am_I h 302 1 = nI p) (hp : p ≤ n) {k : Nat} (K : am_I h 302 2 = nI k) (hk : k < 263) (F : am_I h 302 8 = nI 0) : ∃ h', am_run (d + 2) 22 [some (.ref 302), v1] h none h' ∧ am_fr (fun a => a = 302) h h' ∧ LA h h' t n (lx_q t n p) := by
  have T3 := T.2.2.1
  have l2 : lx_q t n p ≤ n := scan_le hp
  have T1 : xT (am_setI (am_setI h 302 1 (nI (lx_q t n p))) 302 3 (nI (lx_q t n p))) t n := xT_I (xT_I T (by decide) (by decide)) (by decide) (by decide)
  have S1 : am_S (am_setI (am_setI h 302 1 (nI (lx_q t n p))) 302 3 (nI (lx_q t n p))) := S_I (S_I S)
  have F1 : am_fr (fun a => a = 302) h (am_setI (am_setI h 302 1 (nI (lx_q t n p))) 302 3 (nI (lx_q t n p))) := fr_I (fr_I fr_refl rfl) rfl
  have N1 : am_I (am_setI (am_setI h 302 1 (nI (lx_q t n p))) 302 3 (nI (lx_q t n p))) 302 1 = nI (lx_q t n p) := by simp only [hI_I, hI_L, hI_D, hI_R, hL_I, hL_L, hL_D, hL_R, hD_I, hD_L, hD_D, hD_R, hR_I, hR_L, hR_D, ↓reduceIte, Nat.reduceEqDiff]
  have P1 : am_I (am_setI (am_setI h 302 1 (nI (lx_q t n p))) 302 3 (nI (lx_q t n p))) 302 3 = nI (lx_q t n p) := by simp only [hI_I, hI_L, hI_D, hI_R, hL_I, hL_L, hL_D, hL_R, hD_I, hD_L, hD_D, hD_R, hR_I, hR_L, hR_D, ↓reduceIte, Nat.reduceEqDiff]
  have E8 : am_I (am_setI (am_setI h 302 1 (nI (lx_q t n p))) 302 3 (nI (lx_q t n p))) 302 8 = am_I h 302 8 := by simp only [hI_I, hI_L, hI_D, hI_R, hL_I, hL_L, hL_D, hL_R, hD_I, hD_L, hD_D, hD_R, hR_I, hR_L, hR_D, ↓reduceIte, Nat.reduceEqDiff]
  have E9 : am_I (am_setI (am_setI h 302 1 (nI (lx_q t n p))) 302 3 (nI (lx_q t n p))) 302 9 = am_I h 302 9 := by simp only [hI_I, hI_L, hI_D, hI_R, hL_I, hL_L, hL_D, hL_R, hD_I, hD_L, hD_D, hD_R, hR_I, hR_L, hR_D, ↓reduceIte, Nat.reduceEqDiff]
  have g7 : am_I (am_setI (am_setI h 302 1 (nI (lx_q t n p))) 302 3 (nI (lx_q t n p))) 302 7 = am_I h 302 7 := by simp only [hI_I, hI_L, hI_D, hI_R, hL_I, hL_L, hL_D, hL_R, hD_I, hD_L, hD_D, hD_R, hR_I, hR_L, hR_D, ↓reduceIte, Nat.reduceEqDiff]
  have F8 := E8.trans F
  have W : ∀ Q, am_J (d + 2) 22 0 [some (.ref 302), v1] [] h Q ↔ _ := fun Q => x_adv1 (d := d + 1) (v1 := v1) S T N hp K hk
  generalize hq : lx_q t n p = q at *
  generalize am_setI (am_setI h 302 1 (nI q)) 302 3 (nI q) = g at *
  by_cases hn : n ≤ q
  · have hK : lx_K t n q = 262 := if_pos hn
    have hE : lx_E t n q = q := if_pos hn
    apply Exists.intro
    refine ⟨fun Q => ?_, ?_, ?_⟩
    · rw [W, tA_ge hn]
      simp (disch := first | with_reducible assumption | omega | exact Or.inl rfl | exact Or.inr rfl | exact bI_01 | exact c_cat | rfl | with_reducible repeat (first | assumption | apply S_I | apply S_L | apply S_D | apply ob_I | apply ob_L | apply ob_D | apply ob_R | apply ax_I | apply ax_L | apply ax_D | apply ax_R)) only [g22_74, g22_75, g22_76, g22_79, g22_80, g22_83, g22_86, g22_89, g22_90, g22_93, g22_96, g22_97, g22_100, g22_103, g22_104, g22_107, g22_110, g22_111, g22_114, g22_117, g22_118, g22_120, g22_123, g22_124, g22_126, g22_129, g22_130, g22_131, g22_133, g22_134, g22_137, g22_140, g22_141, g22_142, g22_145, ↓reduceIte]
      exact Iff.rfl
    · exact fr_I F1 rfl
    · refine ⟨fun _ => ?_, fun q => absurd (hK.symm.trans q) (by decide), (by intro k7; first | (simp only [hI_I, hI_L, hI_D, hI_R, hL_I, hL_L, hL_D, hL_R, hD_I, hD_L, hD_D, hD_R, hR_I, hR_L, hR_D, ↓reduceIte, Nat.reduceEqDiff]; done) | (simp only [hI_I, hI_L, hI_D, hI_R, hL_I, hL_L, hL_D, hL_R, hD_I, hD_L, hD_D, hD_R, hR_I, hR_L, hR_D, ↓reduceIte, Nat.reduceEqDiff, g7]; done) | exact g7 | exact absurd hK k7)⟩
      simp only [LX, hI_I, hI_L, hI_D, hI_R, hL_I, hL_L, hL_D, hL_R, hD_I, hD_L, hD_D, hD_R, hR_I, hR_L, hR_D, ↓reduceIte, Nat.reduceEqDiff, hK, hE, N1, P1, E8, E9, true_and, false_implies, true_implies, and_true, or_self, Nat.reduceEqDiff]
  · have hqn : q < n := by omega
    have tq := T.2.2.2 q hqn
    cases hl : isL (t q) with
    | true =>
      obtain ⟨g', R, Fg, c1, c2, c7, c3, c4⟩ := x_readName (d := d) S1 T1 N1 P1 (by omega) F8
      refine ⟨g', fun Q => ?_, fr_trans F1 Fg, ?_⟩
      · rw [W, tA_lt hqn]
        simp (disch := first | with_reducible assumption | omega | exact Or.inl rfl | exact Or.inr rfl | exact bI_01 | exact c_cat | rfl | with_reducible repeat (first | assumption | apply S_I | apply S_L | apply S_D | apply ob_I | apply ob_L | apply ob_D | apply ob_R | apply ax_I | apply ax_L | apply ax_D | apply ax_R)) only [g22_74, g22_75, g22_76, g22_79, g22_80, g22_83, g22_86, g22_89, g22_90, g22_93, g22_96, g22_97, g22_100, g22_103, g22_104, g22_107, g22_110, g22_111, g22_114, g22_117, g22_118, g22_120, g22_123, g22_124, g22_126, g22_129, g22_130, g22_131, g22_133, g22_134, g22_137, g22_140, g22_141, g22_142, g22_145, nI_ltI, nI_leI, nI_eq, nI_add, nI_sub, nI_lt0, nI_e0, nI_m1, m1_nI, Nat.reduceEqDiff, Nat.reduceLT, Nat.reduceLeDiff, Nat.reduceAdd, Nat.reduceSub, Nat.reduceMul, ↓reduceIte, eq_self, x_isL, hl, bI_t, R _, Option.toList, List.nil_append, List.cons_append, va_rf]
      · have hK : lx_K t n q = if 8 < lx_L t n q - q then 263 else 258 := by simp only [lx_K, hn, hl, ↓reduceIte]
        have hE : lx_E t n q = lx_L t n q := by simp only [lx_E, hn, hl, ↓reduceIte]
        by_cases h8 : 8 < lx_L t n q - q
        · rw [if_pos h8] at hK
          refine ⟨fun q => absurd hK q, fun _ => ?_, fun _ => c7.trans g7⟩
          obtain ⟨b1, b2, b3⟩ := c4 h8
          exact ⟨b1, b2, b3, ⟨q, by omega, c2⟩, _, scan_le (by omega), c1⟩
        · rw [if_neg h8] at hK
          obtain ⟨b1, b2, b3, b4⟩ := c3 h8
          refine ⟨fun _ => ?_, fun q => absurd (hK.symm.trans q) (by decide), fun _ => c7.trans g7⟩
          simp only [LX, hK, hE, b1, b2, b3, b4, c1, c2, F, E9, true_and, false_implies, true_implies, and_true, or_self, Nat.reduceEqDiff]
    | false =>
      cases hg : isG (t q) with
      | true =>
        obtain ⟨g', R, Fg, A⟩ := x_digits (d := d) S1 T1 N1 P1 hqn hg hl F8
        refine ⟨g', fun Q => ?_, fr_trans F1 Fg, LA_h E8 E9 g7 A⟩
        rw [W, tA_lt hqn]
        simp (disch := first | with_reducible assumption | omega | exact Or.inl rfl | exact Or.inr rfl | exact bI_01 | exact c_cat | rfl | with_reducible repeat (first | assumption | apply S_I | apply S_L | apply S_D | apply ob_I | apply ob_L | apply ob_D | apply ob_R | apply ax_I | apply ax_L | apply ax_D | apply ax_R)) only [g22_74, g22_75, g22_76, g22_79, g22_80, g22_83, g22_86, g22_89, g22_90, g22_93, g22_96, g22_97, g22_100, g22_103, g22_104, g22_107, g22_110, g22_111, g22_114, g22_117, g22_118, g22_120, g22_123, g22_124, g22_126, g22_129, g22_130, g22_131, g22_133, g22_134, g22_137, g22_140, g22_141, g22_142, g22_145, nI_ltI, nI_leI, nI_eq, nI_add, nI_sub, nI_lt0, nI_e0, nI_m1, m1_nI, Nat.reduceEqDiff, Nat.reduceLT, Nat.reduceLeDiff, Nat.reduceAdd, Nat.reduceSub, Nat.reduceMul, ↓reduceIte, eq_self, x_isL, hl, bI_f, x_isG, hg, bI_t, R _, Option.toList, List.nil_append, List.cons_append, va_rf]
      | false =>
        by_cases hA : 65 ≤ t q ∧ t q ≤ 68
        · obtain ⟨g', R, Fg, A⟩ := x_readRef (d := d) S1 T1 N1 P1 hqn hA F8
          refine ⟨g', fun Q => ?_, fr_trans F1 Fg, LA_h E8 E9 g7 A⟩
          rw [W, tA_lt hqn]
          simp (disch := first | with_reducible assumption | omega | exact Or.inl rfl | exact Or.inr rfl | exact bI_01 | exact c_cat | rfl | with_reducible repeat (first | assumption | apply S_I | apply S_L | apply S_D | apply ob_I | apply ob_L | apply ob_D | apply ob_R | apply ax_I | apply ax_L | apply ax_D | apply ax_R)) only [g22_74, g22_75, g22_76, g22_79, g22_80, g22_83, g22_86, g22_89, g22_90, g22_93, g22_96, g22_97, g22_100, g22_103, g22_104, g22_107, g22_110, g22_111, g22_114, g22_117, g22_118, g22_120, g22_123, g22_124, g22_126, g22_129, g22_130, g22_131, g22_133, g22_134, g22_137, g22_140, g22_141, g22_142, g22_145, nI_ltI, nI_leI, nI_eq, nI_add, nI_sub, nI_lt0, nI_e0, nI_m1, m1_nI, Nat.reduceEqDiff, Nat.reduceLT, Nat.reduceLeDiff, Nat.reduceAdd, Nat.reduceSub, Nat.reduceMul, ↓reduceIte, eq_self, x_isL, hl, bI_f, x_isG, hg, R _, Option.toList, List.nil_append, List.cons_append, va_rf, show ¬ t q < 65 by omega, show ¬ 68 < t q by omega]
        · obtain ⟨g', R, Fg, A⟩ := x_readSign (d := d) S1 T1 N1 P1 hqn hl hg hA F8
          refine ⟨g', fun Q => ?_, fr_trans F1 Fg, LA_h E8 E9 g7 A⟩
          rw [W, tA_lt hqn]
          by_cases h65 : t q < 65
          · simp (disch := first | with_reducible assumption | omega | exact Or.inl rfl | exact Or.inr rfl | exact bI_01 | exact c_cat | rfl | with_reducible repeat (first | assumption | apply S_I | apply S_L | apply S_D | apply ob_I | apply ob_L | apply ob_D | apply ob_R | apply ax_I | apply ax_L | apply ax_D | apply ax_R)) only [g22_74, g22_75, g22_76, g22_79, g22_80, g22_83, g22_86, g22_89, g22_90, g22_93, g22_96, g22_97, g22_100, g22_103, g22_104, g22_107, g22_110, g22_111, g22_114, g22_117, g22_118, g22_120, g22_123, g22_124, g22_126, g22_129, g22_130, g22_131, g22_133, g22_134, g22_137, g22_140, g22_141, g22_142, g22_145, nI_ltI, nI_leI, nI_eq, nI_add, nI_sub, nI_lt0, nI_e0, nI_m1, m1_nI, Nat.reduceEqDiff, Nat.reduceLT, Nat.reduceLeDiff, Nat.reduceAdd, Nat.reduceSub, Nat.reduceMul, ↓reduceIte, eq_self, x_isL, hl, bI_f, x_isG, hg, R _, Option.toList, List.nil_append, List.cons_append, va_rf, h65]
          · simp (disch := first | with_reducible assumption | omega | exact Or.inl rfl | exact Or.inr rfl | exact bI_01 | exact c_cat | rfl | with_reducible repeat (first | assumption | apply S_I | apply S_L | apply S_D | apply ob_I | apply ob_L | apply ob_D | apply ob_R | apply ax_I | apply ax_L | apply ax_D | apply ax_R)) only [g22_74, g22_75, g22_76, g22_79, g22_80, g22_83, g22_86, g22_89, g22_90, g22_93, g22_96, g22_97, g22_100, g22_103, g22_104, g22_107, g22_110, g22_111, g22_114, g22_117, g22_118, g22_120, g22_123, g22_124, g22_126, g22_129, g22_130, g22_131, g22_133, g22_134, g22_137, g22_140, g22_141, g22_142, g22_145, nI_ltI, nI_leI, nI_eq, nI_add, nI_sub, nI_lt0, nI_e0, nI_m1, m1_nI, Nat.reduceEqDiff, Nat.reduceLT, Nat.reduceLeDiff, Nat.reduceAdd, Nat.reduceSub, Nat.reduceMul, ↓reduceIte, eq_self, x_isL, hl, bI_f, x_isG, hg, R _, Option.toList, List.nil_append, List.cons_append, va_rf, h65, show 68 < t q by omega]
/-- advance, behind a fault -/
theorem x_advanceB (S : am_S h) (K : am_I h 302 2 = nI 263) : am_J d 22 0 [some (.ref 302), v1] [] h Q ↔ Q none h := by
  simp (disch := first | with_reducible assumption | omega | exact Or.inl rfl | exact Or.inr rfl | exact bI_01 | exact c_cat | rfl | with_reducible repeat (first | assumption | apply S_I | apply S_L | apply S_D | apply ob_I | apply ob_L | apply ob_D | apply ob_R | apply ax_I | apply ax_L | apply ax_D | apply ax_R)) only [g22_0, g22_1, g22_4, g22_7, g22_10, K, nI_ltI, nI_leI, nI_eq, nI_add, nI_sub, nI_lt0, nI_e0, nI_m1, m1_nI, Nat.reduceEqDiff, Nat.reduceLT, Nat.reduceLeDiff, Nat.reduceAdd, Nat.reduceSub, Nat.reduceMul, ↓reduceIte, eq_self]
end LEXX

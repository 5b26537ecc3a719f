/-! RANGES -/
theorem nI_bv (n : Nat) : (nI n).toBitVec = BitVec.ofNat 32 n := rfl
theorem nI_and (a b : Nat) : nI a &&& nI b = nI (a &&& b) := by
  apply Int32.toBitVec_inj.mp
  rw [Int32.toBitVec_and, nI_bv, nI_bv, nI_bv, BitVec.ofNat_and]
theorem nI_and255 (a : Nat) : nI a &&& nI 255 = nI (a % 256) := by
  rw [nI_and]; exact congrArg nI (Nat.and_two_pow_sub_one_eq_mod a 8)
theorem nI_and7 (a : Nat) : nI a &&& nI 7 = nI (a % 8) := by
  rw [nI_and]; exact congrArg nI (Nat.and_two_pow_sub_one_eq_mod a 3)
theorem nI_and63 (a : Nat) : nI a &&& nI 63 = nI (a % 64) := by
  rw [nI_and]; exact congrArg nI (Nat.and_two_pow_sub_one_eq_mod a 6)
theorem nI_shr_gen {a k : Nat} (ha : a < 2 ^ 31) {s : Int32} (hs : (s.toBitVec.smod 32).toNat = k) : nI a >>> s = nI (a / 2 ^ k) := by
  apply Int32.toBitVec_inj.mp
  rw [Int32.toBitVec_shiftRight, nI_bv, nI_bv]
  have hm : (BitVec.ofNat 32 a).msb = false := by
    rw [BitVec.msb_eq_false_iff_two_mul_lt, BitVec.toNat_ofNat]; omega
  rw [BitVec.sshiftRight_eq', hs, BitVec.sshiftRight_eq_of_msb_false hm]
  apply BitVec.eq_of_toNat_eq
  rw [BitVec.toNat_ushiftRight, BitVec.toNat_ofNat, BitVec.toNat_ofNat, Nat.shiftRight_eq_div_pow, Nat.mod_eq_of_lt (show a < 2 ^ 32 by omega), Nat.mod_eq_of_lt]
  exact Nat.lt_of_le_of_lt (Nat.div_le_self _ _) (by omega)
theorem nI_shr3 {a : Nat} (ha : a < 2 ^ 31) : nI a >>> (nI 3 &&& 31) = nI (a / 8) := nI_shr_gen ha (k := 3) (by decide)
theorem nI_shr6 {a : Nat} (ha : a < 2 ^ 31) : nI a >>> (nI 6 &&& 31) = nI (a / 64) := nI_shr_gen ha (k := 6) (by decide)
theorem nI_shr8 {a : Nat} (ha : a < 2 ^ 31) : nI a >>> (nI 8 &&& 31) = nI (a / 256) := nI_shr_gen ha (k := 8) (by decide)
theorem nI_div {a b : Nat} (ha : a < 2 ^ 31) (hb : b < 2 ^ 31) (h0 : 0 < b) : nI a / nI b = nI (a / b) := by
  apply Int32.toInt_inj.mp
  rw [Int32.toInt_div_of_ne_left _ _ (by
    intro e; have := congrArg Int32.toInt e; rw [nI_toInt ha] at this
    have h2 : Int32.minValue.toInt = -2147483648 := by decide
    omega), nI_toInt ha, nI_toInt hb, nI_toInt (Nat.lt_of_le_of_lt (Nat.div_le_self _ _) ha)]
  rw [Int.tdiv_eq_ediv_of_nonneg (by omega)]
  exact (Int.natCast_ediv a b).symm
theorem nI_rem {a b : Nat} (ha : a < 2 ^ 31) (hb : b < 2 ^ 31) (h0 : 0 < b) : nI a - nI a / nI b * nI b = nI (a % b) := by
  rw [nI_div ha hb h0, nI_mul, nI_sub (Nat.div_mul_le_self a b)]
  congr 1
  have := Nat.div_add_mod a b
  rw [Nat.mul_comm] at this
  omega
theorem nI_rem2 {a b : Nat} : nI a - nI (a / b * b) = nI (a % b) := by
  rw [nI_sub (Nat.div_mul_le_self a b)]
  congr 1
  have := Nat.div_add_mod a b
  rw [Nat.mul_comm] at this
  omega
theorem or8 {a b : Nat} (ha : a < 256) : nI a ||| (nI b <<< (nI 8 &&& 31)) = nI (a + 256 * b) := by
  rw [show (nI 8 &&& 31) = 8 by decide]
  apply Int32.toBitVec_inj.mp
  rw [Int32.toBitVec_or, Int32.toBitVec_shiftLeft, nI_bv, nI_bv, nI_bv, show (BitVec.smod (8 : Int32).toBitVec 32) = 8#32 by decide]
  apply BitVec.eq_of_toNat_eq
  rw [BitVec.toNat_or, BitVec.shiftLeft_eq', BitVec.toNat_shiftLeft, BitVec.toNat_ofNat, BitVec.toNat_ofNat, BitVec.toNat_ofNat, BitVec.toNat_ofNat, show 8 % 2 ^ 32 = 8 by decide, Nat.mod_eq_of_lt (show a < 2 ^ 32 by omega)]
  have e1 : (b % 2 ^ 32) <<< 8 % 2 ^ 32 = (b % 2 ^ 24) <<< 8 := by
    rw [Nat.shiftLeft_eq, Nat.shiftLeft_eq]; omega
  rw [e1, Nat.or_comm, ← Nat.shiftLeft_add_eq_or_of_lt (show a < 2 ^ 8 from ha), Nat.shiftLeft_eq]; omega
/-- how many cells from a to b; the k-th of them -/
def rgN (a b : Nat) : Nat := (b / 8 - a / 8 + 1) * (b % 8 - a % 8 + 1)
def rgC (a b k : Nat) : Nat := a + k / (b % 8 - a % 8 + 1) * 8 + k % (b % 8 - a % 8 + 1)
def rgS (a b : Nat) : Bool := decide (a / 64 = b / 64) && decide (a / 8 % 8 ≤ b / 8 % 8) && decide (a % 8 ≤ b % 8)
theorem rgS_of {a b : Nat} (hs : rgS a b = true) : a / 64 = b / 64 ∧ a / 8 ≤ b / 8 ∧ a % 8 ≤ b % 8 := by
  simp only [rgS, Bool.and_eq_true, decide_eq_true_eq] at hs
  omega
theorem rgN_le {a b : Nat} (hs : rgS a b = true) : rgN a b ≤ 64 := by
  obtain ⟨h1, h2, h3⟩ := rgS_of hs
  unfold rgN
  exact Nat.le_trans (Nat.mul_le_mul (show b / 8 - a / 8 + 1 ≤ 8 by omega) (show b % 8 - a % 8 + 1 ≤ 8 by omega)) (by decide)
theorem rgN_pos (a b : Nat) : 0 < rgN a b := Nat.mul_pos (by omega) (by omega)
theorem rgC_lt {a b k : Nat} (hb : b < 256) (hs : rgS a b = true) (hk : k < rgN a b) : rgC a b k < 256 := by
  obtain ⟨h1, h2, h3⟩ := rgS_of hs
  unfold rgC
  unfold rgN at hk
  have hq : k / (b % 8 - a % 8 + 1) < b / 8 - a / 8 + 1 := Nat.div_lt_of_lt_mul (by rw [Nat.mul_comm]; exact hk)
  have hr : k % (b % 8 - a % 8 + 1) < b % 8 - a % 8 + 1 := Nat.mod_lt _ (by omega)
  omega
section RNG
variable {d : Nat} {h g : am_H} {Q : Option Value → am_H → Prop} {v0 v1 v2 v3 v4 v5 : Option Value} {t : Nat → Nat} {n : Nat} {md : Nat ⊕ (Nat × Nat)} {C : List (Int32 × Int64)} {P : List Int32} {N : List Nat} {F k o ln lp : Int32} {a b : Nat}
theorem x_rangeSize (ha : a < 256) (hb : b < 256) (hs : rgS a b = true) : am_J d 15 0 [some (.int (nI (a + 256 * b))), v1, v2] [] h Q ↔ Q (some (.int (nI (rgN a b)))) h := by
  obtain ⟨h1, h2, h3⟩ := rgS_of hs
  simp (disch := first | with_reducible assumption | omega | exact Or.inl rfl | exact Or.inr rfl | exact bI_01 | exact c_cat | rfl | with_reducible repeat (first | assumption | apply S_I | apply S_L | apply S_D | apply ob_I | apply ob_L | apply ob_D | apply ob_R | apply ax_I | apply ax_L | apply ax_D | apply ax_R)) only [g15_0, g15_1, g15_4, g15_5, g15_6, g15_7, g15_9, g15_10, g15_13, g15_14, g15_15, g15_16, g15_17, g15_18, g15_19, g15_20, g15_21, g15_22, g15_23, g15_24, g15_25, g15_27, g15_28, g15_29, g15_31, g15_32, g15_33, g15_34, g15_35, g15_36, nI_and255, nI_shr8, nI_shr3, nI_and7, nI_sub, nI_add, nI_mul, show (a + 256 * b) % 256 = a by omega, show (a + 256 * b) / 256 = b by omega, show b % 256 = b by omega, rgN]
theorem x_rangeCell (ha : a < 256) (hb : b < 256) (hs : rgS a b = true) {j : Nat} (hj : j < 100) : am_J d 16 0 [some (.int (nI (a + 256 * b))), some (.int (nI j)), v2, v3] [] h Q ↔ Q (some (.int (nI (rgC a b j)))) h := by
  obtain ⟨h1, h2, h3⟩ := rgS_of hs
  have hw : ¬ nI (b % 8 - a % 8 + 1) = 0 := nI_ne0 (by omega) (by omega)
  simp (disch := first | with_reducible assumption | omega | exact Or.inl rfl | exact Or.inr rfl | exact bI_01 | exact c_cat | rfl | with_reducible repeat (first | assumption | apply S_I | apply S_L | apply S_D | apply ob_I | apply ob_L | apply ob_D | apply ob_R | apply ax_I | apply ax_L | apply ax_D | apply ax_R)) only [g16_0, g16_1, g16_4, g16_5, g16_6, g16_7, g16_9, g16_10, g16_12, g16_13, g16_14, g16_16, g16_17, g16_18, g16_19, g16_20, g16_21, g16_22, g16_23, g16_26, g16_27, g16_30, g16_31, g16_32, g16_33, g16_34, g16_36, g16_37, g16_38, g16_39, g16_40, g16_41, g16_42, nI_and255, nI_shr8, nI_shr3, nI_and7, nI_sub, nI_add, nI_mul, show (a + 256 * b) % 256 = a by omega, show (a + 256 * b) / 256 = b by omega, nI_leI, show 1 ≤ b % 8 - a % 8 + 1 by omega, ↓reduceIte, nI_div, nI_rem2, rgC]
theorem x_isSound (ha : a < 256) (hb : b < 256) : am_J d 101 0 [some (.int (nI a)), some (.int (nI b))] [] h Q ↔ Q (some (.int (bI (rgS a b)))) h := by
  by_cases c1 : a / 64 = b / 64
  · by_cases c2 : a / 8 % 8 ≤ b / 8 % 8
    · by_cases c3 : a % 8 ≤ b % 8
      · simp (disch := first | with_reducible assumption | omega | exact Or.inl rfl | exact Or.inr rfl | exact bI_01 | exact c_cat | rfl | with_reducible repeat (first | assumption | apply S_I | apply S_L | apply S_D | apply ob_I | apply ob_L | apply ob_D | apply ob_R | apply ax_I | apply ax_L | apply ax_D | apply ax_R)) only [g101_0, g101_1, g101_3, g101_4, g101_5, g101_7, g101_8, g101_11, g101_12, g101_13, g101_14, g101_16, g101_17, g101_18, g101_19, g101_20, g101_22, g101_23, g101_26, g101_27, g101_29, g101_30, g101_31, g101_33, g101_34, g101_37, g101_38, g101_41, g101_42, nI_shr6, nI_shr3, nI_and7, nI_ltI, nI_leI, nI_eq, nI_add, nI_sub, nI_lt0, nI_e0, nI_m1, m1_nI, Nat.reduceEqDiff, Nat.reduceLT, Nat.reduceLeDiff, Nat.reduceAdd, Nat.reduceSub, Nat.reduceMul, ↓reduceIte, eq_self, c1, show ¬ b / 8 % 8 < a / 8 % 8 by omega, show ¬ b % 8 < a % 8 by omega, show rgS a b = true by simp [rgS, c1, c2, c3], bI_t]
      · simp (disch := first | with_reducible assumption | omega | exact Or.inl rfl | exact Or.inr rfl | exact bI_01 | exact c_cat | rfl | with_reducible repeat (first | assumption | apply S_I | apply S_L | apply S_D | apply ob_I | apply ob_L | apply ob_D | apply ob_R | apply ax_I | apply ax_L | apply ax_D | apply ax_R)) only [g101_0, g101_1, g101_3, g101_4, g101_5, g101_7, g101_8, g101_11, g101_12, g101_13, g101_14, g101_16, g101_17, g101_18, g101_19, g101_20, g101_22, g101_23, g101_26, g101_27, g101_29, g101_30, g101_31, g101_33, g101_34, g101_37, g101_38, g101_41, g101_42, nI_shr6, nI_shr3, nI_and7, nI_ltI, nI_leI, nI_eq, nI_add, nI_sub, nI_lt0, nI_e0, nI_m1, m1_nI, Nat.reduceEqDiff, Nat.reduceLT, Nat.reduceLeDiff, Nat.reduceAdd, Nat.reduceSub, Nat.reduceMul, ↓reduceIte, eq_self, c1, show ¬ b / 8 % 8 < a / 8 % 8 by omega, show b % 8 < a % 8 by omega, show rgS a b = false by simp [rgS, c3], bI_f]
    · simp (disch := first | with_reducible assumption | omega | exact Or.inl rfl | exact Or.inr rfl | exact bI_01 | exact c_cat | rfl | with_reducible repeat (first | assumption | apply S_I | apply S_L | apply S_D | apply ob_I | apply ob_L | apply ob_D | apply ob_R | apply ax_I | apply ax_L | apply ax_D | apply ax_R)) only [g101_0, g101_1, g101_3, g101_4, g101_5, g101_7, g101_8, g101_11, g101_12, g101_13, g101_14, g101_16, g101_17, g101_18, g101_19, g101_20, g101_22, g101_23, g101_26, g101_27, g101_29, g101_30, g101_31, g101_33, g101_34, g101_37, g101_38, g101_41, g101_42, nI_shr6, nI_shr3, nI_and7, nI_ltI, nI_leI, nI_eq, nI_add, nI_sub, nI_lt0, nI_e0, nI_m1, m1_nI, Nat.reduceEqDiff, Nat.reduceLT, Nat.reduceLeDiff, Nat.reduceAdd, Nat.reduceSub, Nat.reduceMul, ↓reduceIte, eq_self, c1, show b / 8 % 8 < a / 8 % 8 by omega, show rgS a b = false by simp [rgS, c2], bI_f]
  · simp (disch := first | with_reducible assumption | omega | exact Or.inl rfl | exact Or.inr rfl | exact bI_01 | exact c_cat | rfl | with_reducible repeat (first | assumption | apply S_I | apply S_L | apply S_D | apply ob_I | apply ob_L | apply ob_D | apply ob_R | apply ax_I | apply ax_L | apply ax_D | apply ax_R)) only [g101_0, g101_1, g101_3, g101_4, g101_5, g101_7, g101_8, g101_11, g101_12, g101_13, g101_14, g101_16, g101_17, g101_18, g101_19, g101_20, g101_22, g101_23, g101_26, g101_27, g101_29, g101_30, g101_31, g101_33, g101_34, g101_37, g101_38, g101_41, g101_42, nI_shr6, nI_shr3, nI_and7, nI_ltI, nI_leI, nI_eq, nI_add, nI_sub, nI_lt0, nI_e0, nI_m1, m1_nI, Nat.reduceEqDiff, Nat.reduceLT, Nat.reduceLeDiff, Nat.reduceAdd, Nat.reduceSub, Nat.reduceMul, ↓reduceIte, eq_self, c1, show rgS a b = false by simp [rgS, c1], bI_f]
/-- the needs of a range -/
def nrng (a b : Nat) : List Nat → Nat → Nat → List Nat
  | N, _, 0 => N
  | N, j, m + 1 => nrng a b (nadd N (rgC a b j)) (j + 1) m
theorem x_rngLoop (ha : a < 256) (hb : b < 256) (hs : rgS a b = true) {p x y : Int32} : ∀ m j h N, rgN a b - j = m → j ≤ rgN a b → PX h t n md C P N F k o ln lp → ∃ h', (∀ Q, am_J (d + 3) 99 67 [some (.ref 301), some (.int p), some (.int x), some (.int y), some (.int (nI (a + 256 * b))), some (.int (nI j))] [] h Q ↔ Q (some (.int (nI (a + 256 * b)))) h') ∧ PX h' t n md C P (nrng a b N j m) F k o ln lp ∧ am_fr (fun a => 303 ≤ a ∧ a ≤ 309) h h' := by
  have h64 := rgN_le hs
  intro m
  induction m with
  | zero =>
    intro j h N hm hj X
    have S := X.1
    refine ⟨h, fun Q => ?_, X, fr_refl⟩
    rw [g99_67]
    simp (disch := first | with_reducible assumption | omega | exact Or.inl rfl | exact Or.inr rfl | exact bI_01 | exact c_cat | rfl | with_reducible repeat (first | assumption | omega | apply S_I | apply S_L | apply S_D | apply ob_I | apply ob_L | apply ob_D | apply ob_R | apply ax_I | apply ax_L | apply ax_D | apply ax_R | apply o303 | apply o307 | apply o302 | apply o301 | apply ax304 | apply ax305 | apply ax306 | apply ax308 | apply ax309 | apply ax310 | apply lt_S | apply ar305 | apply ar308 | apply ar309)) only [g99_69, g99_71, g99_74, g99_77, g99_78, g99_81, g99_83, g99_85, g99_88, g99_91, g99_94, g99_97, g99_100, g99_101, g99_102, g99_103, g99_106, g99_108, Option.toList, List.nil_append, List.cons_append, va_rf, nI_ltI, nI_leI, nI_eq, nI_add, nI_sub, nI_lt0, nI_e0, nI_m1, m1_nI, Nat.reduceEqDiff, Nat.reduceLT, Nat.reduceLeDiff, Nat.reduceAdd, Nat.reduceSub, Nat.reduceMul, ↓reduceIte, eq_self, x_rangeSize, ha, hb, hs, show rgN a b ≤ j by omega]
  | succ m ih =>
    intro j h N hm hj X
    have S := X.1
    obtain ⟨h1, r1, X1, F1⟩ := x_addNeed (d := d) X (c := rgC a b j) (rgC_lt hb hs (by omega))
    obtain ⟨h2, W, X2, F2⟩ := ih (j + 1) h1 _ (by omega) (by omega) X1
    refine ⟨h2, fun Q => ?_, X2, fr_trans F1 F2⟩
    rw [g99_67]
    simp (disch := first | with_reducible assumption | omega | exact Or.inl rfl | exact Or.inr rfl | exact bI_01 | exact c_cat | rfl | with_reducible repeat (first | assumption | omega | apply S_I | apply S_L | apply S_D | apply ob_I | apply ob_L | apply ob_D | apply ob_R | apply ax_I | apply ax_L | apply ax_D | apply ax_R | apply o303 | apply o307 | apply o302 | apply o301 | apply ax304 | apply ax305 | apply ax306 | apply ax308 | apply ax309 | apply ax310 | apply lt_S | apply ar305 | apply ar308 | apply ar309)) only [g99_69, g99_71, g99_74, g99_77, g99_78, g99_81, g99_83, g99_85, g99_88, g99_91, g99_94, Option.toList, List.nil_append, List.cons_append, va_rf, nI_ltI, nI_leI, nI_eq, nI_add, nI_sub, nI_lt0, nI_e0, nI_m1, m1_nI, Nat.reduceEqDiff, Nat.reduceLT, Nat.reduceLeDiff, Nat.reduceAdd, Nat.reduceSub, Nat.reduceMul, ↓reduceIte, eq_self, x_rangeSize, x_rangeCell, ha, hb, hs, show ¬ rgN a b ≤ j by omega, r1 _]
    exact W Q
end RNG

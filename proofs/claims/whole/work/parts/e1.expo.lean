/-! THE CLASS: exponentOf, scaled -/
def iI (z : Int) : Int32 := Int32.ofInt z
theorem iI_n (n : Nat) : nI n = iI (n : Int) := by
  apply Int32.toBitVec_inj.mp
  show BitVec.ofNat 32 n = BitVec.ofInt 32 (n : Int)
  rw [BitVec.ofInt_natCast]
theorem iI_add (a b : Int) : iI a + iI b = iI (a + b) := (Int32.ofInt_add a b).symm
theorem iI_addn (a : Int) (n : Nat) : iI a + nI n = iI (a + n) := by rw [iI_n, iI_add]
theorem iI_m64 (a : Int) : iI a + (-64) = iI (a - 64) := by rw [show (-64 : Int32) = iI (-64) by decide, iI_add]; rfl
theorem iI_m1 (a : Int) : iI a + (-1) = iI (a - 1) := by rw [show (-1 : Int32) = iI (-1) by decide, iI_add]; rfl
theorem iI_toInt {z : Int} (h1 : -2147483648 ≤ z) (h2 : z < 2147483648) : (iI z).toInt = z := Int32.toInt_ofInt_of_le (by omega) (by omega)
theorem iI_sub (a b : Int) : iI a - iI b = iI (a - b) := (Int32.ofInt_sub a b).symm
theorem iI_nsub (n : Nat) (b : Int) : nI n - iI b = iI (n - b) := by rw [iI_n, iI_sub]
theorem iI_lt {a b : Int} (h1 : -2147483648 ≤ a ∧ a < 2147483648) (h2 : -2147483648 ≤ b ∧ b < 2147483648) : (iI a < iI b) = (a < b) := propext (by rw [Int32.lt_iff_toInt_lt, iI_toInt h1.1 h1.2, iI_toInt h2.1 h2.2])
theorem iI_le {a b : Int} (h1 : -2147483648 ≤ a ∧ a < 2147483648) (h2 : -2147483648 ≤ b ∧ b < 2147483648) : (iI a ≤ iI b) = (a ≤ b) := propext (by rw [Int32.le_iff_toInt_le, iI_toInt h1.1 h1.2, iI_toInt h2.1 h2.2])
theorem pwl {L u K : Nat} (h : u < 2 ^ (L + 1)) (hk : L < K) : u < 2 ^ K := Nat.lt_of_lt_of_le h (Nat.pow_le_pow_right (by decide) hk)
theorem pwg {L u K : Nat} (h : 2 ^ L ≤ u) (hk : K ≤ L) : 2 ^ K ≤ u := Nat.le_trans (Nat.pow_le_pow_right (by decide) hk) h
theorem pw_up {L u j : Nat} (h1 : 2 ^ L ≤ u) (h2 : u < 2 ^ (L + 1)) : 2 ^ (L + j) ≤ u * 2 ^ j ∧ u * 2 ^ j < 2 ^ (L + j + 1) := by
  constructor
  · rw [Nat.pow_add]; exact Nat.mul_le_mul_right _ h1
  · rw [show L + j + 1 = L + 1 + j by omega, Nat.pow_add]; exact Nat.mul_lt_mul_of_pos_right h2 (Nat.two_pow_pos _)
theorem pw_dn {L u j : Nat} (hj : j ≤ L) (h1 : 2 ^ L ≤ u * 2 ^ j) (h2 : u * 2 ^ j < 2 ^ (L + 1)) : 2 ^ (L - j) ≤ u ∧ u < 2 ^ (L - j + 1) := by
  constructor
  · apply Nat.le_of_mul_le_mul_right (c := 2 ^ j) _ (Nat.two_pow_pos j)
    rw [← Nat.pow_add, Nat.sub_add_cancel hj]; exact h1
  · apply Nat.lt_of_mul_lt_mul_right (a := 2 ^ j)
    rw [← Nat.pow_add, show L - j + 1 + j = L + 1 by omega]; exact h2
section EXP
variable {d : Nat} {h : am_H} {a b r : UInt64} {u w L : Nat}
theorem cv_lt (A : uV a u) (B : uV b w) (c : u < w) : ∀ op, Op.cmpValue (Jvm.FP.dcmp a b) op = -1 := by intro op; rw [u_lt A B c]; rfl
theorem cv_ge (A : uV a u) (B : uV b w) (c : w ≤ u) : ∀ op, (Op.cmpValue (Jvm.FP.dcmp a b) op < 0) = False := by
  intro op
  by_cases e : u = w
  · subst e; rw [u_eq A B]; exact eq_false (by show ¬ (0 : Int32) < 0; decide)
  · rw [u_gt A B (by omega)]; exact eq_false (by show ¬ (1 : Int32) < 0; decide)
theorem cv_ge' (A : uV a u) (B : uV b w) (c : w ≤ u) : ∀ op, (0 ≤ Op.cmpValue (Jvm.FP.dcmp a b) op) = True := by
  intro op
  by_cases e : u = w
  · subst e; rw [u_eq A B]; exact eq_true (by show (0 : Int32) ≤ 0; decide)
  · rw [u_gt A B (by omega)]; exact eq_true (by show (0 : Int32) ≤ 1; decide)
theorem m1_lt0 : ((-1 : Int32) < 0) = True := eq_true (by decide)
theorem m1_ge0 : ((0 : Int32) ≤ -1) = False := eq_false (by decide)
theorem x_exp1 : ∀ (n i : Nat) (r : UInt64) (u L : Nat) (ε : Int), uV r u → 2 ^ L ≤ u → u < 2 ^ (L + 1) → L < 1138 + 64 * n → i + n ≤ 16 → ∃ (r' : UInt64) (u' L' : Nat), uV r' u' ∧ 2 ^ L' ≤ u' ∧ u' < 2 ^ (L' + 1) ∧ L' < 1138 ∧ ∀ Q, am_J d 124 8 [some (.double a), none, some (.double r), none, some (.int (iI ε)), some (.int (nI i))] [] h Q ↔ am_J d 124 41 [some (.double a), none, some (.double r'), none, some (.int (iI (ε + L - L'))), some (.int (nI 0))] [] h Q := by
  have out : ∀ (i : Nat) (r : UInt64) (u L : Nat) (ε : Int), uV r u → 2 ^ L ≤ u → u < 2 ^ (L + 1) → L < 1138 → i ≤ 16 → ∀ Q, am_J d 124 8 [some (.double a), none, some (.double r), none, some (.int (iI ε)), some (.int (nI i))] [] h Q ↔ am_J d 124 41 [some (.double a), none, some (.double r), none, some (.int (iI (ε + L - L))), some (.int (nI 0))] [] h Q := fun i r u L ε A h1 h2 hL hi Q => by
    rw [show ε + (L : Int) - L = ε by omega, g124_8]
    by_cases c : i < 16
    · have e := cv_lt A unit64 (pwl h2 hL) .l
      simp (disch := first | with_reducible assumption | omega | exact Or.inl rfl | exact Or.inr rfl | exact bI_01 | exact c_cat | exact vt_ref | exact vt_null | rfl | with_reducible repeat (first | assumption | omega | apply S_I | apply S_L | apply S_D | apply ob_I | apply ob_L | apply ob_D | apply ob_R | apply ax_I | apply ax_L | apply ax_D | apply ax_R | apply o303 | apply o307 | apply o302 | apply o301 | apply ax304 | apply ax305 | apply ax306 | apply ax308 | apply ax309 | apply ax310 | apply lt_S | apply ar305 | apply ar308 | apply ar309)) only [g124_10, g124_12, g124_15, g124_16, g124_19, g124_20, g124_23, g124_24, g124_27, g124_28, g124_29, g124_32, g124_35, g124_38, g124_39, nI_ltI, nI_leI, nI_eq, nI_add, nI_sub, nI_lt0, nI_e0, nI_m1, m1_nI, Nat.reduceEqDiff, Nat.reduceLT, Nat.reduceLeDiff, Nat.reduceAdd, Nat.reduceSub, Nat.reduceMul, ↓reduceIte, eq_self, show ¬ 16 ≤ i by omega, e, m1_lt0]
    · simp (disch := first | with_reducible assumption | omega | exact Or.inl rfl | exact Or.inr rfl | exact bI_01 | exact c_cat | exact vt_ref | exact vt_null | rfl | with_reducible repeat (first | assumption | omega | apply S_I | apply S_L | apply S_D | apply ob_I | apply ob_L | apply ob_D | apply ob_R | apply ax_I | apply ax_L | apply ax_D | apply ax_R | apply o303 | apply o307 | apply o302 | apply o301 | apply ax304 | apply ax305 | apply ax306 | apply ax308 | apply ax309 | apply ax310 | apply lt_S | apply ar305 | apply ar308 | apply ar309)) only [g124_10, g124_12, g124_15, g124_16, g124_19, g124_20, g124_23, g124_24, g124_27, g124_28, g124_29, g124_32, g124_35, g124_38, g124_39, nI_ltI, nI_leI, nI_eq, nI_add, nI_sub, nI_lt0, nI_e0, nI_m1, m1_nI, Nat.reduceEqDiff, Nat.reduceLT, Nat.reduceLeDiff, Nat.reduceAdd, Nat.reduceSub, Nat.reduceMul, ↓reduceIte, eq_self, show 16 ≤ i by omega]
  intro n
  induction n with
  | zero =>
    intro i r u L ε A h1 h2 hL hi
    exact ⟨r, u, L, A, h1, h2, by omega, out i r u L ε A h1 h2 (by omega) (by omega)⟩
  | succ n ih =>
    intro i r u L ε A h1 h2 hL hi
    by_cases c : L < 1138
    · exact ⟨r, u, L, A, h1, h2, c, out i r u L ε A h1 h2 c (by omega)⟩
    · obtain ⟨u', hu, R⟩ := uRep_div (j := 64) (uV_rep A) (pwg h1 (by omega))
      rw [hu] at A h1 h2
      have A' := u_div A pw64 R
      obtain ⟨k1, k2⟩ := pw_dn (by omega) h1 h2
      obtain ⟨r', u2, L', B1, B2, B3, B4, B5⟩ := ih (i + 1) _ u' (L - 64) (ε + 64) A' k1 k2 (by omega) (by omega)
      refine ⟨r', u2, L', B1, B2, B3, B4, fun Q => ?_⟩
      have e := cv_ge A unit64 (pwg h1 (show 1138 ≤ L by omega)) .l
      have nn := u_nn A'
      have B5 := B5 Q
      rw [show ε + 64 + ((L - 64 : Nat) : Int) - L' = ε + L - L' by omega] at B5
      rw [← B5, g124_8]
      simp (disch := first | with_reducible assumption | omega | exact Or.inl rfl | exact Or.inr rfl | exact bI_01 | exact c_cat | exact vt_ref | exact vt_null | rfl | with_reducible repeat (first | assumption | omega | apply S_I | apply S_L | apply S_D | apply ob_I | apply ob_L | apply ob_D | apply ob_R | apply ax_I | apply ax_L | apply ax_D | apply ax_R | apply o303 | apply o307 | apply o302 | apply o301 | apply ax304 | apply ax305 | apply ax306 | apply ax308 | apply ax309 | apply ax310 | apply lt_S | apply ar305 | apply ar308 | apply ar309)) only [g124_10, g124_12, g124_15, g124_16, g124_19, g124_20, g124_23, g124_24, g124_27, g124_28, g124_29, g124_32, g124_35, nI_ltI, nI_leI, nI_eq, nI_add, nI_sub, nI_lt0, nI_e0, nI_m1, m1_nI, Nat.reduceEqDiff, Nat.reduceLT, Nat.reduceLeDiff, Nat.reduceAdd, Nat.reduceSub, Nat.reduceMul, ↓reduceIte, eq_self, show ¬ 16 ≤ i by omega, e, iI_addn]
      rfl
theorem x_exp2 : ∀ (n i : Nat) (r : UInt64) (u L : Nat) (ε : Int), uV r u → 2 ^ L ≤ u → u < 2 ^ (L + 1) → L < 1138 → 1010 ≤ L + 64 * n → i + n ≤ 17 → ∃ (r' : UInt64) (u' L' : Nat), uV r' u' ∧ 2 ^ L' ≤ u' ∧ u' < 2 ^ (L' + 1) ∧ 1010 ≤ L' ∧ L' < 1138 ∧ ∀ Q, am_J d 124 41 [some (.double a), none, some (.double r), none, some (.int (iI ε)), some (.int (nI i))] [] h Q ↔ am_J d 124 76 [some (.double a), none, some (.double r'), none, some (.int (iI (ε + L - L'))), some (.int (nI 0))] [] h Q := by
  have up : ∀ (r : UInt64) (u L : Nat), uV r u → 2 ^ L ≤ u → u < 2 ^ (L + 1) → L < 1138 → uV (Jvm.FP.dmul r 4895412794951729152) (u * 2 ^ 64) := fun r u L A h1 h2 hL => u_mul A pw64 (uRep_mul (uV_rep A) (pwl (pw_up h1 h2).2 (by omega)))
  have out : ∀ (i : Nat) (r : UInt64) (u L : Nat) (ε : Int), uV r u → 2 ^ L ≤ u → u < 2 ^ (L + 1) → 1010 ≤ L → L < 1138 → i ≤ 17 → ∀ Q, am_J d 124 41 [some (.double a), none, some (.double r), none, some (.int (iI ε)), some (.int (nI i))] [] h Q ↔ am_J d 124 76 [some (.double a), none, some (.double r), none, some (.int (iI (ε + L - L))), some (.int (nI 0))] [] h Q := fun i r u L ε A h1 h2 hL hL2 hi Q => by
    rw [show ε + (L : Int) - L = ε by omega, g124_41]
    by_cases c : i < 17
    · have A' := up r u L A h1 h2 hL2
      have nn := u_nn A'
      have e := cv_ge' A' unitc1 (pwg (pw_up h1 h2).1 (show 1074 ≤ L + 64 by omega)) .g
      simp (disch := first | with_reducible assumption | omega | exact Or.inl rfl | exact Or.inr rfl | exact bI_01 | exact c_cat | exact vt_ref | exact vt_null | rfl | with_reducible repeat (first | assumption | omega | apply S_I | apply S_L | apply S_D | apply ob_I | apply ob_L | apply ob_D | apply ob_R | apply ax_I | apply ax_L | apply ax_D | apply ax_R | apply o303 | apply o307 | apply o302 | apply o301 | apply ax304 | apply ax305 | apply ax306 | apply ax308 | apply ax309 | apply ax310 | apply lt_S | apply ar305 | apply ar308 | apply ar309)) only [g124_43, g124_45, g124_48, g124_49, g124_52, g124_53, g124_54, g124_55, g124_58, g124_59, g124_62, g124_63, g124_64, g124_67, g124_70, g124_73, g124_74, nI_ltI, nI_leI, nI_eq, nI_add, nI_sub, nI_lt0, nI_e0, nI_m1, m1_nI, Nat.reduceEqDiff, Nat.reduceLT, Nat.reduceLeDiff, Nat.reduceAdd, Nat.reduceSub, Nat.reduceMul, ↓reduceIte, eq_self, show ¬ 17 ≤ i by omega, e]
    · simp (disch := first | with_reducible assumption | omega | exact Or.inl rfl | exact Or.inr rfl | exact bI_01 | exact c_cat | exact vt_ref | exact vt_null | rfl | with_reducible repeat (first | assumption | omega | apply S_I | apply S_L | apply S_D | apply ob_I | apply ob_L | apply ob_D | apply ob_R | apply ax_I | apply ax_L | apply ax_D | apply ax_R | apply o303 | apply o307 | apply o302 | apply o301 | apply ax304 | apply ax305 | apply ax306 | apply ax308 | apply ax309 | apply ax310 | apply lt_S | apply ar305 | apply ar308 | apply ar309)) only [g124_43, g124_45, g124_48, g124_49, g124_52, g124_53, g124_54, g124_55, g124_58, g124_59, g124_62, g124_63, g124_64, g124_67, g124_70, g124_73, g124_74, nI_ltI, nI_leI, nI_eq, nI_add, nI_sub, nI_lt0, nI_e0, nI_m1, m1_nI, Nat.reduceEqDiff, Nat.reduceLT, Nat.reduceLeDiff, Nat.reduceAdd, Nat.reduceSub, Nat.reduceMul, ↓reduceIte, eq_self, show 17 ≤ i by omega]
  intro n
  induction n with
  | zero =>
    intro i r u L ε A h1 h2 hL2 hL hi
    exact ⟨r, u, L, A, h1, h2, by omega, hL2, out i r u L ε A h1 h2 (by omega) hL2 (by omega)⟩
  | succ n ih =>
    intro i r u L ε A h1 h2 hL2 hL hi
    by_cases c : 1010 ≤ L
    · exact ⟨r, u, L, A, h1, h2, c, hL2, out i r u L ε A h1 h2 c hL2 (by omega)⟩
    · have A' := up r u L A h1 h2 hL2
      have nn := u_nn A'
      obtain ⟨k1, k2⟩ := pw_up (j := 64) h1 h2
      obtain ⟨r', u2, L', B1, B2, B3, B4, B4', B5⟩ := ih (i + 1) _ (u * 2 ^ 64) (L + 64) (ε - 64) A' k1 k2 (by omega) (by omega) (by omega)
      refine ⟨r', u2, L', B1, B2, B3, B4, B4', fun Q => ?_⟩
      have e := cv_lt A' unitc1 (pwl k2 (show L + 64 < 1074 by omega)) .g
      have B5 := B5 Q
      rw [show ε - 64 + ((L + 64 : Nat) : Int) - L' = ε + L - L' by omega] at B5
      rw [← B5, g124_41]
      simp (disch := first | with_reducible assumption | omega | exact Or.inl rfl | exact Or.inr rfl | exact bI_01 | exact c_cat | exact vt_ref | exact vt_null | rfl | with_reducible repeat (first | assumption | omega | apply S_I | apply S_L | apply S_D | apply ob_I | apply ob_L | apply ob_D | apply ob_R | apply ax_I | apply ax_L | apply ax_D | apply ax_R | apply o303 | apply o307 | apply o302 | apply o301 | apply ax304 | apply ax305 | apply ax306 | apply ax308 | apply ax309 | apply ax310 | apply lt_S | apply ar305 | apply ar308 | apply ar309)) only [g124_43, g124_45, g124_48, g124_49, g124_52, g124_53, g124_54, g124_55, g124_58, g124_59, g124_62, g124_63, g124_64, g124_67, g124_70, nI_ltI, nI_leI, nI_eq, nI_add, nI_sub, nI_lt0, nI_e0, nI_m1, m1_nI, Nat.reduceEqDiff, Nat.reduceLT, Nat.reduceLeDiff, Nat.reduceAdd, Nat.reduceSub, Nat.reduceMul, ↓reduceIte, eq_self, show ¬ 17 ≤ i by omega, e, m1_ge0, iI_m64]
theorem x_exp3 : ∀ (n i : Nat) (r : UInt64) (u L : Nat) (ε : Int), uV r u → 2 ^ L ≤ u → u < 2 ^ (L + 1) → 1010 ≤ L → L < 1075 + n → i + n ≤ 64 → ∃ (r' : UInt64) (u' L' : Nat), uV r' u' ∧ 2 ^ L' ≤ u' ∧ u' < 2 ^ (L' + 1) ∧ 1010 ≤ L' ∧ L' < 1075 ∧ ∀ Q, am_J d 124 76 [some (.double a), none, some (.double r), none, some (.int (iI ε)), some (.int (nI i))] [] h Q ↔ am_J d 124 109 [some (.double a), none, some (.double r'), none, some (.int (iI (ε + L - L'))), some (.int (nI 0))] [] h Q := by
  have out : ∀ (i : Nat) (r : UInt64) (u L : Nat) (ε : Int), uV r u → 2 ^ L ≤ u → u < 2 ^ (L + 1) → L < 1075 → i ≤ 64 → ∀ Q, am_J d 124 76 [some (.double a), none, some (.double r), none, some (.int (iI ε)), some (.int (nI i))] [] h Q ↔ am_J d 124 109 [some (.double a), none, some (.double r), none, some (.int (iI (ε + L - L))), some (.int (nI 0))] [] h Q := fun i r u L ε A h1 h2 hL hi Q => by
    rw [show ε + (L : Int) - L = ε by omega, g124_76]
    by_cases c : i < 64
    · have e := cv_lt A unit2 (pwl h2 hL) .l
      simp (disch := first | with_reducible assumption | omega | exact Or.inl rfl | exact Or.inr rfl | exact bI_01 | exact c_cat | exact vt_ref | exact vt_null | rfl | with_reducible repeat (first | assumption | omega | apply S_I | apply S_L | apply S_D | apply ob_I | apply ob_L | apply ob_D | apply ob_R | apply ax_I | apply ax_L | apply ax_D | apply ax_R | apply o303 | apply o307 | apply o302 | apply o301 | apply ax304 | apply ax305 | apply ax306 | apply ax308 | apply ax309 | apply ax310 | apply lt_S | apply ar305 | apply ar308 | apply ar309)) only [g124_78, g124_80, g124_83, g124_84, g124_87, g124_88, g124_91, g124_92, g124_95, g124_96, g124_97, g124_100, g124_103, g124_106, g124_107, nI_ltI, nI_leI, nI_eq, nI_add, nI_sub, nI_lt0, nI_e0, nI_m1, m1_nI, Nat.reduceEqDiff, Nat.reduceLT, Nat.reduceLeDiff, Nat.reduceAdd, Nat.reduceSub, Nat.reduceMul, ↓reduceIte, eq_self, show ¬ 64 ≤ i by omega, e, m1_lt0]
    · simp (disch := first | with_reducible assumption | omega | exact Or.inl rfl | exact Or.inr rfl | exact bI_01 | exact c_cat | exact vt_ref | exact vt_null | rfl | with_reducible repeat (first | assumption | omega | apply S_I | apply S_L | apply S_D | apply ob_I | apply ob_L | apply ob_D | apply ob_R | apply ax_I | apply ax_L | apply ax_D | apply ax_R | apply o303 | apply o307 | apply o302 | apply o301 | apply ax304 | apply ax305 | apply ax306 | apply ax308 | apply ax309 | apply ax310 | apply lt_S | apply ar305 | apply ar308 | apply ar309)) only [g124_78, g124_80, g124_83, g124_84, g124_87, g124_88, g124_91, g124_92, g124_95, g124_96, g124_97, g124_100, g124_103, g124_106, g124_107, nI_ltI, nI_leI, nI_eq, nI_add, nI_sub, nI_lt0, nI_e0, nI_m1, m1_nI, Nat.reduceEqDiff, Nat.reduceLT, Nat.reduceLeDiff, Nat.reduceAdd, Nat.reduceSub, Nat.reduceMul, ↓reduceIte, eq_self, show 64 ≤ i by omega]
  intro n
  induction n with
  | zero =>
    intro i r u L ε A h1 h2 hL1 hL hi
    exact ⟨r, u, L, A, h1, h2, hL1, by omega, out i r u L ε A h1 h2 (by omega) (by omega)⟩
  | succ n ih =>
    intro i r u L ε A h1 h2 hL1 hL hi
    by_cases c : L < 1075
    · exact ⟨r, u, L, A, h1, h2, hL1, c, out i r u L ε A h1 h2 c (by omega)⟩
    · obtain ⟨u', hu, R⟩ := uRep_div (j := 1) (uV_rep A) (pwg h1 (by omega))
      rw [hu] at A h1 h2
      have A' := u_div A pw1 R
      obtain ⟨k1, k2⟩ := pw_dn (by omega) h1 h2
      obtain ⟨r', u2, L', B1, B2, B3, B4, B4', B5⟩ := ih (i + 1) _ u' (L - 1) (ε + 1) A' k1 k2 (by omega) (by omega) (by omega)
      refine ⟨r', u2, L', B1, B2, B3, B4, B4', fun Q => ?_⟩
      have e := cv_ge A unit2 (pwg h1 (show 1075 ≤ L by omega)) .l
      have nn := u_nn A'
      have B5 := B5 Q
      rw [show ε + 1 + ((L - 1 : Nat) : Int) - L' = ε + L - L' by omega] at B5
      rw [← B5, g124_76]
      simp (disch := first | with_reducible assumption | omega | exact Or.inl rfl | exact Or.inr rfl | exact bI_01 | exact c_cat | exact vt_ref | exact vt_null | rfl | with_reducible repeat (first | assumption | omega | apply S_I | apply S_L | apply S_D | apply ob_I | apply ob_L | apply ob_D | apply ob_R | apply ax_I | apply ax_L | apply ax_D | apply ax_R | apply o303 | apply o307 | apply o302 | apply o301 | apply ax304 | apply ax305 | apply ax306 | apply ax308 | apply ax309 | apply ax310 | apply lt_S | apply ar305 | apply ar308 | apply ar309)) only [g124_78, g124_80, g124_83, g124_84, g124_87, g124_88, g124_91, g124_92, g124_95, g124_96, g124_97, g124_100, g124_103, nI_ltI, nI_leI, nI_eq, nI_add, nI_sub, nI_lt0, nI_e0, nI_m1, m1_nI, Nat.reduceEqDiff, Nat.reduceLT, Nat.reduceLeDiff, Nat.reduceAdd, Nat.reduceSub, Nat.reduceMul, ↓reduceIte, eq_self, show ¬ 64 ≤ i by omega, e, iI_addn]
      rfl
theorem x_exp4 : ∀ (n i : Nat) (r : UInt64) (u L : Nat) (ε : Int), uV r u → 2 ^ L ≤ u → u < 2 ^ (L + 1) → L < 1075 → 1074 ≤ L + n → i + n ≤ 64 → ∀ Q, am_J d 124 109 [some (.double a), none, some (.double r), none, some (.int (iI ε)), some (.int (nI i))] [] h Q ↔ Q (some (.int (iI (ε + L - 1074)))) h := by
  have out : ∀ (i : Nat) (r : UInt64) (u : Nat) (ε : Int), uV r u → 2 ^ 1074 ≤ u → i ≤ 64 → ∀ Q, am_J d 124 109 [some (.double a), none, some (.double r), none, some (.int (iI ε)), some (.int (nI i))] [] h Q ↔ Q (some (.int (iI (ε + (1074 : Nat) - 1074)))) h := fun i r u ε A h1 hi Q => by
    rw [show ε + ((1074 : Nat) : Int) - 1074 = ε by omega, g124_109]
    by_cases c : i < 64
    · have e := cv_ge' A unitc1 h1 .g
      simp (disch := first | with_reducible assumption | omega | exact Or.inl rfl | exact Or.inr rfl | exact bI_01 | exact c_cat | exact vt_ref | exact vt_null | rfl | with_reducible repeat (first | assumption | omega | apply S_I | apply S_L | apply S_D | apply ob_I | apply ob_L | apply ob_D | apply ob_R | apply ax_I | apply ax_L | apply ax_D | apply ax_R | apply o303 | apply o307 | apply o302 | apply o301 | apply ax304 | apply ax305 | apply ax306 | apply ax308 | apply ax309 | apply ax310 | apply lt_S | apply ar305 | apply ar308 | apply ar309)) only [g124_111, g124_113, g124_116, g124_117, g124_118, g124_119, g124_122, g124_123, g124_126, g124_127, g124_128, g124_131, g124_134, g124_137, g124_139, nI_ltI, nI_leI, nI_eq, nI_add, nI_sub, nI_lt0, nI_e0, nI_m1, m1_nI, Nat.reduceEqDiff, Nat.reduceLT, Nat.reduceLeDiff, Nat.reduceAdd, Nat.reduceSub, Nat.reduceMul, ↓reduceIte, eq_self, show ¬ 64 ≤ i by omega, e]
    · simp (disch := first | with_reducible assumption | omega | exact Or.inl rfl | exact Or.inr rfl | exact bI_01 | exact c_cat | exact vt_ref | exact vt_null | rfl | with_reducible repeat (first | assumption | omega | apply S_I | apply S_L | apply S_D | apply ob_I | apply ob_L | apply ob_D | apply ob_R | apply ax_I | apply ax_L | apply ax_D | apply ax_R | apply o303 | apply o307 | apply o302 | apply o301 | apply ax304 | apply ax305 | apply ax306 | apply ax308 | apply ax309 | apply ax310 | apply lt_S | apply ar305 | apply ar308 | apply ar309)) only [g124_111, g124_113, g124_116, g124_117, g124_118, g124_119, g124_122, g124_123, g124_126, g124_127, g124_128, g124_131, g124_134, g124_137, g124_139, nI_ltI, nI_leI, nI_eq, nI_add, nI_sub, nI_lt0, nI_e0, nI_m1, m1_nI, Nat.reduceEqDiff, Nat.reduceLT, Nat.reduceLeDiff, Nat.reduceAdd, Nat.reduceSub, Nat.reduceMul, ↓reduceIte, eq_self, show 64 ≤ i by omega]
  intro n
  induction n with
  | zero =>
    intro i r u L ε A h1 h2 hL1 hL hi
    obtain rfl : L = 1074 := by omega
    exact out i r u ε A h1 (by omega)
  | succ n ih =>
    intro i r u L ε A h1 h2 hL1 hL hi Q
    by_cases c : L = 1074
    · subst c
      exact out i r u ε A h1 (by omega) Q
    · have A' := u_mul A pw1 (uRep_mul (uV_rep A) (pwl (pw_up h1 h2).2 (by omega)))
      obtain ⟨k1, k2⟩ := pw_up (j := 1) h1 h2
      have B5 := ih (i + 1) _ (u * 2 ^ 1) (L + 1) (ε - 1) A' k1 k2 (by omega) (by omega) (by omega) Q
      have e := cv_lt A unitc1 (pwl h2 (show L < 1074 by omega)) .g
      have nn := u_nn A'
      rw [show ε - 1 + ((L + 1 : Nat) : Int) - 1074 = ε + L - 1074 by omega] at B5
      rw [← B5, g124_109]
      simp (disch := first | with_reducible assumption | omega | exact Or.inl rfl | exact Or.inr rfl | exact bI_01 | exact c_cat | exact vt_ref | exact vt_null | rfl | with_reducible repeat (first | assumption | omega | apply S_I | apply S_L | apply S_D | apply ob_I | apply ob_L | apply ob_D | apply ob_R | apply ax_I | apply ax_L | apply ax_D | apply ax_R | apply o303 | apply o307 | apply o302 | apply o301 | apply ax304 | apply ax305 | apply ax306 | apply ax308 | apply ax309 | apply ax310 | apply lt_S | apply ar305 | apply ar308 | apply ar309)) only [g124_111, g124_113, g124_116, g124_117, g124_118, g124_119, g124_122, g124_123, g124_126, g124_127, g124_128, g124_131, g124_134, nI_ltI, nI_leI, nI_eq, nI_add, nI_sub, nI_lt0, nI_e0, nI_m1, m1_nI, Nat.reduceEqDiff, Nat.reduceLT, Nat.reduceLeDiff, Nat.reduceAdd, Nat.reduceSub, Nat.reduceMul, ↓reduceIte, eq_self, show ¬ 64 ≤ i by omega, e, m1_ge0, iI_m1]
theorem x_exponentOf (A : uV a u) (h1 : 2 ^ L ≤ u) (h2 : u < 2 ^ (L + 1)) : am_run d 124 [some (.double a), none, none, none, none, none] h (some (.int (iI ((L : Int) - 1074)))) h := by
  have hL : L < 2098 := by
    apply (Nat.pow_lt_pow_iff_right (show 1 < 2 by decide)).mp
    exact Nat.lt_of_le_of_lt h1 (uRep_lt (uV_rep A))
  obtain ⟨r1, u1, L1, a1, a2, a3, a4, a5⟩ := x_exp1 (d := d) (h := h) (a := a) 15 0 a u L 0 A h1 h2 (by omega) (by decide)
  obtain ⟨r2, u2, L2, b1, b2, b3, b4, b4', b5⟩ := x_exp2 (d := d) (h := h) (a := a) 16 0 r1 u1 L1 (0 + L - L1) a1 a2 a3 a4 (by omega) (by decide)
  obtain ⟨r3, u3, L3, c1, c2, c3, c4, c4', c5⟩ := x_exp3 (d := d) (h := h) (a := a) 63 0 r2 u2 L2 (0 + L - L1 + L1 - L2) b1 b2 b3 b4 (by omega) (by decide)
  have e4 := x_exp4 (d := d) (h := h) (a := a) 64 0 r3 u3 L3 (0 + L - L1 + L1 - L2 + L2 - L3) c1 c2 c3 c4' (by omega) (by decide)
  intro Q
  have e4 := e4 Q
  rw [show (0 : Int) + L - L1 + L1 - L2 + L2 - L3 + L3 - 1074 = L - 1074 by omega] at e4
  rw [← e4, ← c5 Q, ← b5 Q, ← a5 Q]
  simp (disch := first | with_reducible assumption | omega | exact Or.inl rfl | exact Or.inr rfl | exact bI_01 | exact c_cat | exact vt_ref | exact vt_null | rfl | with_reducible repeat (first | assumption | omega | apply S_I | apply S_L | apply S_D | apply ob_I | apply ob_L | apply ob_D | apply ob_R | apply ax_I | apply ax_L | apply ax_D | apply ax_R | apply o303 | apply o307 | apply o302 | apply o301 | apply ax304 | apply ax305 | apply ax306 | apply ax308 | apply ax309 | apply ax310 | apply lt_S | apply ar305 | apply ar308 | apply ar309)) only [g124_0, g124_1, g124_2, g124_3, g124_5, g124_6, show iI 0 = nI 0 from rfl]
/-! scaled -/
theorem x_scUp1 {x0 : UInt64} {p : Int32} : ∀ (n : Nat) (r : UInt64) (u : Nat), uV r u → u * 2 ^ n < 2 ^ 2098 → n < 64 → ∃ r', uV r' (u * 2 ^ n) ∧ ∀ Q, am_J d 125 43 [some (.double x0), none, some (.int p), some (.double r), none, some (.int (nI n))] [] h Q ↔ Q (some (.double r')) h := by
  intro n
  induction n with
  | zero =>
    intro r u A hl hn
    refine ⟨r, by rw [Nat.pow_zero, Nat.mul_one]; exact A, fun Q => ?_⟩
    rw [g125_43]
    simp (disch := first | with_reducible assumption | omega | exact Or.inl rfl | exact Or.inr rfl | exact bI_01 | exact c_cat | exact vt_ref | exact vt_null | rfl | with_reducible repeat (first | assumption | omega | apply S_I | apply S_L | apply S_D | apply ob_I | apply ob_L | apply ob_D | apply ob_R | apply ax_I | apply ax_L | apply ax_D | apply ax_R | apply o303 | apply o307 | apply o302 | apply o301 | apply ax304 | apply ax305 | apply ax306 | apply ax308 | apply ax309 | apply ax310 | apply lt_S | apply ar305 | apply ar308 | apply ar309)) only [g125_45, g125_48, g125_49, g125_52, g125_53, g125_54, g125_57, g125_60, g125_62, g125_65, g125_66, g125_69, g125_70, g125_71, g125_74, g125_77, g125_78, show (nI 0 ≤ 0) = True from eq_true (by decide), show (0 ≤ nI 0) = True from eq_true (by decide), ↓reduceIte]
  | succ n ih =>
    intro r u A hl hn
    rw [show u * 2 ^ (n + 1) = u * 2 ^ 1 * 2 ^ n by rw [Nat.mul_assoc, ← Nat.pow_add, Nat.add_comm 1]] at hl ⊢
    have l1 : u * 2 ^ 1 < 2 ^ 2098 := Nat.lt_of_le_of_lt (Nat.le_mul_of_pos_right _ (Nat.two_pow_pos n)) hl
    have A' := u_mul A pw1 (uRep_mul (uV_rep A) l1)
    obtain ⟨r', B, R⟩ := ih _ (u * 2 ^ 1) A' hl (by omega)
    refine ⟨r', B, fun Q => ?_⟩
    have nn := u_nn A'
    have e : (nI (n + 1) ≤ 0) = False := eq_false (by
      rw [show (0 : Int32) = nI 0 from rfl, nI_leI (by omega) (by omega)]; omega)
    rw [← R Q, g125_43]
    simp (disch := first | with_reducible assumption | omega | exact Or.inl rfl | exact Or.inr rfl | exact bI_01 | exact c_cat | exact vt_ref | exact vt_null | rfl | with_reducible repeat (first | assumption | omega | apply S_I | apply S_L | apply S_D | apply ob_I | apply ob_L | apply ob_D | apply ob_R | apply ax_I | apply ax_L | apply ax_D | apply ax_R | apply o303 | apply o307 | apply o302 | apply o301 | apply ax304 | apply ax305 | apply ax306 | apply ax308 | apply ax309 | apply ax310 | apply lt_S | apply ar305 | apply ar308 | apply ar309)) only [g125_45, g125_48, g125_49, g125_52, g125_53, g125_54, g125_57, e, nI_suc1, ↓reduceIte]
theorem x_scUp {x0 : UInt64} {p : Int32} : ∀ (m n : Nat) (r : UInt64) (u : Nat), n < 64 * m → m ≤ 40 → uV r u → u * 2 ^ n < 2 ^ 2098 → ∃ r', uV r' (u * 2 ^ n) ∧ ∀ Q, am_J d 125 5 [some (.double x0), none, some (.int p), some (.double r), none, some (.int (nI n))] [] h Q ↔ Q (some (.double r')) h := by
  intro m
  induction m with
  | zero => intro n r u hn; omega
  | succ m ih =>
    intro n r u hn hm A hl
    by_cases c : n < 64
    · obtain ⟨r', B, R⟩ := x_scUp1 (d := d) (h := h) (x0 := x0) (p := p) n r u A hl c
      refine ⟨r', B, fun Q => ?_⟩
      have e : ((-64 : Int32) < nI n) = True := eq_true (by rw [Int32.lt_iff_toInt_lt, nI_toInt (by omega), show (-64 : Int32).toInt = -64 by decide]; omega)
      rw [← R Q, g125_5]
      simp (disch := first | with_reducible assumption | omega | exact Or.inl rfl | exact Or.inr rfl | exact bI_01 | exact c_cat | exact vt_ref | exact vt_null | rfl | with_reducible repeat (first | assumption | omega | apply S_I | apply S_L | apply S_D | apply ob_I | apply ob_L | apply ob_D | apply ob_R | apply ax_I | apply ax_L | apply ax_D | apply ax_R | apply o303 | apply o307 | apply o302 | apply o301 | apply ax304 | apply ax305 | apply ax306 | apply ax308 | apply ax309 | apply ax310 | apply lt_S | apply ar305 | apply ar308 | apply ar309)) only [g125_7, g125_9, g125_12, g125_13, g125_16, g125_17, g125_18, g125_21, g125_24, g125_26, g125_28, nI_ltI, nI_leI, nI_eq, nI_add, nI_sub, nI_lt0, nI_e0, nI_m1, m1_nI, Nat.reduceEqDiff, Nat.reduceLT, Nat.reduceLeDiff, Nat.reduceAdd, Nat.reduceSub, Nat.reduceMul, ↓reduceIte, eq_self, c, e]
    · rw [show u * 2 ^ n = u * 2 ^ 64 * 2 ^ (n - 64) by rw [Nat.mul_assoc, ← Nat.pow_add, show 64 + (n - 64) = n by omega]] at hl ⊢
      have l1 : u * 2 ^ 64 < 2 ^ 2098 := Nat.lt_of_le_of_lt (Nat.le_mul_of_pos_right _ (Nat.two_pow_pos (n - 64))) hl
      have A' := u_mul A pw64 (uRep_mul (uV_rep A) l1)
      obtain ⟨r', B, R⟩ := ih (n - 64) _ (u * 2 ^ 64) (by omega) (by omega) A' hl
      refine ⟨r', B, fun Q => ?_⟩
      have nn := u_nn A'
      have e : nI n + (-64) = nI (n - 64) := by rw [iI_n, iI_m64, iI_n]; congr 1; omega
      rw [← R Q, g125_5]
      simp (disch := first | with_reducible assumption | omega | exact Or.inl rfl | exact Or.inr rfl | exact bI_01 | exact c_cat | exact vt_ref | exact vt_null | rfl | with_reducible repeat (first | assumption | omega | apply S_I | apply S_L | apply S_D | apply ob_I | apply ob_L | apply ob_D | apply ob_R | apply ax_I | apply ax_L | apply ax_D | apply ax_R | apply o303 | apply o307 | apply o302 | apply o301 | apply ax304 | apply ax305 | apply ax306 | apply ax308 | apply ax309 | apply ax310 | apply lt_S | apply ar305 | apply ar308 | apply ar309)) only [g125_7, g125_9, g125_12, g125_13, g125_16, g125_17, g125_18, g125_21, nI_ltI, nI_leI, nI_eq, nI_add, nI_sub, nI_lt0, nI_e0, nI_m1, m1_nI, Nat.reduceEqDiff, Nat.reduceLT, Nat.reduceLeDiff, Nat.reduceAdd, Nat.reduceSub, Nat.reduceMul, ↓reduceIte, eq_self, c, e]
theorem x_scDn1 {x0 : UInt64} {p : Int32} : ∀ (n : Nat) (r : UInt64), uV r (w * 2 ^ n) → uRep w → n < 64 → ∃ r', uV r' w ∧ ∀ Q, am_J d 125 60 [some (.double x0), none, some (.int p), some (.double r), none, some (.int (iI (-(n : Int))))] [] h Q ↔ Q (some (.double r')) h := by
  intro n
  induction n with
  | zero =>
    intro r A hw hn
    refine ⟨r, by rw [Nat.pow_zero, Nat.mul_one] at A; exact A, fun Q => ?_⟩
    rw [g125_60]
    simp (disch := first | with_reducible assumption | omega | exact Or.inl rfl | exact Or.inr rfl | exact bI_01 | exact c_cat | exact vt_ref | exact vt_null | rfl | with_reducible repeat (first | assumption | omega | apply S_I | apply S_L | apply S_D | apply ob_I | apply ob_L | apply ob_D | apply ob_R | apply ax_I | apply ax_L | apply ax_D | apply ax_R | apply o303 | apply o307 | apply o302 | apply o301 | apply ax304 | apply ax305 | apply ax306 | apply ax308 | apply ax309 | apply ax310 | apply lt_S | apply ar305 | apply ar308 | apply ar309)) only [g125_62, g125_65, g125_66, g125_69, g125_70, g125_71, g125_74, g125_77, g125_78, show ((0 : Int32) ≤ iI (-((0 : Nat) : Int))) = True from eq_true (by decide), ↓reduceIte]
  | succ n ih =>
    intro r A hw hn
    rw [show w * 2 ^ (n + 1) = w * 2 ^ n * 2 ^ 1 by rw [Nat.mul_assoc, ← Nat.pow_add]] at A
    have l0 := uRep_lt (uV_rep A)
    have A' := u_div A pw1 (uRep_mul hw (Nat.lt_of_le_of_lt (Nat.le_mul_of_pos_right _ (Nat.two_pow_pos 1)) l0))
    obtain ⟨r', B, R⟩ := ih _ A' hw (by omega)
    refine ⟨r', B, fun Q => ?_⟩
    have nn := u_nn A'
    have e : ((0 : Int32) ≤ iI (-((n + 1 : Nat) : Int))) = False := eq_false (by
      rw [show (0 : Int32) = iI 0 from rfl, iI_le (by omega) (by omega)]; omega)
    have e2 : iI (-((n + 1 : Nat) : Int)) + nI 1 = iI (-(n : Int)) := by rw [iI_addn]; congr 1; omega
    rw [← R Q, g125_60]
    simp (disch := first | with_reducible assumption | omega | exact Or.inl rfl | exact Or.inr rfl | exact bI_01 | exact c_cat | exact vt_ref | exact vt_null | rfl | with_reducible repeat (first | assumption | omega | apply S_I | apply S_L | apply S_D | apply ob_I | apply ob_L | apply ob_D | apply ob_R | apply ax_I | apply ax_L | apply ax_D | apply ax_R | apply o303 | apply o307 | apply o302 | apply o301 | apply ax304 | apply ax305 | apply ax306 | apply ax308 | apply ax309 | apply ax310 | apply lt_S | apply ar305 | apply ar308 | apply ar309)) only [g125_62, g125_65, g125_66, g125_69, g125_70, g125_71, g125_74, e, e2, ↓reduceIte]
theorem x_scDn {x0 : UInt64} {p : Int32} : ∀ (m n : Nat) (r : UInt64), n < 64 * m → m ≤ 40 → uV r (w * 2 ^ n) → uRep w → ∃ r', uV r' w ∧ ∀ Q, am_J d 125 24 [some (.double x0), none, some (.int p), some (.double r), none, some (.int (iI (-(n : Int))))] [] h Q ↔ Q (some (.double r')) h := by
  intro m
  induction m with
  | zero => intro n r hn; omega
  | succ m ih =>
    intro n r hn hm A hw
    by_cases c : n < 64
    · obtain ⟨r', B, R⟩ := x_scDn1 (d := d) (h := h) (x0 := x0) (p := p) n r A hw c
      refine ⟨r', B, fun Q => ?_⟩
      have e : ((-64 : Int32) < iI (-(n : Int))) = True := eq_true (by rw [show (-64 : Int32) = iI (-64) by decide, iI_lt (by omega) (by omega)]; omega)
      have e1 : (iI (-(n : Int)) ≤ 0) = True := eq_true (by rw [show (0 : Int32) = iI 0 from rfl, iI_le (by omega) (by omega)]; omega)
      rw [← R Q, g125_24]
      simp (disch := first | with_reducible assumption | omega | exact Or.inl rfl | exact Or.inr rfl | exact bI_01 | exact c_cat | exact vt_ref | exact vt_null | rfl | with_reducible repeat (first | assumption | omega | apply S_I | apply S_L | apply S_D | apply ob_I | apply ob_L | apply ob_D | apply ob_R | apply ax_I | apply ax_L | apply ax_D | apply ax_R | apply o303 | apply o307 | apply o302 | apply o301 | apply ax304 | apply ax305 | apply ax306 | apply ax308 | apply ax309 | apply ax310 | apply lt_S | apply ar305 | apply ar308 | apply ar309)) only [g125_26, g125_28, g125_31, g125_32, g125_35, g125_36, g125_37, g125_40, g125_43, g125_45, e, e1, ↓reduceIte]
    · rw [show w * 2 ^ n = w * 2 ^ (n - 64) * 2 ^ 64 by rw [Nat.mul_assoc, ← Nat.pow_add, show n - 64 + 64 = n by omega]] at A
      have l0 := uRep_lt (uV_rep A)
      have A' := u_div A pw64 (uRep_mul hw (Nat.lt_of_le_of_lt (Nat.le_mul_of_pos_right _ (Nat.two_pow_pos 64)) l0))
      obtain ⟨r', B, R⟩ := ih (n - 64) _ (by omega) (by omega) A' hw
      refine ⟨r', B, fun Q => ?_⟩
      have nn := u_nn A'
      have e : ((-64 : Int32) < iI (-(n : Int))) = False := eq_false (by rw [show (-64 : Int32) = iI (-64) by decide, iI_lt (by omega) (by omega)]; omega)
      have e2 : iI (-(n : Int)) + nI 64 = iI (-((n - 64 : Nat) : Int)) := by rw [iI_addn]; congr 1; omega
      rw [← R Q, g125_24]
      simp (disch := first | with_reducible assumption | omega | exact Or.inl rfl | exact Or.inr rfl | exact bI_01 | exact c_cat | exact vt_ref | exact vt_null | rfl | with_reducible repeat (first | assumption | omega | apply S_I | apply S_L | apply S_D | apply ob_I | apply ob_L | apply ob_D | apply ob_R | apply ax_I | apply ax_L | apply ax_D | apply ax_R | apply o303 | apply o307 | apply o302 | apply o301 | apply ax304 | apply ax305 | apply ax306 | apply ax308 | apply ax309 | apply ax310 | apply lt_S | apply ar305 | apply ar308 | apply ar309)) only [g125_26, g125_28, g125_31, g125_32, g125_35, g125_36, g125_37, g125_40, e, e2, ↓reduceIte]
/-- scaled: w is u times 2 to z -/
theorem x_scaled {z : Int} (A : uV a u) (hw : uRep w) (hz : -2500 < z ∧ z < 2500) (e : u * 2 ^ z.toNat = w * 2 ^ (-z).toNat) : ∃ r, uV r w ∧ am_run d 125 [some (.double a), none, some (.int (iI z)), none, none, none] h (some (.double r)) h := by
  by_cases c : 0 ≤ z
  · rw [show (-z).toNat = 0 by omega, Nat.pow_zero, Nat.mul_one] at e
    subst e
    obtain ⟨r, B, R⟩ := x_scUp (d := d) (h := h) (x0 := a) (p := iI z) 40 z.toNat a u (by omega) (by omega) A (uRep_lt hw)
    refine ⟨r, B, fun Q => ?_⟩
    have e : nI z.toNat = iI z := by rw [iI_n]; congr 1; omega
    rw [← R Q, e]
    simp (disch := first | with_reducible assumption | omega | exact Or.inl rfl | exact Or.inr rfl | exact bI_01 | exact c_cat | exact vt_ref | exact vt_null | rfl | with_reducible repeat (first | assumption | omega | apply S_I | apply S_L | apply S_D | apply ob_I | apply ob_L | apply ob_D | apply ob_R | apply ax_I | apply ax_L | apply ax_D | apply ax_R | apply o303 | apply o307 | apply o302 | apply o301 | apply ax304 | apply ax305 | apply ax306 | apply ax308 | apply ax309 | apply ax310 | apply lt_S | apply ar305 | apply ar308 | apply ar309)) only [g125_0, g125_1, g125_2, g125_3]
  · rw [show z.toNat = 0 by omega, Nat.pow_zero, Nat.mul_one] at e
    subst e
    obtain ⟨r, B, R⟩ := x_scDn (d := d) (h := h) (x0 := a) (p := iI z) 40 (-z).toNat a (by omega) (by omega) A hw
    refine ⟨r, B, fun Q => ?_⟩
    rw [show -(((-z).toNat : Nat) : Int) = z by omega] at R
    have e : (iI z < nI 64) = True := eq_true (by rw [iI_n, iI_lt (by omega) (by omega)]; omega)
    rw [← R Q]
    simp (disch := first | with_reducible assumption | omega | exact Or.inl rfl | exact Or.inr rfl | exact bI_01 | exact c_cat | exact vt_ref | exact vt_null | rfl | with_reducible repeat (first | assumption | omega | apply S_I | apply S_L | apply S_D | apply ob_I | apply ob_L | apply ob_D | apply ob_R | apply ax_I | apply ax_L | apply ax_D | apply ax_R | apply o303 | apply o307 | apply o302 | apply o301 | apply ax304 | apply ax305 | apply ax306 | apply ax308 | apply ax309 | apply ax310 | apply lt_S | apply ar305 | apply ar308 | apply ar309)) only [g125_0, g125_1, g125_2, g125_3, g125_5, g125_7, g125_9, e, ↓reduceIte]
end EXP

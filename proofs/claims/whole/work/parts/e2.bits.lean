/-! THE CLASS: the sign and the bits of a double -/
section BIT
variable {d : Nat} {h : am_H} {x a : UInt64} {u : Nat}
/-- x is below 0, or the 0 below 0; its size has u units -/
def uM (x : UInt64) (u : Nat) : Prop := uV (Jvm.FP.dneg x) u ∧ ∃ c q, Jvm.FP.Core.val64 x = .fin true c q ∧ Jvm.FP.Core.inUnits c q (-1074) = u
theorem okD_cases (h : okD x) : (∃ u, uV x u) ∨ ∃ u, uM x u := by
  have h1 : Jvm.FP.Core.DFin x := by
    rw [Jvm.FP.Core.fin_bits]
    have h2 := UInt64.lt_iff_toNat_lt.mp h
    rw [Jvm.FP.Core.mask_toNat] at h2
    exact h2
  obtain ⟨s, c, q, e⟩ := h1
  cases s with
  | false => exact Or.inl ⟨_, c, q, e, rfl⟩
  | true =>
    have n := Jvm.FP.val64_dneg x
    rw [e] at n
    have n2 : Jvm.FP.Core.val64 (Jvm.FP.dneg x) = .fin false c q := n
    exact Or.inr ⟨Jvm.FP.Core.inUnits c q (-1074), ⟨c, q, n2, rfl⟩, c, q, e, rfl⟩
theorem okD_of (h : Jvm.FP.Core.DFin x) : okD x := by
  refine UInt64.lt_iff_toNat_lt.mpr ?_
  rw [Jvm.FP.Core.mask_toNat]
  exact (Jvm.FP.Core.fin_bits x).mp h
theorem uV_ok (A : uV x u) : okD x := by
  obtain ⟨c, q, e, -⟩ := A
  exact okD_of ⟨false, c, q, e⟩
theorem uM_ok (A : uM x u) : okD x := by
  obtain ⟨-, c, q, e, -⟩ := A
  exact okD_of ⟨true, c, q, e⟩
theorem uM_nn (A : uM x u) : Jvm.FP.Core.val64 x ≠ .nan := by
  obtain ⟨-, c, q, e, -⟩ := A
  rw [e]; exact fun q => by cases q
theorem uM_zv (A : uM x u) : Jvm.FP.Core.zval Jvm.FP.Core.b64 (Jvm.FP.Core.val64 x) = -(u : Int) := by
  obtain ⟨-, c, q, e, f⟩ := A
  rw [e]
  show Jvm.FP.Core.signed true (Jvm.FP.Core.inUnits c q Jvm.FP.Core.b64.qmin) = _
  rw [qm64, f]; rfl
theorem uM_bits (A : uM x u) : x.toNat = (Jvm.FP.dneg x).toNat + 2 ^ 63 := by
  have h1 := uV_bits A.1
  have h2 := Jvm.FP.Core.zmag_bits (uM_nn A)
  have h3 := Jvm.FP.Core.sgn_bits (uM_nn A)
  obtain ⟨-, c, q, e, f⟩ := A
  rw [e] at h2 h3
  have h2 : Jvm.FP.Core.inUnits c q Jvm.FP.Core.b64.qmin = _ := h2
  have h3 : true = _ := h3
  rw [qm64, f] at h2
  have h4 := of_decide_eq_true h3.symm
  have h5 := x.toNat_lt
  have h6 : x.toNat % 2 ^ 63 = (Jvm.FP.dneg x).toNat := by
    rcases Nat.lt_trichotomy (x.toNat % 2 ^ 63) (Jvm.FP.dneg x).toNat with q | q | q
    · have := Jvm.FP.Core.unitsOf_lt (f := Jvm.FP.Core.b64) q; omega
    · exact q
    · have := Jvm.FP.Core.unitsOf_lt (f := Jvm.FP.Core.b64) q; omega
  omega
theorem uV_zero (A : uV x 0) : x = Jvm.FP.dconst0 := uV_uniq A unit0
theorem uM_zero (A : uM x 0) : x = 9223372036854775808 := by
  have e := uV_uniq A.1 unit0
  have b := uM_bits A
  rw [e] at b
  apply UInt64.toNat_inj.mp
  rw [b]; decide +kernel
theorem uM_lt0 (A : uM x u) (c : 0 < u) : Jvm.FP.dcmp x Jvm.FP.dconst0 = some .lt := by
  have e : Jvm.FP.Core.dcmp x Jvm.FP.dconst0 = _ := Jvm.FP.Core.dcmp_zval (uM_nn A) (uV_nn unit0)
  rw [uM_zv A, uV_zv unit0, (Jvm.FP.Core.compare_lt_iff _ _).mpr (by omega)] at e
  exact e
theorem z_cmp : Jvm.FP.dcmp 9223372036854775808 Jvm.FP.dconst0 = some .eq := by decide +kernel
theorem z_div : Jvm.FP.ddiv Jvm.FP.dconst1 9223372036854775808 = 18442240474082181120 := by decide +kernel
theorem z_cmp2 : Jvm.FP.dcmp 18442240474082181120 Jvm.FP.dconst0 = some .lt := by decide +kernel
theorem z_div0 : Jvm.FP.ddiv Jvm.FP.dconst1 Jvm.FP.dconst0 = 9218868437227405312 := by decide +kernel
theorem z_cmp0 : Jvm.FP.dcmp 9218868437227405312 Jvm.FP.dconst0 = some .gt := by decide +kernel
theorem z_nn1 : am_nn 18442240474082181120 := by unfold am_nn; decide
theorem z_nn2 : am_nn 9218868437227405312 := by unfold am_nn; decide
theorem cv1 : ∀ op, Op.cmpValue (some .lt) op = -1 := fun _ => rfl
theorem cv2 : ∀ op, Op.cmpValue (some .eq) op = nI 0 := fun _ => rfl
theorem cv3 : ∀ op, Op.cmpValue (some .gt) op = nI 1 := fun _ => rfl
theorem i0_lt0 : (nI 0 < 0) = False := eq_false (by decide)
theorem i1_lt0 : (nI 1 < 0) = False := eq_false (by decide)
theorem i0_ge0 : ((0 : Int32) ≤ nI 0) = True := eq_true (by decide)
theorem i1_ge0 : ((0 : Int32) ≤ nI 1) = True := eq_true (by decide)
theorem m1_e0 : ((-1 : Int32) = 0) = False := eq_false (by decide)
theorem i0_e0 : (nI 0 = 0) = True := eq_true (by decide)
theorem i1_e0 : (nI 1 = 0) = False := eq_false (by decide)
theorem x_negV (A : uV x u) : am_run d 123 [some (.double x), none] h (some (.int (nI 0))) h := by
  by_cases c : u = 0
  · subst c
    obtain rfl := uV_zero A
    have e := u_eq A A
    have n2 := z_nn2
    intro Q
    have nn : am_nn (Jvm.FP.ddiv Jvm.FP.dconst1 Jvm.FP.dconst0) := by rw [z_div0]; exact z_nn2
    simp (disch := first | with_reducible assumption | omega | exact Or.inl rfl | exact Or.inr rfl | exact bI_01 | exact c_cat | exact vt_ref | exact vt_null | rfl | with_reducible repeat (first | assumption | omega | apply S_I | apply S_L | apply S_D | apply ob_I | apply ob_L | apply ob_D | apply ob_R | apply ax_I | apply ax_L | apply ax_D | apply ax_R | apply o303 | apply o307 | apply o302 | apply o301 | apply ax304 | apply ax305 | apply ax306 | apply ax308 | apply ax309 | apply ax310 | apply lt_S | apply ar305 | apply ar308 | apply ar309)) only [g123_0, g123_1, g123_2, g123_3, g123_6, g123_7, g123_8, g123_9, g123_12, g123_13, g123_14, g123_15, g123_16, g123_17, g123_20, g123_21, g123_24, g123_25, e, z_div0, z_cmp0, cv1, cv2, cv3, i0_lt0, i1_lt0, i0_e0, i1_ge0, ↓reduceIte]
  · have e := u_gt A unit0 (by omega)
    intro Q
    simp (disch := first | with_reducible assumption | omega | exact Or.inl rfl | exact Or.inr rfl | exact bI_01 | exact c_cat | exact vt_ref | exact vt_null | rfl | with_reducible repeat (first | assumption | omega | apply S_I | apply S_L | apply S_D | apply ob_I | apply ob_L | apply ob_D | apply ob_R | apply ax_I | apply ax_L | apply ax_D | apply ax_R | apply o303 | apply o307 | apply o302 | apply o301 | apply ax304 | apply ax305 | apply ax306 | apply ax308 | apply ax309 | apply ax310 | apply lt_S | apply ar305 | apply ar308 | apply ar309)) only [g123_0, g123_1, g123_2, g123_3, g123_6, g123_7, g123_8, g123_9, g123_12, g123_13, g123_14, g123_15, g123_16, g123_17, g123_20, g123_21, g123_24, g123_25, e, cv3, i1_lt0, i1_e0, ↓reduceIte]
theorem x_negM (A : uM x u) : am_run d 123 [some (.double x), none] h (some (.int (nI 1))) h := by
  by_cases c : u = 0
  · subst c
    obtain rfl := uM_zero A
    intro Q
    have nn : am_nn (Jvm.FP.ddiv Jvm.FP.dconst1 9223372036854775808) := by rw [z_div]; exact z_nn1
    simp (disch := first | with_reducible assumption | omega | exact Or.inl rfl | exact Or.inr rfl | exact bI_01 | exact c_cat | exact vt_ref | exact vt_null | rfl | with_reducible repeat (first | assumption | omega | apply S_I | apply S_L | apply S_D | apply ob_I | apply ob_L | apply ob_D | apply ob_R | apply ax_I | apply ax_L | apply ax_D | apply ax_R | apply o303 | apply o307 | apply o302 | apply o301 | apply ax304 | apply ax305 | apply ax306 | apply ax308 | apply ax309 | apply ax310 | apply lt_S | apply ar305 | apply ar308 | apply ar309)) only [g123_0, g123_1, g123_2, g123_3, g123_6, g123_7, g123_8, g123_9, g123_12, g123_13, g123_14, g123_15, g123_16, g123_17, g123_20, g123_21, g123_24, g123_25, z_cmp, z_div, z_cmp2, cv1, cv2, cv3, i0_lt0, i0_e0, m1_ge0, m1_lt0, ↓reduceIte]
  · have e := uM_lt0 A (by omega)
    intro Q
    simp (disch := first | with_reducible assumption | omega | exact Or.inl rfl | exact Or.inr rfl | exact bI_01 | exact c_cat | exact vt_ref | exact vt_null | rfl | with_reducible repeat (first | assumption | omega | apply S_I | apply S_L | apply S_D | apply ob_I | apply ob_L | apply ob_D | apply ob_R | apply ax_I | apply ax_L | apply ax_D | apply ax_R | apply o303 | apply o307 | apply o302 | apply o301 | apply ax304 | apply ax305 | apply ax306 | apply ax308 | apply ax309 | apply ax310 | apply lt_S | apply ar305 | apply ar308 | apply ar309)) only [g123_0, g123_1, g123_2, g123_3, g123_6, g123_7, g123_8, g123_9, g123_12, g123_13, g123_14, g123_15, g123_16, g123_17, g123_20, g123_21, g123_24, g123_25, e, cv1, m1_lt0, ↓reduceIte]
theorem i2l_iI {z : Int} {n k : Nat} (h1 : -2147483648 ≤ z) (h2 : z < 2147483648) (e : z + n = k) : (iI z).toInt64 + lN n = lN k := by
  have e1 : (iI z).toInt64 = Int64.ofInt z := by
    apply Int64.toInt_inj.mp
    rw [Int32.toInt_toInt64, iI_toInt h1 h2, Int64.toInt_ofInt_of_le (by omega) (by omega)]
  have e2 : ∀ n : Nat, lN n = Int64.ofInt n := fun n => by
    apply Int64.toBitVec_inj.mp
    show BitVec.ofNat 64 n = BitVec.ofInt 64 (n : Int)
    rw [BitVec.ofInt_natCast]
  rw [e1, e2, e2, ← Int64.ofInt_add, e]
theorem l6_shl52 (n : Nat) : lN n <<< ((nI 52).toInt64 &&& 63) = lN (n * 2 ^ 52) := by
  rw [show ((nI 52).toInt64 &&& 63) = 52 by decide]
  apply Int64.toBitVec_inj.mp
  rw [Int64.toBitVec_shiftLeft, lN_bv', lN_bv', show (BitVec.smod (52 : Int64).toBitVec 64) = 52#64 by decide]
  apply BitVec.eq_of_toNat_eq
  rw [BitVec.shiftLeft_eq', BitVec.toNat_shiftLeft, BitVec.toNat_ofNat, BitVec.toNat_ofNat, BitVec.toNat_ofNat, show 52 % 2 ^ 64 = 52 by decide, Nat.shiftLeft_eq, Nat.mod_mul_mod]
theorem x_bitsCore {x0 : UInt64} {top : Int64} {v6 : Option Value} (A : uV a u) (c : 0 < u) : ∀ Q, am_J (d + 1) 122 38 [some (.double x0), none, some (.long top), none, some (.double a), none, v6] [] h Q ↔ Q (some (.long (top ||| lN a.toNat))) h := by
  have h1 : 2 ^ u.log2 ≤ u := Nat.log2_self_le (by omega)
  have h2 : u < 2 ^ (u.log2 + 1) := Nat.lt_log2_self
  generalize u.log2 = L at h1 h2
  have hL : L < 2098 := by
    apply (Nat.pow_lt_pow_iff_right (show 1 < 2 by decide)).mp
    exact Nat.lt_of_le_of_lt h1 (uRep_lt (uV_rep A))
  have ex := x_exponentOf (d := d) (h := h) A h1 h2
  intro Q
  have em : (-1022 : Int32) = iI (-1022) := by decide
  by_cases c1 : L < 52
  · have lt : u < 2 ^ 52 := pwl h2 c1
    obtain ⟨r, B, R⟩ := x_scaled (d := d) (h := h) (z := 1074) (w := u * 2 ^ 1074) A ⟨u, 1074, by omega, by decide, rfl⟩ (by decide) (by
      show u * 2 ^ 1074 = u * 2 ^ 1074 * 2 ^ 0
      rw [Nat.pow_zero, Nat.mul_one])
    have e1 := u_d2l B (by omega)
    have ep := u_part A lt
    have e2 : (iI (-1022) ≤ iI ((L : Int) - 1074)) = False := eq_false (by rw [iI_le (by omega) (by omega)]; omega)
    have e3 : nI 1074 = iI 1074 := iI_n 1074
    simp (disch := first | with_reducible assumption | omega | exact Or.inl rfl | exact Or.inr rfl | exact bI_01 | exact c_cat | exact vt_ref | exact vt_null | rfl | with_reducible repeat (first | assumption | omega | apply S_I | apply S_L | apply S_D | apply ob_I | apply ob_L | apply ob_D | apply ob_R | apply ax_I | apply ax_L | apply ax_D | apply ax_R | apply o303 | apply o307 | apply o302 | apply o301 | apply ax304 | apply ax305 | apply ax306 | apply ax308 | apply ax309 | apply ax310 | apply lt_S | apply ar305 | apply ar308 | apply ar309)) only [g122_38, g122_40, g122_43, g122_45, g122_47, g122_50, g122_53, g122_54, g122_56, g122_59, g122_62, g122_63, g122_64, Option.toList, List.nil_append, List.cons_append, va_rf, ex _, em, e2, e3, R _, e1, ep, ↓reduceIte]
  · obtain ⟨m, hm, hr⟩ := uRep_div (j := L - 52) (uV_rep A) (pwg h1 (by omega))
    have A' := A
    rw [hm] at A' h1 h2
    obtain ⟨m1, m2⟩ := pw_dn (by omega) h1 h2
    rw [show L - (L - 52) = 52 by omega] at m1 m2
    have m2 : m < 2 ^ 53 := m2
    obtain ⟨r, B, R⟩ := x_scaled (d := d) (h := h) (z := 52 - ((L : Int) - 1074)) (w := m * 2 ^ 1074) A ⟨m, 1074, m2, by decide, rfl⟩ (by omega) (by
      rw [hm, Nat.mul_assoc, Nat.mul_assoc, ← Nat.pow_add, ← Nat.pow_add]
      congr 2; omega)
    have e1 := u_d2l B (by omega)
    have ef := u_full A' m1 m2
    have e2 : (iI (-1022) ≤ iI ((L : Int) - 1074)) = True := eq_true (by rw [iI_le (by omega) (by omega)]; omega)
    have e3 : (iI ((L : Int) - 1074)).toInt64 + lN 1022 = lN (L - 52) := i2l_iI (by omega) (by omega) (by omega)
    have e4 : nI 52 - iI ((L : Int) - 1074) = iI (52 - ((L : Int) - 1074)) := iI_nsub 52 _
    simp (disch := first | with_reducible assumption | omega | exact Or.inl rfl | exact Or.inr rfl | exact bI_01 | exact c_cat | exact vt_ref | exact vt_null | rfl | with_reducible repeat (first | assumption | omega | apply S_I | apply S_L | apply S_D | apply ob_I | apply ob_L | apply ob_D | apply ob_R | apply ax_I | apply ax_L | apply ax_D | apply ax_R | apply o303 | apply o307 | apply o302 | apply o301 | apply ax304 | apply ax305 | apply ax306 | apply ax308 | apply ax309 | apply ax310 | apply lt_S | apply ar305 | apply ar308 | apply ar309)) only [g122_38, g122_40, g122_43, g122_45, g122_47, g122_50, g122_53, g122_54, g122_56, g122_59, g122_62, g122_63, g122_64, g122_65, g122_66, g122_68, g122_69, g122_72, g122_73, g122_75, g122_76, g122_78, g122_80, g122_82, g122_83, g122_86, g122_87, g122_88, g122_89, Option.toList, List.nil_append, List.cons_append, va_rf, ex _, em, e2, e3, e4, R _, e1, l6_shl52, l6_add, ef, ↓reduceIte]
theorem x_bitsOf (ok : okD x) : am_run (d + 1) 122 [some (.double x), none, none, none, none, none, none] h (some (.long x.toInt64)) h := by
  rcases okD_cases ok with ⟨u, A⟩ | ⟨u, A⟩
  · have sg := x_negV (d := d) (h := h) A
    have ez : lN 0 ||| lN x.toNat = x.toInt64 := by
      apply Int64.toBitVec_inj.mp
      rw [Int64.toBitVec_or, lN_bv', lN_bv']
      show 0#64 ||| BitVec.ofNat 64 x.toNat = x.toBitVec
      rw [BitVec.zero_or]
      apply BitVec.eq_of_toNat_eq
      rw [BitVec.toNat_ofNat, Nat.mod_eq_of_lt x.toNat_lt]
      rfl
    by_cases c : u = 0
    · subst c
      obtain rfl := uV_zero A
      have e := u_eq A A
      intro Q
      simp (disch := first | with_reducible assumption | omega | exact Or.inl rfl | exact Or.inr rfl | exact bI_01 | exact c_cat | exact vt_ref | exact vt_null | rfl | with_reducible repeat (first | assumption | omega | apply S_I | apply S_L | apply S_D | apply ob_I | apply ob_L | apply ob_D | apply ob_R | apply ax_I | apply ax_L | apply ax_D | apply ax_R | apply o303 | apply o307 | apply o302 | apply o301 | apply ax304 | apply ax305 | apply ax306 | apply ax308 | apply ax309 | apply ax310 | apply lt_S | apply ar305 | apply ar308 | apply ar309)) only [g122_0, g122_1, g122_4, g122_7, g122_10, g122_13, g122_14, g122_15, g122_16, g122_17, g122_18, g122_21, g122_22, g122_23, g122_26, g122_27, g122_29, g122_31, g122_32, g122_33, g122_36, g122_37, Option.toList, List.nil_append, List.cons_append, va_rf, sg _, e, cv2, i0_e0, i0_ge0, ↓reduceIte]
      exact Iff.rfl
    · have e := u_gt A unit0 (by omega)
      intro Q
      have core := x_bitsCore (d := d) (h := h) (x0 := x) (top := lN 0) (v6 := none) A (by omega) Q
      rw [ez] at core
      rw [← core]
      simp (disch := first | with_reducible assumption | omega | exact Or.inl rfl | exact Or.inr rfl | exact bI_01 | exact c_cat | exact vt_ref | exact vt_null | rfl | with_reducible repeat (first | assumption | omega | apply S_I | apply S_L | apply S_D | apply ob_I | apply ob_L | apply ob_D | apply ob_R | apply ax_I | apply ax_L | apply ax_D | apply ax_R | apply o303 | apply o307 | apply o302 | apply o301 | apply ax304 | apply ax305 | apply ax306 | apply ax308 | apply ax309 | apply ax310 | apply lt_S | apply ar305 | apply ar308 | apply ar309)) only [g122_0, g122_1, g122_4, g122_7, g122_10, g122_13, g122_14, g122_15, g122_16, g122_17, g122_18, g122_21, g122_22, g122_23, g122_26, g122_27, g122_29, g122_31, g122_32, g122_33, g122_36, g122_37, Option.toList, List.nil_append, List.cons_append, va_rf, sg _, e, cv3, i0_e0, i1_e0, i1_ge0, ↓reduceIte]
  · have sg := x_negM (d := d) (h := h) A
    by_cases c : u = 0
    · subst c
      obtain rfl := uM_zero A
      intro Q
      simp (disch := first | with_reducible assumption | omega | exact Or.inl rfl | exact Or.inr rfl | exact bI_01 | exact c_cat | exact vt_ref | exact vt_null | rfl | with_reducible repeat (first | assumption | omega | apply S_I | apply S_L | apply S_D | apply ob_I | apply ob_L | apply ob_D | apply ob_R | apply ax_I | apply ax_L | apply ax_D | apply ax_R | apply o303 | apply o307 | apply o302 | apply o301 | apply ax304 | apply ax305 | apply ax306 | apply ax308 | apply ax309 | apply ax310 | apply lt_S | apply ar305 | apply ar308 | apply ar309)) only [g122_0, g122_1, g122_4, g122_7, g122_10, g122_13, g122_14, g122_15, g122_16, g122_17, g122_18, g122_21, g122_22, g122_23, g122_26, g122_27, g122_29, g122_31, g122_32, g122_33, g122_36, g122_37, Option.toList, List.nil_append, List.cons_append, va_rf, sg _, z_cmp, cv2, i0_e0, i1_e0, i0_ge0, ↓reduceIte]
      exact Iff.rfl
    · have e := uM_lt0 A (by omega)
      have e2 := u_gt A.1 unit0 (by omega)
      have b := uM_bits A
      have ez : (-9223372036854775808 : Int64) ||| lN (Jvm.FP.dneg x).toNat = x.toInt64 := by
        apply Int64.toBitVec_inj.mp
        rw [Int64.toBitVec_or, lN_bv']
        have l := uV_pos A.1
        have lx := x.toNat_lt
        apply BitVec.eq_of_toNat_eq
        rw [BitVec.toNat_or, BitVec.toNat_ofNat, Nat.mod_eq_of_lt (by omega), show (-9223372036854775808 : Int64).toBitVec.toNat = 1 <<< 63 by decide]
        rw [← Nat.shiftLeft_add_eq_or_of_lt l]
        show _ = x.toNat
        rw [b]; omega
      intro Q
      have core := x_bitsCore (d := d) (h := h) (x0 := x) (top := -9223372036854775808) (v6 := none) A.1 (by omega) Q
      rw [ez] at core
      rw [← core]
      simp (disch := first | with_reducible assumption | omega | exact Or.inl rfl | exact Or.inr rfl | exact bI_01 | exact c_cat | exact vt_ref | exact vt_null | rfl | with_reducible repeat (first | assumption | omega | apply S_I | apply S_L | apply S_D | apply ob_I | apply ob_L | apply ob_D | apply ob_R | apply ax_I | apply ax_L | apply ax_D | apply ax_R | apply o303 | apply o307 | apply o302 | apply o301 | apply ax304 | apply ax305 | apply ax306 | apply ax308 | apply ax309 | apply ax310 | apply lt_S | apply ar305 | apply ar308 | apply ar309)) only [g122_0, g122_1, g122_4, g122_7, g122_10, g122_13, g122_14, g122_15, g122_16, g122_17, g122_18, g122_21, g122_22, g122_23, g122_26, g122_27, g122_29, g122_31, g122_32, g122_33, g122_36, g122_37, Option.toList, List.nil_append, List.cons_append, va_rf, sg _, e, e2, cv1, cv3, i0_e0, i1_e0, m1_ge0, i1_ge0, ↓reduceIte]
end BIT

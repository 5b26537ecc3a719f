/-! THE CLASS: the remainder of doubles -/
section RMD
variable {d : Nat} {h : am_H} {x y a b : UInt64} {u w : Nat}
theorem uM_uniq (A : uM a u) (B : uM b u) : a = b := by
  have e := uV_uniq A.1 B.1
  have h1 := uM_bits A
  have h2 := uM_bits B
  rw [e] at h1
  apply UInt64.toNat_inj.mp
  rw [h1, h2]
theorem uM_neg (A : uV a u) : uM (Jvm.FP.dneg a) u := by
  have nn : Jvm.FP.dneg (Jvm.FP.dneg a) = a := by unfold Jvm.FP.dneg; rw [UInt64.xor_assoc, UInt64.xor_self, UInt64.xor_zero]
  obtain ⟨c, q, e, f⟩ := id A
  refine ⟨?_, c, q, ?_, f⟩
  · have : Jvm.FP.dneg (Jvm.FP.dneg a) = a := nn
    rw [this]; exact A
  · have n := Jvm.FP.val64_dneg a
    rw [e] at n
    have n2 : Jvm.FP.Core.val64 (Jvm.FP.dneg a) = .fin true c q := n
    exact n2
theorem u_norm (A : uV a u) (c : 0 < u) : ∃ L m, L < 2098 ∧ 2 ^ L ≤ u ∧ u < 2 ^ (L + 1) ∧ m * 2 ^ L = u * 2 ^ 52 ∧ 2 ^ 52 ≤ m ∧ m < 2 ^ 53 := by
  have h1 : 2 ^ u.log2 ≤ u := Nat.log2_self_le (by omega)
  have h2 : u < 2 ^ (u.log2 + 1) := Nat.lt_log2_self
  generalize u.log2 = L at h1 h2
  have hL : L < 2098 := by
    apply (Nat.pow_lt_pow_iff_right (show 1 < 2 by decide)).mp
    exact Nat.lt_of_le_of_lt h1 (uRep_lt (uV_rep A))
  have ex : ∃ m, m * 2 ^ L = u * 2 ^ 52 := by
    by_cases c1 : L < 52
    · exact ⟨u * 2 ^ (52 - L), by rw [Nat.mul_assoc, ← Nat.pow_add, Nat.sub_add_cancel (by omega)]⟩
    · obtain ⟨m, hm, -⟩ := uRep_div (j := L - 52) (uV_rep A) (pwg h1 (by omega))
      exact ⟨m, by rw [hm, Nat.mul_assoc, ← Nat.pow_add, Nat.sub_add_cancel (by omega)]⟩
  obtain ⟨m, hm⟩ := ex
  refine ⟨L, m, hL, h1, h2, hm, ?_, ?_⟩
  · apply Nat.le_of_mul_le_mul_right (c := 2 ^ L) _ (Nat.two_pow_pos L)
    rw [hm, Nat.mul_comm]
    exact Nat.mul_le_mul_right _ h1
  · apply Nat.lt_of_mul_lt_mul_right (a := 2 ^ L)
    rw [hm]
    calc u * 2 ^ 52 < 2 ^ (L + 1) * 2 ^ 52 := Nat.mul_lt_mul_of_pos_right h2 (Nat.two_pow_pos _)
      _ = 2 ^ 53 * 2 ^ L := by rw [← Nat.pow_add, ← Nat.pow_add]; congr 1; omega
theorem x_whole {L m : Nat} (A : uV a u) (hL : L < 2098) (e : m * 2 ^ L = u * 2 ^ 52) (hm : m < 2 ^ 53) : ∃ r, Jvm.FP.d2l r = lN m ∧ am_run d 125 [some (.double a), none, some (.int (iI (1126 - (L : Int)))), none, none, none] h (some (.double r)) h := by
  obtain ⟨r, B, R⟩ := x_scaled (d := d) (h := h) (z := 1126 - (L : Int)) (w := m * 2 ^ 1074) A ⟨m, 1074, hm, by decide, rfl⟩ (by omega) (by
    apply Nat.eq_of_mul_eq_mul_right (Nat.two_pow_pos 52)
    have : u * 2 ^ (1126 - (L : Int)).toNat * 2 ^ 52 = m * 2 ^ L * 2 ^ (1126 - (L : Int)).toNat := by
      rw [e]; simp only [Nat.mul_assoc, Nat.mul_comm, Nat.mul_left_comm]
    rw [this, Nat.mul_assoc, Nat.mul_assoc, Nat.mul_assoc, ← Nat.pow_add, ← Nat.pow_add, ← Nat.pow_add]
    congr 2; omega)
  exact ⟨r, u_d2l B (by omega), R⟩
theorem l6_shl {n k : Nat} (hk : k < 64) : lN n <<< ((nI k).toInt64 &&& 63) = lN (n * 2 ^ k) := by
  have e : ∀ k, k < 64 → (((nI k).toInt64 &&& 63).toBitVec.smod 64).toNat = k := by decide +kernel
  apply Int64.toBitVec_inj.mp
  rw [Int64.toBitVec_shiftLeft, lN_bv', lN_bv', BitVec.shiftLeft_eq', e k hk]
  apply BitVec.eq_of_toNat_eq
  rw [BitVec.toNat_shiftLeft, BitVec.toNat_ofNat, BitVec.toNat_ofNat, Nat.shiftLeft_eq, Nat.mod_mul_mod]
theorem x_remLoop {x y a b : UInt64} {e : Int32} {D : Nat} (hD : 0 < D) (hD2 : D < 2 ^ 53) {v14 v15 : Option Value} : ∀ f n R, n ≤ f → n < 10000 → R < D → ∀ v14 v15, ∃ v14' v15', ∀ Q, am_J (d + 1) 127 103 [some (.double x), none, some (.double y), none, some (.double a), none, some (.double b), none, some (.int e), some (.long (lN D)), none, some (.int (nI n)), some (.long (lN R)), none, v14, v15] [] h Q ↔ am_J (d + 1) 127 137 [some (.double x), none, some (.double y), none, some (.double a), none, some (.double b), none, some (.int e), some (.long (lN D)), none, some (.int (nI 0)), some (.long (lN (R * 2 ^ n % D))), none, v14', v15'] [] h Q := by
  have nz : ¬ lN D = 0 := fun q => by
    have := (lN_inj64 (a := D) (b := 0) (by omega) (by decide)).mp q
    omega
  intro f
  induction f with
  | zero =>
    intro n R hn _ hR v14 v15
    obtain rfl : n = 0 := by omega
    refine ⟨v14, v15, fun Q => ?_⟩
    rw [Nat.pow_zero, Nat.mul_one, Nat.mod_eq_of_lt hR, g127_103]
    simp (disch := first | with_reducible assumption | omega | exact Or.inl rfl | exact Or.inr rfl | exact bI_01 | exact c_cat | exact vt_ref | exact vt_null | rfl | with_reducible repeat (first | assumption | omega | apply S_I | apply S_L | apply S_D | apply ob_I | apply ob_L | apply ob_D | apply ob_R | apply ax_I | apply ax_L | apply ax_D | apply ax_R | apply o303 | apply o307 | apply o302 | apply o301 | apply ax304 | apply ax305 | apply ax306 | apply ax308 | apply ax309 | apply ax310 | apply lt_S | apply ar305 | apply ar308 | apply ar309)) only [g127_105, g127_108, g127_110, g127_112, g127_115, g127_117, g127_119, g127_121, g127_122, g127_124, g127_125, g127_127, g127_129, g127_131, g127_132, g127_134, show (nI 0 ≤ 0) = True from eq_true (by decide), ↓reduceIte]
  | succ f ih =>
    intro n R hn hn2 hR v14 v15
    by_cases c : n = 0
    · subst c
      refine ⟨v14, v15, fun Q => ?_⟩
      rw [Nat.pow_zero, Nat.mul_one, Nat.mod_eq_of_lt hR, g127_103]
      simp (disch := first | with_reducible assumption | omega | exact Or.inl rfl | exact Or.inr rfl | exact bI_01 | exact c_cat | exact vt_ref | exact vt_null | rfl | with_reducible repeat (first | assumption | omega | apply S_I | apply S_L | apply S_D | apply ob_I | apply ob_L | apply ob_D | apply ob_R | apply ax_I | apply ax_L | apply ax_D | apply ax_R | apply o303 | apply o307 | apply o302 | apply o301 | apply ax304 | apply ax305 | apply ax306 | apply ax308 | apply ax309 | apply ax310 | apply lt_S | apply ar305 | apply ar308 | apply ar309)) only [g127_105, g127_108, g127_110, g127_112, g127_115, g127_117, g127_119, g127_121, g127_122, g127_124, g127_125, g127_127, g127_129, g127_131, g127_132, g127_134, show (nI 0 ≤ 0) = True from eq_true (by decide), ↓reduceIte]
    · have e0 : (nI n ≤ 0) = False := eq_false (by
        rw [show (0 : Int32) = nI 0 from rfl, nI_leI (by omega) (by omega)]; omega)
      have step : ∀ j, j ≤ 10 → j ≤ n → 1 ≤ j → (if nI 10 < nI n then nI 10 else nI n) = nI j → ∃ v14' v15', ∀ Q, am_J (d + 1) 127 103 [some (.double x), none, some (.double y), none, some (.double a), none, some (.double b), none, some (.int e), some (.long (lN D)), none, some (.int (nI n)), some (.long (lN R)), none, v14, v15] [] h Q ↔ am_J (d + 1) 127 137 [some (.double x), none, some (.double y), none, some (.double a), none, some (.double b), none, some (.int e), some (.long (lN D)), none, some (.int (nI 0)), some (.long (lN (R * 2 ^ n % D))), none, v14', v15'] [] h Q := fun j j1 j2 j3 ej => by
        have pj : 2 ^ j ≤ 2 ^ 10 := Nat.pow_le_pow_right (by decide) j1
        have lt : R * 2 ^ j < 2 ^ 63 := Nat.lt_of_le_of_lt (Nat.mul_le_mul (show R ≤ 2 ^ 53 - 1 by omega) pj) (by decide)
        have ld : R * 2 ^ j / D < 2 ^ 63 := Nat.lt_of_le_of_lt (Nat.div_le_self _ _) lt
        obtain ⟨w14, w15, B⟩ := ih (n - j) (R * 2 ^ j % D) (by omega) (by omega) (Nat.mod_lt _ hD) (some (.int (nI j))) v15
        refine ⟨w14, w15, fun Q => ?_⟩
        have B := B Q
        rw [Nat.mod_mul_mod, Nat.mul_assoc, ← Nat.pow_add, show j + (n - j) = n by omega] at B
        rw [← B, g127_103]
        simp (disch := first | with_reducible assumption | omega | exact Or.inl rfl | exact Or.inr rfl | exact bI_01 | exact c_cat | exact vt_ref | exact vt_null | rfl | with_reducible repeat (first | assumption | omega | apply S_I | apply S_L | apply S_D | apply ob_I | apply ob_L | apply ob_D | apply ob_R | apply ax_I | apply ax_L | apply ax_D | apply ax_R | apply o303 | apply o307 | apply o302 | apply o301 | apply ax304 | apply ax305 | apply ax306 | apply ax308 | apply ax309 | apply ax310 | apply lt_S | apply ar305 | apply ar308 | apply ar309)) only [g127_105, g127_108, g127_110, g127_112, g127_115, g127_117, g127_119, g127_121, g127_122, g127_124, g127_125, g127_127, g127_129, g127_131, g127_132, g127_134, e0, ej, l6_shl, l6_div, l6_mul, l6_rem2, nI_sub, ↓reduceIte]
      by_cases c2 : 10 < n
      · exact step 10 (by omega) (by omega) (by omega) (if_pos (nI_lt c2 (by omega)))
      · exact step n (by omega) (by omega) (by omega) (if_neg (nI_nlt (by omega) (by omega)))
theorem uF_y (hy : uV y w ∨ uM y w) (c : 0 < w) : ∃ t dd r, Jvm.FP.Core.val64 y = .fin t dd r ∧ dd ≠ 0 ∧ Jvm.FP.Core.inUnits dd r (-1074) = w := by
  rcases hy with ⟨dd, r, e, f⟩ | ⟨-, dd, r, e, f⟩
  · refine ⟨false, dd, r, e, fun q => ?_, f⟩
    subst q
    unfold Jvm.FP.Core.inUnits at f
    omega
  · refine ⟨true, dd, r, e, fun q => ?_, f⟩
    subst q
    unfold Jvm.FP.Core.inUnits at f
    omega
theorem rem_V (A : uV x u) (hy : uV y w ∨ uM y w) (c : 0 < w) : uV (Jvm.FP.drem x y) (u % w) := by
  obtain ⟨t, dd, r, e, d0, f⟩ := uF_y hy c
  obtain ⟨c1, q1, e1, f1⟩ := A
  obtain ⟨c', q', r1, r2⟩ := Jvm.FP.Core.drem_exact e1 e d0
  rw [qm64, f, f1] at r2
  exact ⟨c', q', r1, r2⟩
theorem rem_M (A : uM x u) (hy : uV y w ∨ uM y w) (c : 0 < w) : uM (Jvm.FP.drem x y) (u % w) := by
  obtain ⟨t, dd, r, e, d0, f⟩ := uF_y hy c
  obtain ⟨-, c1, q1, e1, f1⟩ := A
  obtain ⟨c', q', r1, r2⟩ := Jvm.FP.Core.drem_exact e1 e d0
  rw [qm64, f, f1] at r2
  have n := Jvm.FP.val64_dneg (Jvm.FP.drem x y)
  rw [r1] at n
  have n2 : Jvm.FP.Core.val64 (Jvm.FP.dneg (Jvm.FP.drem x y)) = .fin false c' q' := n
  exact ⟨⟨c', q', n2, r2⟩, c', q', r1, r2⟩
/-- the run from pc 28 on, sizes known -/
theorem x_remMain {v8 v9 v10 v11 v12 v13 v14 v15 : Option Value} (hx : uV x u ∨ uM x u) (hy : uV y w ∨ uM y w) (A : uV a u) (B : uV b w) (cu : 0 < u) (cw : 0 < w) : ∀ Q, am_J (d + 1) 127 28 [some (.double x), none, some (.double y), none, some (.double a), none, some (.double b), none, v8, v9, v10, v11, v12, v13, v14, v15] [] h Q ↔ Q (some (.double (Jvm.FP.drem x y))) h := by
  intro Q
  by_cases c : u < w
  · have e : Jvm.FP.drem x y = x := by
      have m := Nat.mod_eq_of_lt c
      rcases hx with hx | hx
      · have := rem_V hx hy cw
        rw [m] at this
        exact uV_uniq this hx
      · have := rem_M hx hy cw
        rw [m] at this
        exact uM_uniq this hx
    have e1 := cv_lt A B c .g
    rw [e]
    simp (disch := first | with_reducible assumption | omega | exact Or.inl rfl | exact Or.inr rfl | exact bI_01 | exact c_cat | exact vt_ref | exact vt_null | rfl | with_reducible repeat (first | assumption | omega | apply S_I | apply S_L | apply S_D | apply ob_I | apply ob_L | apply ob_D | apply ob_R | apply ax_I | apply ax_L | apply ax_D | apply ax_R | apply o303 | apply o307 | apply o302 | apply o301 | apply ax304 | apply ax305 | apply ax306 | apply ax308 | apply ax309 | apply ax310 | apply lt_S | apply ar305 | apply ar308 | apply ar309)) only [g127_28, g127_30, g127_32, g127_33, g127_36, g127_38, g127_39, g127_40, g127_43, g127_44, e1, m1_lt0, ↓reduceIte]
  · obtain ⟨Lb, D, b1, b2, b3, b4, b5, b6⟩ := u_norm B cw
    obtain ⟨La, m, a1, a2, a3, a4, a5, a6⟩ := u_norm A cu
    have hLL : Lb ≤ La := by
      apply Nat.le_of_not_lt
      intro q
      have h1 : 2 ^ (La + 1) ≤ 2 ^ Lb := Nat.pow_le_pow_right (by decide) q
      omega
    have eb := x_exponentOf (d := d) (h := h) B b2 b3
    have ea := x_exponentOf (d := d) (h := h) A a2 a3
    obtain ⟨rb, db, Rb⟩ := x_whole (d := d) (h := h) B b1 b4 b6
    obtain ⟨ra, da, Ra⟩ := x_whole (d := d) (h := h) A a1 a4 a6
    obtain ⟨w14, w15, Lp⟩ := x_remLoop (d := d) (h := h) (x := x) (y := y) (a := a) (b := b) (e := iI ((Lb : Int) - 1074)) (D := D) (by omega) b6 (v14 := v14) (v15 := v15) (La - Lb) (La - Lb) (m % D) (Nat.le_refl _) (by omega) (Nat.mod_lt _ (by omega)) v14 v15
    have Lp := Lp Q
    rw [Nat.mod_mul_mod] at Lp
    have key : u % w * 2 ^ 52 = m * 2 ^ (La - Lb) % D * 2 ^ Lb := by
      rw [← Nat.mul_mod_mul_right, ← Nat.mul_mod_mul_right, ← a4, ← b4, Nat.mul_assoc, ← Nat.pow_add, Nat.sub_add_cancel hLL]
    generalize hR : m * 2 ^ (La - Lb) % D = R at key Lp
    have R53 : R < 2 ^ 53 := by rw [← hR]; exact Nat.lt_trans (Nat.mod_lt _ (by omega)) b6
    have rep : uRep (u % w) := by
      by_cases c2 : Lb < 52
      · have l := Nat.mod_lt u cw
        have l2 := pwl b3 (show Lb < 53 by omega)
        exact ⟨u % w, 0, by omega, by decide, by rw [Nat.pow_zero, Nat.mul_one]⟩
      · refine ⟨R, Lb - 52, R53, by omega, ?_⟩
        apply Nat.eq_of_mul_eq_mul_right (Nat.two_pow_pos 52)
        rw [key, Nat.mul_assoc, ← Nat.pow_add, Nat.sub_add_cancel (by omega)]
    obtain ⟨sz, Bs, Rs⟩ := x_scaled (d := d) (h := h) (z := (Lb : Int) - 1074 - 52) (w := u % w) (u_l2d R53) rep (by omega) (by
      apply Nat.eq_of_mul_eq_mul_right (Nat.two_pow_pos 52)
      have t : u % w * 2 ^ (-((Lb : Int) - 1074 - 52)).toNat * 2 ^ 52 = R * 2 ^ Lb * 2 ^ (-((Lb : Int) - 1074 - 52)).toNat := by
        rw [← key]; simp only [Nat.mul_assoc, Nat.mul_comm, Nat.mul_left_comm]
      rw [t, Nat.mul_assoc, Nat.mul_assoc, Nat.mul_assoc, ← Nat.pow_add, ← Nat.pow_add, ← Nat.pow_add]
      congr 2; omega)
    have e1 := cv_ge A B (by omega) .g
    have e2 : Op.cmpValue (Jvm.FP.dcmp a Jvm.FP.dconst0) .l = nI 1 := by rw [u_gt A unit0 cu, cv3]
    have e3 : nI 52 - iI ((Lb : Int) - 1074) = iI (1126 - (Lb : Int)) := by rw [iI_nsub]; congr 1; omega
    have e4 : (0 < lg_cmp (lN D) (lN 0)) = True := eq_true (by
      unfold lg_cmp
      rw [if_pos ((l6_lt (by decide) (by omega)).mpr (by omega))]
      decide)
    have e5 : iI ((La : Int) - 1074) - iI ((Lb : Int) - 1074) = nI (La - Lb) := by rw [iI_sub, iI_n]; congr 1; omega
    have e6 : iI (1126 - (Lb : Int)) - nI (La - Lb) = iI (1126 - (La : Int)) := by rw [iI_n, iI_sub]; congr 1; omega
    have e7 : iI ((Lb : Int) - 1074) - nI 52 = iI ((Lb : Int) - 1074 - 52) := by rw [iI_n, iI_sub]; rfl
    have nz : ¬ lN D = 0 := fun q => by
      have := (lN_inj64 (a := D) (b := 0) (by omega) (by decide)).mp q
      omega
    have s1 : ∀ Q, am_J (d + 1) 127 28 [some (.double x), none, some (.double y), none, some (.double a), none, some (.double b), none, v8, v9, v10, v11, v12, v13, v14, v15] [] h Q ↔ am_J (d + 1) 127 103 [some (.double x), none, some (.double y), none, some (.double a), none, some (.double b), none, some (.int (iI ((Lb : Int) - 1074))), some (.long (lN D)), none, some (.int (nI (La - Lb))), some (.long (lN (m % D))), none, v14, v15] [] h Q := fun Q => by
      simp (disch := first | with_reducible assumption | omega | exact Or.inl rfl | exact Or.inr rfl | exact bI_01 | exact c_cat | exact vt_ref | exact vt_null | rfl | with_reducible repeat (first | assumption | omega | apply S_I | apply S_L | apply S_D | apply ob_I | apply ob_L | apply ob_D | apply ob_R | apply ax_I | apply ax_L | apply ax_D | apply ax_R | apply o303 | apply o307 | apply o302 | apply o301 | apply ax304 | apply ax305 | apply ax306 | apply ax308 | apply ax309 | apply ax310 | apply lt_S | apply ar305 | apply ar308 | apply ar309)) only [g127_28, g127_30, g127_32, g127_33, g127_36, g127_38, g127_39, g127_40, g127_43, g127_44, g127_45, g127_47, g127_50, g127_52, g127_54, g127_56, g127_58, g127_59, g127_62, g127_63, g127_65, g127_67, g127_68, g127_69, g127_72, g127_73, g127_74, g127_76, g127_79, g127_81, g127_82, g127_84, g127_86, g127_88, g127_90, g127_91, g127_93, g127_94, g127_97, g127_98, g127_100, g127_101, Option.toList, List.nil_append, List.cons_append, va_rf, e1, e2, i1_e0, eb _, ea _, e3, Rb _, db, e4, e5, e6, Ra _, da, l6_div, l6_mul, l6_rem2, ↓reduceIte]
    rw [s1, Lp]
    rcases hx with hx | hx
    · have sg := x_negV (d := d) (h := h) hx
      have fin : Jvm.FP.drem x y = sz := uV_uniq (rem_V hx hy cw) Bs
      rw [fin]
      simp (disch := first | with_reducible assumption | omega | exact Or.inl rfl | exact Or.inr rfl | exact bI_01 | exact c_cat | exact vt_ref | exact vt_null | rfl | with_reducible repeat (first | assumption | omega | apply S_I | apply S_L | apply S_D | apply ob_I | apply ob_L | apply ob_D | apply ob_R | apply ax_I | apply ax_L | apply ax_D | apply ax_R | apply o303 | apply o307 | apply o302 | apply o301 | apply ax304 | apply ax305 | apply ax306 | apply ax308 | apply ax309 | apply ax310 | apply lt_S | apply ar305 | apply ar308 | apply ar309)) only [g127_137, g127_139, g127_140, g127_142, g127_144, g127_145, g127_148, g127_150, g127_151, g127_154, g127_157, g127_159, g127_160, g127_163, g127_165, Option.toList, List.nil_append, List.cons_append, va_rf, e7, Rs _, sg _, i0_e0, ↓reduceIte]
    · have sg := x_negM (d := d) (h := h) hx
      have fin : Jvm.FP.drem x y = Jvm.FP.dneg sz := uM_uniq (rem_M hx hy cw) (uM_neg Bs)
      rw [fin]
      simp (disch := first | with_reducible assumption | omega | exact Or.inl rfl | exact Or.inr rfl | exact bI_01 | exact c_cat | exact vt_ref | exact vt_null | rfl | with_reducible repeat (first | assumption | omega | apply S_I | apply S_L | apply S_D | apply ob_I | apply ob_L | apply ob_D | apply ob_R | apply ax_I | apply ax_L | apply ax_D | apply ax_R | apply o303 | apply o307 | apply o302 | apply o301 | apply ax304 | apply ax305 | apply ax306 | apply ax308 | apply ax309 | apply ax310 | apply lt_S | apply ar305 | apply ar308 | apply ar309)) only [g127_137, g127_139, g127_140, g127_142, g127_144, g127_145, g127_148, g127_150, g127_151, g127_154, g127_157, g127_159, g127_160, g127_163, g127_165, Option.toList, List.nil_append, List.cons_append, va_rf, e7, Rs _, sg _, i1_e0, ↓reduceIte]
theorem x_remainder (hx : okD x) (hy : okD y) (hz : ¬ (Jvm.FP.dcmp y Jvm.FP.dconst0 = some .eq)) : am_run (d + 1) 127 [some (.double x), none, some (.double y), none, none, none, none, none, none, none, none, none, none, none, none, none] h (some (.double (Jvm.FP.drem x y))) h := by
  obtain ⟨w, hy'⟩ : ∃ w, uV y w ∨ uM y w := by
    rcases okD_cases hy with ⟨w, A⟩ | ⟨w, A⟩
    · exact ⟨w, Or.inl A⟩
    · exact ⟨w, Or.inr A⟩
  have cw : 0 < w := by
    apply Nat.pos_of_ne_zero
    intro q
    subst q
    rcases hy' with A | A
    · exact hz (u_eq A unit0)
    · rw [uM_zero A] at hz
      exact hz z_cmp
  obtain ⟨b, B, sb⟩ : ∃ b, uV b w ∧ ∀ a v8 v9 v10 v11 v12 v13 v14 v15 Q, am_J (d + 1) 127 14 [some (.double x), none, some (.double y), none, some (.double a), none, none, none, v8, v9, v10, v11, v12, v13, v14, v15] [] h Q ↔ am_J (d + 1) 127 28 [some (.double x), none, some (.double y), none, some (.double a), none, some (.double b), none, v8, v9, v10, v11, v12, v13, v14, v15] [] h Q := by
    rcases hy' with A | A
    · refine ⟨y, A, fun a v8 v9 v10 v11 v12 v13 v14 v15 Q => ?_⟩
      have e := cv_ge' A unit0 (Nat.zero_le _) .g
      simp (disch := first | with_reducible assumption | omega | exact Or.inl rfl | exact Or.inr rfl | exact bI_01 | exact c_cat | exact vt_ref | exact vt_null | rfl | with_reducible repeat (first | assumption | omega | apply S_I | apply S_L | apply S_D | apply ob_I | apply ob_L | apply ob_D | apply ob_R | apply ax_I | apply ax_L | apply ax_D | apply ax_R | apply o303 | apply o307 | apply o302 | apply o301 | apply ax304 | apply ax305 | apply ax306 | apply ax308 | apply ax309 | apply ax310 | apply lt_S | apply ar305 | apply ar308 | apply ar309)) only [g127_14, g127_15, g127_16, g127_17, g127_20, g127_21, g127_22, g127_25, g127_26, e, ↓reduceIte]
    · refine ⟨_, A.1, fun a v8 v9 v10 v11 v12 v13 v14 v15 Q => ?_⟩
      have e := uM_lt0 A cw
      simp (disch := first | with_reducible assumption | omega | exact Or.inl rfl | exact Or.inr rfl | exact bI_01 | exact c_cat | exact vt_ref | exact vt_null | rfl | with_reducible repeat (first | assumption | omega | apply S_I | apply S_L | apply S_D | apply ob_I | apply ob_L | apply ob_D | apply ob_R | apply ax_I | apply ax_L | apply ax_D | apply ax_R | apply o303 | apply o307 | apply o302 | apply o301 | apply ax304 | apply ax305 | apply ax306 | apply ax308 | apply ax309 | apply ax310 | apply lt_S | apply ar305 | apply ar308 | apply ar309)) only [g127_14, g127_15, g127_16, g127_17, g127_20, g127_21, g127_22, g127_25, g127_26, e, cv1, m1_ge0, ↓reduceIte]
  intro Q
  rcases okD_cases hx with ⟨u, A⟩ | ⟨u, A⟩
  · by_cases c : u = 0
    · subst c
      have e : Jvm.FP.drem x y = x := by
        have := rem_V A hy' cw
        rw [Nat.zero_mod] at this
        exact uV_uniq this A
      have e0 := cv_ge' A unit0 (Nat.zero_le _) .g
      have e1 := cv_lt A B cw .g
      rw [e]
      have s0 : am_J (d + 1) 127 0 [some (.double x), none, some (.double y), none, none, none, none, none, none, none, none, none, none, none, none, none] [] h Q ↔ am_J (d + 1) 127 14 [some (.double x), none, some (.double y), none, some (.double x), none, none, none, none, none, none, none, none, none, none, none] [] h Q := by
        simp (disch := first | with_reducible assumption | omega | exact Or.inl rfl | exact Or.inr rfl | exact bI_01 | exact c_cat | exact vt_ref | exact vt_null | rfl | with_reducible repeat (first | assumption | omega | apply S_I | apply S_L | apply S_D | apply ob_I | apply ob_L | apply ob_D | apply ob_R | apply ax_I | apply ax_L | apply ax_D | apply ax_R | apply o303 | apply o307 | apply o302 | apply o301 | apply ax304 | apply ax305 | apply ax306 | apply ax308 | apply ax309 | apply ax310 | apply lt_S | apply ar305 | apply ar308 | apply ar309)) only [g127_0, g127_1, g127_2, g127_3, g127_6, g127_7, g127_8, g127_11, g127_12, e0, ↓reduceIte]
      rw [s0, sb]
      simp (disch := first | with_reducible assumption | omega | exact Or.inl rfl | exact Or.inr rfl | exact bI_01 | exact c_cat | exact vt_ref | exact vt_null | rfl | with_reducible repeat (first | assumption | omega | apply S_I | apply S_L | apply S_D | apply ob_I | apply ob_L | apply ob_D | apply ob_R | apply ax_I | apply ax_L | apply ax_D | apply ax_R | apply o303 | apply o307 | apply o302 | apply o301 | apply ax304 | apply ax305 | apply ax306 | apply ax308 | apply ax309 | apply ax310 | apply lt_S | apply ar305 | apply ar308 | apply ar309)) only [g127_28, g127_30, g127_32, g127_33, g127_36, g127_38, g127_39, g127_40, g127_43, g127_44, e1, m1_lt0, ↓reduceIte]
    · have e0 := cv_ge' A unit0 (Nat.zero_le _) .g
      rw [← x_remMain (d := d) (h := h) (v8 := none) (v9 := none) (v10 := none) (v11 := none) (v12 := none) (v13 := none) (v14 := none) (v15 := none) (Or.inl A) hy' A B (by omega) cw Q, ← sb]
      simp (disch := first | with_reducible assumption | omega | exact Or.inl rfl | exact Or.inr rfl | exact bI_01 | exact c_cat | exact vt_ref | exact vt_null | rfl | with_reducible repeat (first | assumption | omega | apply S_I | apply S_L | apply S_D | apply ob_I | apply ob_L | apply ob_D | apply ob_R | apply ax_I | apply ax_L | apply ax_D | apply ax_R | apply o303 | apply o307 | apply o302 | apply o301 | apply ax304 | apply ax305 | apply ax306 | apply ax308 | apply ax309 | apply ax310 | apply lt_S | apply ar305 | apply ar308 | apply ar309)) only [g127_0, g127_1, g127_2, g127_3, g127_6, g127_7, g127_8, g127_11, g127_12, e0, ↓reduceIte]
  · by_cases c : u = 0
    · subst c
      have e : Jvm.FP.drem x y = x := by
        have := rem_M A hy' cw
        rw [Nat.zero_mod] at this
        exact uM_uniq this A
      have xz := uM_zero A
      have e0 : (0 ≤ Op.cmpValue (Jvm.FP.dcmp x Jvm.FP.dconst0) .g) = True := by rw [xz, z_cmp, cv2, i0_ge0]
      have e1 : Op.cmpValue (Jvm.FP.dcmp x b) .g = -1 := by
        have t : Jvm.FP.Core.dcmp x b = _ := Jvm.FP.Core.dcmp_zval (uM_nn A) (uV_nn B)
        rw [uM_zv A, uV_zv B, (Jvm.FP.Core.compare_lt_iff _ _).mpr (by omega)] at t
        have t : Jvm.FP.dcmp x b = some .lt := t
        rw [t, cv1]
      rw [e]
      have s0 : am_J (d + 1) 127 0 [some (.double x), none, some (.double y), none, none, none, none, none, none, none, none, none, none, none, none, none] [] h Q ↔ am_J (d + 1) 127 14 [some (.double x), none, some (.double y), none, some (.double x), none, none, none, none, none, none, none, none, none, none, none] [] h Q := by
        simp (disch := first | with_reducible assumption | omega | exact Or.inl rfl | exact Or.inr rfl | exact bI_01 | exact c_cat | exact vt_ref | exact vt_null | rfl | with_reducible repeat (first | assumption | omega | apply S_I | apply S_L | apply S_D | apply ob_I | apply ob_L | apply ob_D | apply ob_R | apply ax_I | apply ax_L | apply ax_D | apply ax_R | apply o303 | apply o307 | apply o302 | apply o301 | apply ax304 | apply ax305 | apply ax306 | apply ax308 | apply ax309 | apply ax310 | apply lt_S | apply ar305 | apply ar308 | apply ar309)) only [g127_0, g127_1, g127_2, g127_3, g127_6, g127_7, g127_8, g127_11, g127_12, e0, ↓reduceIte]
      rw [s0, sb]
      simp (disch := first | with_reducible assumption | omega | exact Or.inl rfl | exact Or.inr rfl | exact bI_01 | exact c_cat | exact vt_ref | exact vt_null | rfl | with_reducible repeat (first | assumption | omega | apply S_I | apply S_L | apply S_D | apply ob_I | apply ob_L | apply ob_D | apply ob_R | apply ax_I | apply ax_L | apply ax_D | apply ax_R | apply o303 | apply o307 | apply o302 | apply o301 | apply ax304 | apply ax305 | apply ax306 | apply ax308 | apply ax309 | apply ax310 | apply lt_S | apply ar305 | apply ar308 | apply ar309)) only [g127_28, g127_30, g127_32, g127_33, g127_36, g127_38, g127_39, g127_40, g127_43, g127_44, e1, m1_lt0, ↓reduceIte]
    · have e0 := uM_lt0 A (by omega)
      rw [← x_remMain (d := d) (h := h) (v8 := none) (v9 := none) (v10 := none) (v11 := none) (v12 := none) (v13 := none) (v14 := none) (v15 := none) (Or.inr A) hy' A.1 B (by omega) cw Q, ← sb]
      simp (disch := first | with_reducible assumption | omega | exact Or.inl rfl | exact Or.inr rfl | exact bI_01 | exact c_cat | exact vt_ref | exact vt_null | rfl | with_reducible repeat (first | assumption | omega | apply S_I | apply S_L | apply S_D | apply ob_I | apply ob_L | apply ob_D | apply ob_R | apply ax_I | apply ax_L | apply ax_D | apply ax_R | apply o303 | apply o307 | apply o302 | apply o301 | apply ax304 | apply ax305 | apply ax306 | apply ax308 | apply ax309 | apply ax310 | apply lt_S | apply ar305 | apply ar308 | apply ar309)) only [g127_0, g127_1, g127_2, g127_3, g127_6, g127_7, g127_8, g127_11, g127_12, e0, cv1, m1_ge0, ↓reduceIte]
end RMD

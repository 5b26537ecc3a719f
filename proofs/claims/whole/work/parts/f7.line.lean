/-! DOUBLES between two others: what a line works with is a number -/
abbrev zv (a : UInt64) : Int := Jvm.FP.Core.zval Jvm.FP.Core.b64 (Jvm.FP.Core.val64 a)
abbrev zm (a : UInt64) : Nat := Jvm.FP.Core.zmag Jvm.FP.Core.b64 (Jvm.FP.Core.val64 a)
theorem u_ex {u : Nat} (h : uRep u) : ∃ a, uV a u := by
  obtain ⟨c, q, r1, r2⟩ := u_round (s := false) (A := u) (B := 1) (x := 0) (y := 0) (e := -1074) (by decide) (by omega) h (by simp only [Nat.pow_zero, Nat.mul_one])
  refine ⟨Jvm.FP.Core.of64 (.fin false c q), c, q, ?_, r2⟩
  apply Jvm.FP.Core.val64_of64
  rw [← r1]
  exact Jvm.FP.Core.roundRatio_fits Jvm.FP.Core.good_b64 false u (by decide) (-1074)
theorem pw_e {a b c : Nat} (h : a + b = c + 1) : 2 ^ a * 2 ^ b = 2 * 2 ^ c := by rw [← Nat.pow_add, h, Nat.pow_succ, Nat.mul_comm]
section LIN
variable {a b l x r : UInt64}
theorem zv_lt (ka : okD a) (kb : okD b) : dlt a b = decide (zv a < zv b) := by
  unfold dlt
  have e : Jvm.FP.dcmp a b = some (compare (zv a) (zv b)) := Jvm.FP.Core.dcmp_zval (okD_fin ka).ne_nan (okD_fin kb).ne_nan
  rw [e]
  congr 1
  exact propext ⟨fun q => (Jvm.FP.Core.compare_lt_iff _ _).mp (Option.some.inj q), fun q => congrArg some ((Jvm.FP.Core.compare_lt_iff _ _).mpr q)⟩
theorem zv_le (ka : okD a) (kb : okD b) : dle a b = decide (zv a ≤ zv b) := by
  unfold dle
  have e : Jvm.FP.dcmp a b = some (compare (zv a) (zv b)) := Jvm.FP.Core.dcmp_zval (okD_fin ka).ne_nan (okD_fin kb).ne_nan
  rw [zv_lt ka kb, e, ← Bool.decide_or]
  congr 1
  refine propext ⟨fun q => ?_, fun q => ?_⟩
  · rcases q with q | q
    · omega
    · have := (Jvm.FP.Core.compare_eq_iff _ _).mp (Option.some.inj q); omega
  · by_cases c : zv a = zv b
    · exact Or.inr (congrArg some ((Jvm.FP.Core.compare_eq_iff _ _).mpr c))
    · exact Or.inl (by omega)
theorem zv_sub (ka : okD a) (kb : okD b) : ∃ sg n e, Jvm.FP.Core.val64 (Jvm.FP.dsub a b) = Jvm.FP.Core.roundRatio Jvm.FP.Core.b64 sg n 1 e ∧ -1074 ≤ e ∧ Jvm.FP.Core.signed sg (Jvm.FP.Core.inUnits n e (-1074)) = zv a - zv b := by
  obtain ⟨s, c, q, ea⟩ := okD_fin ka
  obtain ⟨s', c', q', eb⟩ := okD_fin kb
  have fa := Jvm.FP.Core.val64_fits a
  have fb := Jvm.FP.Core.val64_fits b
  have h : Jvm.FP.Core.val64 (Jvm.FP.dsub a b) = _ := Jvm.FP.Core.val64_dsub a b
  have zb : zv b = Jvm.FP.Core.zval Jvm.FP.Core.b64 (.fin s' c' q') := by unfold zv; rw [eb]
  have za : zv a = Jvm.FP.Core.zval Jvm.FP.Core.b64 (.fin s c q) := by unfold zv; rw [ea]
  rw [ea] at h fa
  rw [eb] at h fb
  have fn := Jvm.FP.Core.negate_fits fb
  have zn := Jvm.FP.Core.zval_negate Jvm.FP.Core.b64 (.fin s' c' q')
  obtain ⟨sg, n, e, h1, h2, h3⟩ := Jvm.FP.Core.sum_units fa fn
  have h1' : Jvm.FP.Core.exactSum (.fin s c q) (Jvm.FP.Core.negate (.fin s' c' q')) = .fin sg n e := h1
  have h3' : Jvm.FP.Core.signed sg (Jvm.FP.Core.inUnits n e Jvm.FP.Core.b64.qmin) = Jvm.FP.Core.zval Jvm.FP.Core.b64 (.fin s c q) + Jvm.FP.Core.zval Jvm.FP.Core.b64 (Jvm.FP.Core.negate (.fin s' c' q')) := h3
  rw [h1'] at h
  rw [qm64] at h2 h3'
  refine ⟨sg, n, e, h, h2, ?_⟩
  rw [h3', zn, za, zb]; omega
/-- from there on a difference is infinite -/
def zT : Nat := (2 ^ 54 - 1) * 2 ^ 2045
theorem sub_fin (ka : okD a) (kb : okD b) : okD (Jvm.FP.dsub a b) ↔ 2 * (zv a - zv b).natAbs < zT := by
  obtain ⟨sg, n, e, h1, h2, h3⟩ := zv_sub ka kb
  have hi := Jvm.FP.Core.roundRatio_inf Jvm.FP.Core.good_b64 (s := sg) (A := n) (B := 1) (e := e) (e0 := -1075) (by decide) (by rw [qm64]; decide) (by omega)
  have e1 : Jvm.FP.Core.inUnits n e (-1075) = 2 * (zv a - zv b).natAbs := by
    rw [← h3, Jvm.FP.Core.natAbs_signed, Jvm.FP.Core.inUnits_move n (q := e) (r := -1074) (e := -1075) (by decide) h2]
    rw [show (-1074 - -1075 : Int).toNat = 1 by decide]
    omega
  have e2 : (2 ^ (Jvm.FP.Core.b64.p + 1) - 1) * 2 ^ (Jvm.FP.Core.b64.qmax - 1 - -1075).toNat * 1 = zT := by
    unfold zT
    rw [p64, qx64, Nat.mul_one, show (971 - 1 - -1075 : Int).toNat = 2045 by decide]
  rw [e1, e2] at hi
  constructor
  · intro ok
    apply Nat.lt_of_not_le
    intro q
    have hq := hi.mpr q
    rw [← h1] at hq
    exact (okD_fin ok).ne_inf sg hq
  · intro q
    rcases Jvm.FP.Core.roundRatio_cases Jvm.FP.Core.b64 sg n 1 e with ⟨c, q', hc⟩ | hc
    · exact okD_of ⟨sg, c, q', by rw [h1, hc]⟩
    · have := hi.mp hc
      omega
theorem sub_le {V : UInt64} (ka : okD a) (kb : okD b) (nV : Jvm.FP.Core.val64 V ≠ .nan) (h : zv a - zv b ≤ zv V) : zv (Jvm.FP.dsub a b) ≤ zv V := by
  have zn := Jvm.FP.Core.zval_negate Jvm.FP.Core.b64 (Jvm.FP.Core.val64 b)
  obtain ⟨s', c', q', eb⟩ := okD_fin kb
  have := Jvm.FP.Core.sum_le Jvm.FP.Core.good_b64 (x := Jvm.FP.Core.val64 a) (y := Jvm.FP.Core.negate (Jvm.FP.Core.val64 b)) (V := Jvm.FP.Core.val64 V) (okD_fin ka) ⟨!s', c', q', by rw [eb]; rfl⟩ (Jvm.FP.Core.val64_fits a) (Jvm.FP.Core.negate_fits (Jvm.FP.Core.val64_fits b)) (Jvm.FP.Core.val64_fits V) nV (by rw [zn]; show zv a + -zv b ≤ zv V; omega)
  rw [← Jvm.FP.Core.val64_dsub] at this
  exact this
theorem sub_ge {V : UInt64} (ka : okD a) (kb : okD b) (nV : Jvm.FP.Core.val64 V ≠ .nan) (h : zv V ≤ zv a - zv b) : zv V ≤ zv (Jvm.FP.dsub a b) := by
  have zn := Jvm.FP.Core.zval_negate Jvm.FP.Core.b64 (Jvm.FP.Core.val64 b)
  obtain ⟨s', c', q', eb⟩ := okD_fin kb
  have := Jvm.FP.Core.sum_ge Jvm.FP.Core.good_b64 (x := Jvm.FP.Core.val64 a) (y := Jvm.FP.Core.negate (Jvm.FP.Core.val64 b)) (V := Jvm.FP.Core.val64 V) (okD_fin ka) ⟨!s', c', q', by rw [eb]; rfl⟩ (Jvm.FP.Core.val64_fits a) (Jvm.FP.Core.negate_fits (Jvm.FP.Core.val64_fits b)) (Jvm.FP.Core.val64_fits V) nV (by rw [zn]; show zv V ≤ zv a + -zv b; omega)
  rw [← Jvm.FP.Core.val64_dsub] at this
  exact this
theorem zv_lim (ka : okD a) : zv a < 2 ^ 2098 := by
  rcases okD_cases ka with ⟨u, A⟩ | ⟨u, A⟩
  · have e : zv a = u := uV_zv A
    have := uRep_lt (uV_rep A)
    rw [e]
    exact_mod_cast this
  · have e : zv a = -(u : Int) := uM_zv A
    rw [e]
    have : (0 : Int) < 2 ^ 2098 := by exact_mod_cast Nat.two_pow_pos 2098
    omega
/-- between l and r: the part is a number, at most twice the whole -/
theorem between_ok (kl : okD l) (kx : okD x) (kr : okD r) (h1 : zv l ≤ zv x) (h2 : zv x ≤ zv r) (h3 : zv l < zv r) (kw : okD (Jvm.FP.dsub r l)) : okD (Jvm.FP.dsub x l) ∧ 0 ≤ zv (Jvm.FP.dsub x l) ∧ 0 < zv (Jvm.FP.dsub r l) ∧ zv (Jvm.FP.dsub x l) ≤ 2 * zv (Jvm.FP.dsub r l) := by
  have fw := (sub_fin kr kl).mp kw
  have kn : okD (Jvm.FP.dsub x l) := (sub_fin kx kl).mpr (by omega)
  obtain ⟨B, hB⟩ : ∃ B : Nat, zv r - zv l = B := ⟨(zv r - zv l).toNat, by omega⟩
  have B0 : B ≠ 0 := by omega
  have l1 : 2 ^ B.log2 ≤ B := Nat.log2_self_le B0
  have l2 : B < 2 ^ (B.log2 + 1) := Nat.lt_log2_self
  generalize B.log2 = k at l1 l2
  have hk : k < 2098 := by
    apply Nat.lt_of_not_le
    intro q
    have h4 : 2 ^ 2098 ≤ 2 ^ k := Nat.pow_le_pow_right (by decide) q
    have h5 : zT < 2 * 2 ^ 2098 := by
      have t : (2 ^ 54 - 1) * 2 ^ 2045 < 2 ^ 54 * 2 ^ 2045 := Nat.mul_lt_mul_of_pos_right (by decide) (Nat.two_pow_pos 2045)
      exact Nat.lt_of_lt_of_le t (Nat.le_of_eq (pw_e (a := 54) (b := 2045) (c := 2098) (by decide)))
    omega
  obtain ⟨V, hV⟩ := u_ex (u := 2 ^ k) ⟨2 ^ (k - 2045), min k 2045, by
    have := Nat.pow_le_pow_right (n := 2) (by decide) (show k - 2045 ≤ 52 by omega)
    have e : (2 : Nat) ^ 52 < 2 ^ 53 := by decide
    omega, by omega, by rw [← Nat.pow_add, show k - 2045 + min k 2045 = k by omega]⟩
  have eV : zv V = ((2 ^ k : Nat) : Int) := uV_zv hV
  have g1 := sub_ge kr kl (uV_nn hV) (by rw [eV]; omega)
  rw [eV] at g1
  have p1 := Nat.two_pow_pos k
  have z0 : zv Jvm.FP.dconst0 = ((0 : Nat) : Int) := uV_zv unit0
  have n0 := sub_ge kx kl (uV_nn unit0) (by rw [z0]; omega)
  rw [z0] at n0
  refine ⟨kn, by omega, by omega, ?_⟩
  have pk : (2 : Nat) ^ (k + 1) = 2 * 2 ^ k := by rw [Nat.pow_succ]; omega
  by_cases c : k + 1 < 2098
  · obtain ⟨W, hW⟩ := u_ex (u := 2 ^ (k + 1)) ⟨2 ^ (k + 1 - 2045), min (k + 1) 2045, by
      have := Nat.pow_le_pow_right (n := 2) (by decide) (show k + 1 - 2045 ≤ 52 by omega)
      have e : (2 : Nat) ^ 52 < 2 ^ 53 := by decide
      omega, by omega, by rw [← Nat.pow_add, show k + 1 - 2045 + min (k + 1) 2045 = k + 1 by omega]⟩
    have eW : zv W = ((2 ^ (k + 1) : Nat) : Int) := uV_zv hW
    have g2 := sub_le kx kl (uV_nn hW) (by rw [eW]; omega)
    rw [eW] at g2
    omega
  · obtain rfl : k = 2097 := by omega
    have g2 := zv_lim kn
    have e : ((2 : Int) ^ 2098) = ((2 ^ (2097 + 1) : Nat) : Int) := by exact_mod_cast rfl
    rw [e] at g2
    omega
/-- a quotient that is at most 2 -/
theorem div_ok (ka : okD a) (kb : okD b) (h0 : 0 ≤ zv a) (h1 : 0 < zv b) (h2 : zv a ≤ 2 * zv b) : okD (Jvm.FP.ddiv a b) := by
  obtain ⟨s, c, q, ea⟩ := okD_fin ka
  obtain ⟨s', c', q', eb⟩ := okD_fin kb
  have fa := Jvm.FP.Core.val64_fits a
  have fb := Jvm.FP.Core.val64_fits b
  have h : Jvm.FP.Core.val64 (Jvm.FP.ddiv a b) = _ := Jvm.FP.Core.val64_ddiv a b
  have za : zv a = Jvm.FP.Core.signed s (Jvm.FP.Core.inUnits c q (-1074)) := by
    unfold zv; rw [ea]; show Jvm.FP.Core.signed s (Jvm.FP.Core.inUnits c q Jvm.FP.Core.b64.qmin) = _; rw [qm64]
  have zb : zv b = Jvm.FP.Core.signed s' (Jvm.FP.Core.inUnits c' q' (-1074)) := by
    unfold zv; rw [eb]; show Jvm.FP.Core.signed s' (Jvm.FP.Core.inUnits c' q' Jvm.FP.Core.b64.qmin) = _; rw [qm64]
  rw [ea] at h fa
  rw [eb] at h fb
  obtain ⟨-, fa2, fa3, -⟩ := fa
  obtain ⟨-, fb2, fb3, -⟩ := fb
  rw [qm64] at fa2 fb2
  rw [qx64] at fa3 fb3
  have na : (zv a).natAbs = c * 2 ^ (q + 1074).toNat := by
    rw [za, Jvm.FP.Core.natAbs_signed]; unfold Jvm.FP.Core.inUnits; rw [show q - -1074 = q + 1074 by omega]
  have nb : (zv b).natAbs = c' * 2 ^ (q' + 1074).toNat := by
    rw [zb, Jvm.FP.Core.natAbs_signed]; unfold Jvm.FP.Core.inUnits; rw [show q' - -1074 = q' + 1074 by omega]
  have d0 : c' ≠ 0 := fun e => by
    rw [e, Nat.zero_mul] at nb
    omega
  have h : Jvm.FP.Core.val64 (Jvm.FP.ddiv a b) = Jvm.FP.Core.roundRatio Jvm.FP.Core.b64 (s != s') c c' (q - q') := by
    rw [h]; show (if c' = 0 then _ else _) = _; rw [if_neg d0]
  have le : c * 2 ^ (q + 1074).toNat ≤ 2 * (c' * 2 ^ (q' + 1074).toNat) := by omega
  have key := Jvm.FP.Core.zmag_roundRatio_le Jvm.FP.Core.good_b64 (s := (s != s')) (A := c) (B := c') (e := q - q') (e0 := -4000) (V := Jvm.FP.Core.val64 4611686018427387904) (Nat.pos_of_ne_zero d0) (Jvm.FP.Core.val64_fits _) (uV_nn unit2) (by rw [qm64]; decide) (by omega) (by
    rw [(uV_z unit2).1, qm64]
    unfold Jvm.FP.Core.inUnits
    have e1 : (q - q' - -4000).toNat + (q' + 1074).toNat = (q + 1074).toNat + 4000 := by omega
    apply Nat.le_of_mul_le_mul_right (c := 2 ^ (q' + 1074).toNat) _ (Nat.two_pow_pos _)
    rw [Nat.mul_assoc, ← Nat.pow_add, e1, Nat.pow_add, ← Nat.mul_assoc]
    have e2 : (2 : Nat) ^ 1075 * 2 ^ (-1074 - -4000 : Int).toNat * c' * 2 ^ (q' + 1074).toNat = 2 * (c' * 2 ^ (q' + 1074).toNat) * 2 ^ 4000 := by
      rw [show (-1074 - -4000 : Int).toNat = 2926 by decide, ← Nat.pow_add, show (1075 + 2926 : Nat) = 4000 + 1 by decide, Nat.pow_succ]
      simp only [Nat.mul_assoc, Nat.mul_comm, Nat.mul_left_comm]
    rw [e2]
    exact Nat.mul_le_mul_right _ le)
  rw [← h, (uV_z unit2).1] at key
  rcases Jvm.FP.Core.roundRatio_cases Jvm.FP.Core.b64 (s != s') c c' (q - q') with ⟨c2, q2, hc⟩ | hc
  · exact okD_of ⟨_, c2, q2, by rw [h, hc]⟩
  · rw [h, hc] at key
    have key : Jvm.FP.Core.b64.tails * 2 ^ (Jvm.FP.Core.b64.exps - 2) ≤ 2 ^ 1075 := key
    exact absurd key (by decide +kernel)
theorem nz_zv (ka : okD a) (h : 0 < zv a) : deq a Jvm.FP.dconst0 = false := by
  unfold deq
  have e : Jvm.FP.dcmp a Jvm.FP.dconst0 = some (compare (zv a) (zv Jvm.FP.dconst0)) := Jvm.FP.Core.dcmp_zval (okD_fin ka).ne_nan (uV_nn unit0)
  have z0 : zv Jvm.FP.dconst0 = ((0 : Nat) : Int) := uV_zv unit0
  rw [e, z0, (Jvm.FP.Core.compare_gt_iff _ _).mpr (by omega)]
  rfl
end LIN

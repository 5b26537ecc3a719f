/-! DOUBLES above 0 in units of the least one -/
/-- a is the number of u units, not below 0 -/
def uV (a : UInt64) (u : Nat) : Prop := ∃ c q, Jvm.FP.Core.val64 a = .fin false c q ∧ Jvm.FP.Core.inUnits c q (-1074) = u
def uRep (u : Nat) : Prop := ∃ m k, m < 2 ^ 53 ∧ k ≤ 2045 ∧ u = m * 2 ^ k
theorem qm64 : Jvm.FP.Core.b64.qmin = -1074 := Jvm.FP.Core.qmin_b64
theorem qx64 : Jvm.FP.Core.b64.qmax = 971 := by decide
theorem p64 : Jvm.FP.Core.b64.p = 53 := by decide
section UVS
variable {a b : UInt64} {u w : Nat}
theorem uV_nn (A : uV a u) : Jvm.FP.Core.val64 a ≠ .nan := by
  obtain ⟨c, q, h, -⟩ := A
  rw [h]; exact fun e => by cases e
theorem uV_z (A : uV a u) : Jvm.FP.Core.zmag Jvm.FP.Core.b64 (Jvm.FP.Core.val64 a) = u ∧ Jvm.FP.Core.sgn (Jvm.FP.Core.val64 a) = false := by
  obtain ⟨c, q, h, e⟩ := A
  rw [h]
  refine ⟨?_, rfl⟩
  show Jvm.FP.Core.inUnits c q Jvm.FP.Core.b64.qmin = u
  rw [qm64]; exact e
theorem uV_zv (A : uV a u) : Jvm.FP.Core.zval Jvm.FP.Core.b64 (Jvm.FP.Core.val64 a) = (u : Int) := by
  obtain ⟨h1, h2⟩ := uV_z A
  unfold Jvm.FP.Core.zval
  rw [h1, h2]; rfl
theorem uV_pos (A : uV a u) : a.toNat < 2 ^ 63 := by
  have h := Jvm.FP.Core.sgn_bits (uV_nn A)
  rw [(uV_z A).2] at h
  have := of_decide_eq_false h.symm
  omega
theorem uV_bits (A : uV a u) : Jvm.FP.Core.unitsOf Jvm.FP.Core.b64 a.toNat = u := by
  have h := Jvm.FP.Core.zmag_bits (uV_nn A)
  rw [(uV_z A).1, Nat.mod_eq_of_lt (uV_pos A)] at h
  exact h.symm
theorem uV_uniq (A : uV a u) (B : uV b u) : a = b := by
  have h1 := uV_bits A
  have h2 := uV_bits B
  apply UInt64.toNat_inj.mp
  rcases Nat.lt_trichotomy a.toNat b.toNat with h | h | h
  · have := Jvm.FP.Core.unitsOf_lt (f := Jvm.FP.Core.b64) h
    omega
  · exact h
  · have := Jvm.FP.Core.unitsOf_lt (f := Jvm.FP.Core.b64) h
    omega
theorem uV_nat (A : uV a u) : ∃ c, ∃ n : Nat, Jvm.FP.Core.val64 a = .fin false c ((n : Int) - 1074) ∧ c < 2 ^ 53 ∧ n ≤ 2045 ∧ u = c * 2 ^ n := by
  obtain ⟨c, q, h, e⟩ := A
  have hf := Jvm.FP.Core.val64_fits a
  rw [h] at hf
  obtain ⟨f1, f2, f3, -⟩ := hf
  rw [qm64] at f2
  rw [qx64] at f3
  rw [p64] at f1
  refine ⟨c, (q + 1074).toNat, by rw [h]; congr 1; omega, f1, by omega, ?_⟩
  rw [← e]
  unfold Jvm.FP.Core.inUnits
  rw [show q - -1074 = q + 1074 by omega]
theorem uV_rep (A : uV a u) : uRep u := by
  obtain ⟨c, n, -, h1, h2, h3⟩ := uV_nat A
  exact ⟨c, n, h1, h2, h3⟩
/-- rounding what can be held -/
theorem u_round {s : Bool} {A B x y : Nat} {e : Int} (hB : 0 < B) (hx : (x : Int) - y = e + 1074) (hu : uRep u) (h : A * 2 ^ x = u * B * 2 ^ y) : ∃ c q, Jvm.FP.Core.roundRatio Jvm.FP.Core.b64 s A B e = .fin s c q ∧ Jvm.FP.Core.inUnits c q (-1074) = u := by
  obtain ⟨m, k, h1, h2, rfl⟩ := hu
  obtain ⟨c', q', r1, r2⟩ := Jvm.FP.Core.round_exact Jvm.FP.Core.good_b64 s (c := m) (q := (k : Int) - 1074) (by rw [p64]; exact h1) (by rw [qm64]; omega) (by rw [qx64]; omega)
  refine ⟨c', q', ?_, ?_⟩
  · rw [← r1]
    show _ = Jvm.FP.Core.roundRatio Jvm.FP.Core.b64 s m 1 ((k : Int) - 1074)
    apply Jvm.FP.Core.roundRatio_congr hB (by decide)
    apply Nat.eq_of_mul_eq_mul_right (Nat.two_pow_pos (y + k))
    have l : A * 1 * 2 ^ (e - ((k : Int) - 1074)).toNat * 2 ^ (y + k) = A * 2 ^ x * 2 ^ ((k : Int) - 1074 - e).toNat := by
      rw [Nat.mul_one, Nat.mul_assoc, Nat.mul_assoc, ← Nat.pow_add, ← Nat.pow_add]
      congr 2
      omega
    rw [l, h, Nat.pow_add]
    simp only [Nat.mul_assoc, Nat.mul_left_comm, Nat.mul_comm]
  · rw [qm64] at r2
    rw [r2]
    unfold Jvm.FP.Core.inUnits
    rw [show (k : Int) - 1074 - -1074 = k by omega, Int.toNat_natCast]
/-- a power of two -/
def pw (b : UInt64) (j : Nat) : Prop := Jvm.FP.Core.val64 b = .fin false (2 ^ 52) ((j : Int) - 52)
theorem pw64 : pw 4895412794951729152 64 := by show _ = _; decide +kernel
theorem pw1 : pw 4611686018427387904 1 := by show _ = _; decide +kernel
theorem u_mul {j : Nat} (A : uV a u) (P : pw b j) (hu : uRep (u * 2 ^ j)) : uV (Jvm.FP.dmul a b) (u * 2 ^ j) := by
  obtain ⟨c, n, h1, -, -, rfl⟩ := uV_nat A
  have h : Jvm.FP.Core.val64 (Jvm.FP.Core.dmul a b) = _ := Jvm.FP.Core.val64_dmul a b
  unfold pw at P
  rw [h1, P] at h
  have h : Jvm.FP.Core.val64 (Jvm.FP.Core.dmul a b) = Jvm.FP.Core.roundRatio Jvm.FP.Core.b64 false (c * 2 ^ 52) 1 ((n : Int) - 1074 + ((j : Int) - 52)) := h
  by_cases cs : 52 ≤ n + j
  · obtain ⟨c', q', r1, r2⟩ := u_round (s := false) (A := c * 2 ^ 52) (B := 1) (x := n + j - 52) (y := 0) (e := (n : Int) - 1074 + ((j : Int) - 52)) (by decide) (by omega) hu (by
      simp only [Nat.pow_zero, Nat.mul_one]
      simp only [Nat.mul_assoc, ← Nat.pow_add]
      congr 2; omega)
    exact ⟨c', q', by show Jvm.FP.Core.val64 (Jvm.FP.Core.dmul a b) = _; rw [h, r1], r2⟩
  · obtain ⟨c', q', r1, r2⟩ := u_round (s := false) (A := c * 2 ^ 52) (B := 1) (x := 0) (y := 52 - (n + j)) (e := (n : Int) - 1074 + ((j : Int) - 52)) (by decide) (by omega) hu (by
      simp only [Nat.pow_zero, Nat.mul_one]
      simp only [Nat.mul_assoc, ← Nat.pow_add]
      congr 2; omega)
    exact ⟨c', q', by show Jvm.FP.Core.val64 (Jvm.FP.Core.dmul a b) = _; rw [h, r1], r2⟩
theorem u_div {j : Nat} (A : uV a (u * 2 ^ j)) (P : pw b j) (hu : uRep u) : uV (Jvm.FP.ddiv a b) u := by
  obtain ⟨c, n, h1, -, -, e⟩ := uV_nat A
  have h : Jvm.FP.Core.val64 (Jvm.FP.Core.ddiv a b) = _ := Jvm.FP.Core.val64_ddiv a b
  unfold pw at P
  rw [h1, P] at h
  have h : Jvm.FP.Core.val64 (Jvm.FP.Core.ddiv a b) = Jvm.FP.Core.roundRatio Jvm.FP.Core.b64 false c (2 ^ 52) ((n : Int) - 1074 - ((j : Int) - 52)) := h
  by_cases cs : j ≤ n + 52
  · obtain ⟨c', q', r1, r2⟩ := u_round (s := false) (A := c) (B := 2 ^ 52) (x := n + 52 - j) (y := 0) (e := (n : Int) - 1074 - ((j : Int) - 52)) (by decide) (by omega) hu (by
      apply Nat.eq_of_mul_eq_mul_right (Nat.two_pow_pos j)
      rw [Nat.mul_assoc, ← Nat.pow_add, show n + 52 - j + j = n + 52 by omega, Nat.pow_add, ← Nat.mul_assoc, ← e, Nat.pow_zero, Nat.mul_one]
      simp only [Nat.mul_assoc, Nat.mul_comm, Nat.mul_left_comm])
    exact ⟨c', q', by show Jvm.FP.Core.val64 (Jvm.FP.Core.ddiv a b) = _; rw [h, r1], r2⟩
  · obtain ⟨c', q', r1, r2⟩ := u_round (s := false) (A := c) (B := 2 ^ 52) (x := 0) (y := j - (n + 52)) (e := (n : Int) - 1074 - ((j : Int) - 52)) (by decide) (by omega) hu (by
      apply Nat.eq_of_mul_eq_mul_right (Nat.two_pow_pos n)
      simp only [Nat.pow_zero, Nat.mul_one]
      rw [← e]
      simp only [Nat.mul_assoc, ← Nat.pow_add]
      congr 2; omega)
    exact ⟨c', q', by show Jvm.FP.Core.val64 (Jvm.FP.Core.ddiv a b) = _; rw [h, r1], r2⟩
theorem uRep_of {m k : Nat} (hm : m < 2 ^ 53) (h : m * 2 ^ k < 2 ^ 2098) : uRep (m * 2 ^ k) := by
  by_cases c : k ≤ 2045
  · exact ⟨m, k, hm, c, rfl⟩
  · refine ⟨m * 2 ^ (k - 2045), 2045, ?_, Nat.le_refl _, ?_⟩
    · apply Nat.lt_of_mul_lt_mul_right (a := 2 ^ 2045)
      rw [Nat.mul_assoc, ← Nat.pow_add, ← Nat.pow_add, show k - 2045 + 2045 = k by omega]
      exact h
    · rw [Nat.mul_assoc, ← Nat.pow_add, show k - 2045 + 2045 = k by omega]
theorem uRep_lt (h : uRep u) : u < 2 ^ 2098 := by
  obtain ⟨m, k, h1, h2, rfl⟩ := h
  calc m * 2 ^ k < 2 ^ 53 * 2 ^ k := Nat.mul_lt_mul_of_pos_right h1 (Nat.two_pow_pos _)
    _ = 2 ^ (53 + k) := (Nat.pow_add ..).symm
    _ ≤ 2 ^ 2098 := Nat.pow_le_pow_right (by decide) (by omega)
theorem uRep_mul {j : Nat} (h : uRep u) (hl : u * 2 ^ j < 2 ^ 2098) : uRep (u * 2 ^ j) := by
  obtain ⟨m, k, h1, h2, rfl⟩ := h
  rw [Nat.mul_assoc, ← Nat.pow_add] at hl ⊢
  exact uRep_of h1 hl
theorem uRep_div {j : Nat} (h : uRep u) (hl : 2 ^ (52 + j) ≤ u) : ∃ u', u = u' * 2 ^ j ∧ uRep u' := by
  obtain ⟨m, k, h1, h2, rfl⟩ := h
  have hk : j ≤ k := by
    apply Nat.le_of_not_lt
    intro c
    have : m * 2 ^ k < 2 ^ 53 * 2 ^ k := Nat.mul_lt_mul_of_pos_right h1 (Nat.two_pow_pos _)
    rw [← Nat.pow_add] at this
    have h3 : 2 ^ (53 + k) ≤ 2 ^ (52 + j) := Nat.pow_le_pow_right (by decide) (by omega)
    omega
  exact ⟨m * 2 ^ (k - j), by rw [Nat.mul_assoc, ← Nat.pow_add, Nat.sub_add_cancel hk], m, k - j, h1, by omega, rfl⟩
theorem u_cmp (A : uV a u) (B : uV b w) : Jvm.FP.dcmp a b = some (compare (u : Int) (w : Int)) := by
  have h : Jvm.FP.Core.dcmp a b = _ := Jvm.FP.Core.dcmp_zval (uV_nn A) (uV_nn B)
  rw [uV_zv A, uV_zv B] at h
  exact h
theorem u_lt (A : uV a u) (B : uV b w) (c : u < w) : Jvm.FP.dcmp a b = some .lt := by
  rw [u_cmp A B, (Jvm.FP.Core.compare_lt_iff _ _).mpr (by omega)]
theorem u_eq (A : uV a u) (B : uV b u) : Jvm.FP.dcmp a b = some .eq := by
  rw [u_cmp A B, (Jvm.FP.Core.compare_eq_iff _ _).mpr rfl]
theorem u_gt (A : uV a u) (B : uV b w) (c : w < u) : Jvm.FP.dcmp a b = some .gt := by
  rw [u_cmp A B, (Jvm.FP.Core.compare_gt_iff _ _).mpr (by omega)]
theorem u_nn (A : uV a u) : am_nn a := by
  refine UInt64.le_iff_toNat_le.mpr ?_
  rw [Jvm.FP.Core.mask_toNat]
  exact (Jvm.FP.Core.ne_nan a).mp (uV_nn A)
theorem u_l2d {n : Nat} (hn : n < 2 ^ 53) : uV (Jvm.FP.l2d (lN n)) (n * 2 ^ 1074) := by
  have h : Jvm.FP.Core.val64 (Jvm.FP.Core.l2d (lN n)) = _ := Jvm.FP.Core.val64_l2d (lN n)
  rw [l6_toInt (by omega)] at h
  have h : Jvm.FP.Core.val64 (Jvm.FP.Core.l2d (lN n)) = Jvm.FP.Core.roundRatio Jvm.FP.Core.b64 false n 1 0 := by
    rw [h]
    cases n <;> rfl
  obtain ⟨c', q', r1, r2⟩ := u_round (s := false) (A := n) (B := 1) (x := 1074) (y := 0) (e := 0) (u := n * 2 ^ 1074) (by decide) (by omega) ⟨n, 1074, hn, by decide, rfl⟩ (by simp only [Nat.pow_zero, Nat.mul_one])
  exact ⟨c', q', by show Jvm.FP.Core.val64 (Jvm.FP.Core.l2d (lN n)) = _; rw [h, r1], r2⟩
theorem u_d2l {n : Nat} (A : uV a (n * 2 ^ 1074)) (hn : n < 2 ^ 63) : Jvm.FP.d2l a = lN n := by
  apply Int64.toInt_inj.mp
  have h := Jvm.FP.Core.d2l_val (uV_nn A)
  have e : Jvm.FP.d2l a = Jvm.FP.Core.d2l a := rfl
  rw [e, h, l6_toInt hn, (uV_z A).1, (uV_z A).2]
  unfold Jvm.FP.Core.one64
  rw [Nat.mul_div_cancel _ (Nat.two_pow_pos _)]
  show max (-2 ^ 63) (min (2 ^ 63 - 1) (n : Int)) = n
  omega
theorem unit1 : uV 4607182418800017408 (2 ^ 1074) := ⟨2 ^ 52, -52, by decide +kernel, by decide +kernel⟩
theorem unit2 : uV 4611686018427387904 (2 ^ 1075) := ⟨2 ^ 52, -51, by decide +kernel, by decide +kernel⟩
theorem unit64 : uV 4895412794951729152 (2 ^ 1138) := ⟨2 ^ 52, 12, by decide +kernel, by decide +kernel⟩
theorem unit0 : uV Jvm.FP.dconst0 0 := ⟨0, -1074, by decide +kernel, by decide +kernel⟩
theorem unitc1 : uV Jvm.FP.dconst1 (2 ^ 1074) := ⟨2 ^ 52, -52, by decide +kernel, by decide +kernel⟩
/-- the bits of a number that is written in full -/
theorem u_full {m k : Nat} (A : uV a (m * 2 ^ k)) (h1 : 2 ^ 52 ≤ m) (h2 : m < 2 ^ 53) : a.toNat = k * 2 ^ 52 + m := by
  have h := uV_bits A
  have e : Jvm.FP.Core.unitsOf Jvm.FP.Core.b64 (k * 2 ^ 52 + m) = m * 2 ^ k := by
    unfold Jvm.FP.Core.unitsOf
    rw [Jvm.FP.Core.tails_b64, if_neg (by omega), show (k * 2 ^ 52 + m) % 2 ^ 52 = m - 2 ^ 52 by omega, show (k * 2 ^ 52 + m) / 2 ^ 52 - 1 = k by omega, show 2 ^ 52 + (m - 2 ^ 52) = m by omega]
  rw [← e] at h
  rcases Nat.lt_trichotomy a.toNat (k * 2 ^ 52 + m) with q | q | q
  · have := Jvm.FP.Core.unitsOf_lt (f := Jvm.FP.Core.b64) q; omega
  · exact q
  · have := Jvm.FP.Core.unitsOf_lt (f := Jvm.FP.Core.b64) q; omega
theorem u_part (A : uV a u) (h1 : u < 2 ^ 52) : a.toNat = u := by
  have h := uV_bits A
  have e : Jvm.FP.Core.unitsOf Jvm.FP.Core.b64 u = u := by
    unfold Jvm.FP.Core.unitsOf
    rw [Jvm.FP.Core.tails_b64, if_pos h1]
  have h : Jvm.FP.Core.unitsOf Jvm.FP.Core.b64 a.toNat = Jvm.FP.Core.unitsOf Jvm.FP.Core.b64 u := h.trans e.symm
  rcases Nat.lt_trichotomy a.toNat u with q | q | q
  · have := Jvm.FP.Core.unitsOf_lt (f := Jvm.FP.Core.b64) q; omega
  · exact q
  · have := Jvm.FP.Core.unitsOf_lt (f := Jvm.FP.Core.b64) q; omega
end UVS

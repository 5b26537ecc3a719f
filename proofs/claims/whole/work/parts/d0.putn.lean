/-! LONGS as numbers; THE MODEL: putName, putNumber -/
theorem l6_toInt {a : Nat} (h : a < 2 ^ 63) : (lN a).toInt = a := by
  show (BitVec.ofNat 64 a).toInt = a
  rw [BitVec.toInt_eq_toNat_of_lt (by rw [BitVec.toNat_ofNat]; omega), BitVec.toNat_ofNat, Nat.mod_eq_of_lt (by omega)]
theorem l6_lt {a b : Nat} (ha : a < 2 ^ 63) (hb : b < 2 ^ 63) : lN a < lN b ↔ a < b := by
  rw [Int64.lt_iff_toInt_lt, l6_toInt ha, l6_toInt hb]; omega
theorem l6_mul (a b : Nat) : lN a * lN b = lN (a * b) := by
  apply Int64.toBitVec_inj.mp
  rw [Int64.toBitVec_mul, lN_bv', lN_bv', lN_bv', BitVec.ofNat_mul]
theorem l6_add (a b : Nat) : lN a + lN b = lN (a + b) := by
  apply Int64.toBitVec_inj.mp
  rw [Int64.toBitVec_add, lN_bv', lN_bv', lN_bv', BitVec.ofNat_add]
theorem l6_sub {a b : Nat} (h : b ≤ a) : lN a - lN b = lN (a - b) := by
  have e : lN a = lN (a - b) + lN b := by rw [l6_add, Nat.sub_add_cancel h]
  rw [e, Int64.add_sub_cancel]
theorem l6_div {a b : Nat} (ha : a < 2 ^ 63) (hb : b < 2 ^ 63) (h0 : 0 < b) : lN a / lN b = lN (a / b) := by
  apply Int64.toInt_inj.mp
  rw [Int64.toInt_div_of_ne_left _ _ (by
    intro e; have := congrArg Int64.toInt e; rw [l6_toInt ha] at this
    have h2 : Int64.minValue.toInt = -9223372036854775808 := by decide
    omega), l6_toInt ha, l6_toInt hb, l6_toInt (Nat.lt_of_le_of_lt (Nat.div_le_self _ _) ha)]
  rw [Int.tdiv_eq_ediv_of_nonneg (by omega)]
  exact (Int.natCast_ediv a b).symm
theorem l6_rem2 {a b : Nat} : lN a - lN (a / b * b) = lN (a % b) := by
  rw [l6_sub (Nat.div_mul_le_self a b)]
  congr 1
  have := Nat.div_add_mod a b
  rw [Nat.mul_comm] at this
  omega
theorem lgc_lt {a b : Nat} (ha : a < 2 ^ 63) (hb : b < 2 ^ 63) : (lg_cmp (lN a) (lN b) < 0) = (a < b) := propext (by
  unfold lg_cmp
  by_cases c : b < a
  · rw [if_pos ((l6_lt hb ha).mpr c)]; exact ⟨fun q => absurd q (by decide), fun q => by omega⟩
  · rw [if_neg (fun q => c ((l6_lt hb ha).mp q))]
    by_cases c2 : a = b
    · rw [if_pos (by rw [c2])]; exact ⟨fun q => absurd q (by decide), fun q => by omega⟩
    · rw [if_neg (fun q => c2 ((lN_inj64 (by omega) (by omega)).mp q))]
      exact ⟨fun _ => by omega, fun _ => by decide⟩)
theorem lgc_le {a b : Nat} (ha : a < 2 ^ 63) (hb : b < 2 ^ 63) : (lg_cmp (lN a) (lN b) ≤ 0) = (a ≤ b) := propext (by
  unfold lg_cmp
  by_cases c : b < a
  · rw [if_pos ((l6_lt hb ha).mpr c)]; exact ⟨fun q => absurd q (by decide), fun q => by omega⟩
  · rw [if_neg (fun q => c ((l6_lt hb ha).mp q))]
    by_cases c2 : a = b
    · rw [if_pos (by rw [c2])]; exact ⟨fun _ => by omega, fun _ => by decide⟩
    · rw [if_neg (fun q => c2 ((lN_inj64 (by omega) (by omega)).mp q))]
      exact ⟨fun _ => by omega, fun _ => by decide⟩)
theorem l6_shr5 {v k : Nat} (hv : v < 2 ^ 63) (hk : k < 8) : lN v >>> ((nI (5 * k)).toInt64 &&& 63) = lN (v / 32 ^ k) := by
  have e : ∀ k, k < 8 → (((nI (5 * k)).toInt64 &&& 63).toBitVec.smod 64).toNat = 5 * k := by decide +kernel
  apply Int64.toBitVec_inj.mp
  rw [Int64.toBitVec_shiftRight, lN_bv', lN_bv']
  have hm : (BitVec.ofNat 64 v).msb = false := by
    rw [BitVec.msb_eq_false_iff_two_mul_lt, BitVec.toNat_ofNat]; omega
  rw [BitVec.sshiftRight_eq', e k hk, BitVec.sshiftRight_eq_of_msb_false hm]
  apply BitVec.eq_of_toNat_eq
  rw [BitVec.toNat_ushiftRight, BitVec.toNat_ofNat, BitVec.toNat_ofNat, Nat.shiftRight_eq_div_pow, Nat.mod_eq_of_lt (show v < 2 ^ 64 by omega), Nat.pow_mul, Nat.mod_eq_of_lt]
  exact Nat.lt_of_le_of_lt (Nat.div_le_self _ _) (by omega)
theorem l6_and31 (a : Nat) : lN a &&& lN 31 = lN (a % 32) := by
  apply Int64.toBitVec_inj.mp
  rw [Int64.toBitVec_and, lN_bv', lN_bv', lN_bv', ← BitVec.ofNat_and, show (31 : Nat) = 2 ^ 5 - 1 from rfl, Nat.and_two_pow_sub_one_eq_mod]
theorem nI_sub1 (n : Nat) : nI n - nI 1 = nI n + (-1) := by rw [Int32.sub_eq_add_neg]; rfl
theorem nI_suc1 (n : Nat) : nI (n + 1) + (-1) = nI n := by rw [nI_dec (by omega), Nat.add_sub_cancel]
/-- the letters, the first one first -/
def lto (v : Nat) : Nat → List Nat
  | 0 => []
  | r + 1 => (v / 32 ^ r % 32 + 96) :: lto v r
theorem lto_len (v : Nat) : ∀ r, (lto v r).length = r
  | 0 => rfl
  | r + 1 => congrArg (· + 1) (lto_len v r)
theorem lto_last (v : Nat) : ∀ r, lto v (r + 1) = lto (v / 32) r ++ [v % 32 + 96]
  | 0 => by show [v / 32 ^ 0 % 32 + 96] = _; rw [Nat.pow_zero, Nat.div_one]; rfl
  | r + 1 => by
    show (v / 32 ^ (r + 1) % 32 + 96) :: lto v (r + 1) = (v / 32 / 32 ^ r % 32 + 96) :: lto (v / 32) r ++ [v % 32 + 96]
    rw [lto_last v r, Nat.div_div_eq_div_mul, Nat.pow_succ, Nat.mul_comm 32]; rfl
def nbN : Nat → Nat → Nat
  | 0, _ => 0
  | f + 1, v => if v = 0 then 0 else nbN f (v / 32) + 1
theorem nbN_le : ∀ f v, nbN f v ≤ f
  | 0, _ => Nat.le_refl _
  | f + 1, v => by
    show (if v = 0 then 0 else nbN f (v / 32) + 1) ≤ f + 1
    have := nbN_le f (v / 32)
    split <;> omega
theorem ltN_eq : ∀ f v, ltN 32 96 f v = lto v (nbN f v)
  | 0, _ => rfl
  | f + 1, v => by
    by_cases c : v = 0
    · subst c; rfl
    · have e1 : ltN 32 96 (f + 1) v = ltN 32 96 f (v / 32) ++ [v % 32 + 96] := if_neg c
      have e2 : nbN (f + 1) v = nbN f (v / 32) + 1 := if_neg c
      rw [e1, e2, lto_last, ltN_eq f (v / 32)]
section OUN
variable {d : Nat} {h g : am_H}
theorem m_nameCnt {x : Int64} {Q : Option Value → am_H → Prop} : ∀ f v n, f ≤ 8 → v < 32 ^ f → n + f ≤ 100 → (am_J d 180 5 [some (.ref 349), some (.long x), none, some (.int (nI n)), some (.long (lN v)), none] [] h Q ↔ am_J d 180 26 [some (.ref 349), some (.long x), none, some (.int (nI (n + nbN f v))), some (.long (lN 0)), none] [] h Q) := by
  intro f
  induction f with
  | zero =>
    intro v n _ hv _
    obtain rfl : v = 0 := by simpa using hv
    rw [g180_5]
    simp (disch := first | with_reducible assumption | omega | exact Or.inl rfl | exact Or.inr rfl | exact bI_01 | exact c_cat | exact vt_ref | exact vt_null | rfl | with_reducible repeat (first | assumption | omega | apply S_I | apply S_L | apply S_D | apply ob_I | apply ob_L | apply ob_D | apply ob_R | apply ax_I | apply ax_L | apply ax_D | apply ax_R | apply o303 | apply o307 | apply o302 | apply o301 | apply ax304 | apply ax305 | apply ax306 | apply ax308 | apply ax309 | apply ax310 | apply lt_S | apply ar305 | apply ar308 | apply ar309)) only [g180_7, g180_8, g180_9, g180_12, g180_15, g180_17, g180_20, g180_21, g180_23, nI_ltI, nI_leI, nI_eq, nI_add, nI_sub, nI_lt0, nI_e0, nI_m1, m1_nI, Nat.reduceEqDiff, Nat.reduceLT, Nat.reduceLeDiff, Nat.reduceAdd, Nat.reduceSub, Nat.reduceMul, ↓reduceIte, eq_self, lgc_le, nbN, Nat.add_zero]
  | succ f ih =>
    intro v n hf hv hn
    have hb : ∀ f, f ≤ 8 → 32 ^ f ≤ 2 ^ 40 := by decide
    have := hb _ hf
    have n32 : ¬ lN 32 = 0 := by decide
    rw [g180_5]
    by_cases c : v = 0
    · subst c
      simp (disch := first | with_reducible assumption | omega | exact Or.inl rfl | exact Or.inr rfl | exact bI_01 | exact c_cat | exact vt_ref | exact vt_null | rfl | with_reducible repeat (first | assumption | omega | apply S_I | apply S_L | apply S_D | apply ob_I | apply ob_L | apply ob_D | apply ob_R | apply ax_I | apply ax_L | apply ax_D | apply ax_R | apply o303 | apply o307 | apply o302 | apply o301 | apply ax304 | apply ax305 | apply ax306 | apply ax308 | apply ax309 | apply ax310 | apply lt_S | apply ar305 | apply ar308 | apply ar309)) only [g180_7, g180_8, g180_9, g180_12, g180_15, g180_17, g180_20, g180_21, g180_23, nI_ltI, nI_leI, nI_eq, nI_add, nI_sub, nI_lt0, nI_e0, nI_m1, m1_nI, Nat.reduceEqDiff, Nat.reduceLT, Nat.reduceLeDiff, Nat.reduceAdd, Nat.reduceSub, Nat.reduceMul, ↓reduceIte, eq_self, lgc_le, nbN, Nat.add_zero]
    · have e2 : nbN (f + 1) v = nbN f (v / 32) + 1 := if_neg c
      simp (disch := first | with_reducible assumption | omega | exact Or.inl rfl | exact Or.inr rfl | exact bI_01 | exact c_cat | exact vt_ref | exact vt_null | rfl | with_reducible repeat (first | assumption | omega | apply S_I | apply S_L | apply S_D | apply ob_I | apply ob_L | apply ob_D | apply ob_R | apply ax_I | apply ax_L | apply ax_D | apply ax_R | apply o303 | apply o307 | apply o302 | apply o301 | apply ax304 | apply ax305 | apply ax306 | apply ax308 | apply ax309 | apply ax310 | apply lt_S | apply ar305 | apply ar308 | apply ar309)) only [g180_7, g180_8, g180_9, g180_12, g180_15, g180_17, g180_20, g180_21, g180_23, nI_ltI, nI_leI, nI_eq, nI_add, nI_sub, nI_lt0, nI_e0, nI_m1, m1_nI, Nat.reduceEqDiff, Nat.reduceLT, Nat.reduceLeDiff, Nat.reduceAdd, Nat.reduceSub, Nat.reduceMul, ↓reduceIte, eq_self, lgc_le, l6_div, show ¬ v ≤ 0 by omega]
      rw [ih (v / 32) (n + 1) (by omega) (by rw [Nat.pow_succ] at hv; omega) (by omega), e2, Nat.add_assoc, Nat.add_comm 1]
theorem m_namePut {v nb : Nat} (hv : v < 2 ^ 63) : ∀ r p g, r ≤ 8 → am_S g → am_I g 349 3 = nI p → p + r ≤ 2000 → ∃ g', (∀ Q, am_J (d + 1) 180 31 [some (.ref 349), some (.long (lN v)), none, some (.int (nI nb)), some (.int (nI r + (-1))), none] [] g Q ↔ Q none g') ∧ OW g g' p (lto v r) := by
  intro r
  induction r with
  | zero =>
    intro p g _ S e _
    refine ⟨g, fun Q => ?_, OW_nil e⟩
    rw [show nI 0 + (-1) = -1 by decide, g180_31]
    simp (disch := first | with_reducible assumption | omega | exact Or.inl rfl | exact Or.inr rfl | exact bI_01 | exact c_cat | exact vt_ref | exact vt_null | rfl | with_reducible repeat (first | assumption | omega | apply S_I | apply S_L | apply S_D | apply ob_I | apply ob_L | apply ob_D | apply ob_R | apply ax_I | apply ax_L | apply ax_D | apply ax_R | apply o303 | apply o307 | apply o302 | apply o301 | apply ax304 | apply ax305 | apply ax306 | apply ax308 | apply ax309 | apply ax310 | apply lt_S | apply ar305 | apply ar308 | apply ar309)) only [g180_33, g180_36, g180_37, g180_38, g180_39, g180_41, g180_42, g180_43, g180_46, g180_47, g180_48, g180_50, g180_51, g180_54, g180_57, g180_60, show ((-1 : Int32) < 0) = True from eq_true (by decide), ↓reduceIte]
  | succ r ih =>
    intro p g hr S e hp
    obtain ⟨g1, r1, W1⟩ := m_put1 (d := d) (c := v / 32 ^ r % 32 + 96) S e (by omega)
    obtain ⟨g', r', W'⟩ := ih (p + 1) g1 (by omega) (fr_S W1.1 S) W1.2.2.1 (by omega)
    refine ⟨g', fun Q => ?_, OW_trans W1 W'⟩
    rw [nI_suc1, ← r' Q, g180_31]
    simp (disch := first | with_reducible assumption | omega | exact Or.inl rfl | exact Or.inr rfl | exact bI_01 | exact c_cat | exact vt_ref | exact vt_null | rfl | with_reducible repeat (first | assumption | omega | apply S_I | apply S_L | apply S_D | apply ob_I | apply ob_L | apply ob_D | apply ob_R | apply ax_I | apply ax_L | apply ax_D | apply ax_R | apply o303 | apply o307 | apply o302 | apply o301 | apply ax304 | apply ax305 | apply ax306 | apply ax308 | apply ax309 | apply ax310 | apply lt_S | apply ar305 | apply ar308 | apply ar309)) only [g180_33, g180_36, g180_37, g180_38, g180_39, g180_41, g180_42, g180_43, g180_46, g180_47, g180_48, g180_50, g180_51, g180_54, g180_57, g180_60, Option.toList, List.nil_append, List.cons_append, va_rf, nI_ltI, nI_leI, nI_eq, nI_add, nI_sub, nI_lt0, nI_e0, nI_m1, m1_nI, Nat.reduceEqDiff, Nat.reduceLT, Nat.reduceLeDiff, Nat.reduceAdd, Nat.reduceSub, Nat.reduceMul, ↓reduceIte, eq_self, nI_mul, l6_shr5, l6_and31, lN_i8, r1 _]
theorem m_putName (S : am_S h) {p v : Nat} (e : am_I h 349 3 = nI p) (hv : v < 2 ^ 40) (hp : p + (ltM (lN v)).length ≤ 2000) : ∃ g, am_run (d + 1) 180 [some (.ref 349), some (.long (lN v)), none, none, none, none] h none g ∧ OW h g p (ltM (lN v)) := by
  have el : ltM (lN v) = lto v (nbN 8 v) := by
    unfold ltM
    rw [lN_bv', BitVec.toNat_ofNat, Nat.mod_eq_of_lt (by omega), ltN_eq]
  rw [el, lto_len] at hp
  obtain ⟨g', r', W'⟩ := m_namePut (d := d) (v := v) (nb := nbN 8 v) (by omega) (nbN 8 v) p h (nbN_le 8 v) S e hp
  rw [el]
  refine ⟨g', fun Q => ?_, W'⟩
  rw [← r' Q]
  have c := m_nameCnt (d := d + 1) (h := h) (Q := Q) (x := lN v) 8 v 0 (by omega) hv (by omega)
  rw [Nat.zero_add] at c
  simp (disch := first | with_reducible assumption | omega | exact Or.inl rfl | exact Or.inr rfl | exact bI_01 | exact c_cat | exact vt_ref | exact vt_null | rfl | with_reducible repeat (first | assumption | omega | apply S_I | apply S_L | apply S_D | apply ob_I | apply ob_L | apply ob_D | apply ob_R | apply ax_I | apply ax_L | apply ax_D | apply ax_R | apply o303 | apply o307 | apply o302 | apply o301 | apply ax304 | apply ax305 | apply ax306 | apply ax308 | apply ax309 | apply ax310 | apply lt_S | apply ar305 | apply ar308 | apply ar309)) only [g180_0, g180_1, g180_2, g180_3, Option.toList, List.nil_append, List.cons_append, va_rf]
  rw [c]
  simp (disch := first | with_reducible assumption | omega | exact Or.inl rfl | exact Or.inr rfl | exact bI_01 | exact c_cat | exact vt_ref | exact vt_null | rfl | with_reducible repeat (first | assumption | omega | apply S_I | apply S_L | apply S_D | apply ob_I | apply ob_L | apply ob_D | apply ob_R | apply ax_I | apply ax_L | apply ax_D | apply ax_R | apply o303 | apply o307 | apply o302 | apply o301 | apply ax304 | apply ax305 | apply ax306 | apply ax308 | apply ax309 | apply ax310 | apply lt_S | apply ar305 | apply ar308 | apply ar309)) only [g180_26, g180_27, g180_28, g180_29, nI_sub1]
/-- the digits, the first one first; a point before the last b -/
def dgo (v b : Nat) : Nat → List Nat
  | 0 => []
  | n + 1 => (if n + 1 = b then [46] else []) ++ (48 + v / 10 ^ n % 10) :: dgo v b n
theorem decN_first (v : Nat) : ∀ n, decN (n + 1) v = (48 + v / 10 ^ n % 10) :: decN n v := by
  intro n
  induction n generalizing v with
  | zero => show [48 + v % 10] = _; rw [Nat.pow_zero, Nat.div_one]; rfl
  | succ n ih =>
    show decN (n + 1) (v / 10) ++ [48 + v % 10] = _ :: (decN n (v / 10) ++ [48 + v % 10])
    rw [ih (v / 10), Nat.div_div_eq_div_mul, Nat.pow_succ, Nat.mul_comm 10]; rfl
theorem dgo_low (v b : Nat) : ∀ n, n < b ∨ b = 0 → dgo v b n = decN n v
  | 0, _ => rfl
  | n + 1, h => by
    show (if n + 1 = b then [46] else []) ++ (48 + v / 10 ^ n % 10) :: dgo v b n = _
    rw [if_neg (by omega), decN_first, dgo_low v b n (by omega)]; rfl
theorem dgo_high (v b : Nat) (hb : 1 ≤ b) : ∀ k, dgo v b (b + k) = (decN (b + k) v).take k ++ 46 :: (decN (b + k) v).drop k := by
  intro k
  induction k with
  | zero =>
    obtain ⟨c, rfl⟩ : ∃ c, b = c + 1 := ⟨b - 1, by omega⟩
    show (if c + 1 = c + 1 then [46] else []) ++ (48 + v / 10 ^ c % 10) :: dgo v (c + 1) c = 46 :: decN (c + 1) v
    rw [if_pos rfl, decN_first, dgo_low v (c + 1) c (by omega)]; rfl
  | succ k ih =>
    show (if b + k + 1 = b then [46] else []) ++ (48 + v / 10 ^ (b + k) % 10) :: dgo v b (b + k) = (decN (b + k + 1) v).take (k + 1) ++ 46 :: (decN (b + k + 1) v).drop (k + 1)
    rw [if_neg (by omega), decN_first, ih]; rfl
theorem dgN_eq (v b : Nat) : dgN v b = dgo v b (max (ndN 20 v) (b + 1)) := by
  have n1 : 1 ≤ ndN 20 v := by
    show 1 ≤ (if v < 10 then 1 else ndN 19 (v / 10) + 1)
    split <;> omega
  unfold dgN
  by_cases c : b = 0
  · subst c
    rw [if_pos rfl, dgo_low v 0 _ (Or.inr rfl), Nat.max_eq_left n1]
  · rw [if_neg c]
    obtain ⟨k, hk⟩ : ∃ k, max (ndN 20 v) (b + 1) = b + k := ⟨max (ndN 20 v) (b + 1) - b, by omega⟩
    rw [hk, dgo_high v b (by omega) k, Nat.add_sub_cancel_left]
theorem m_numCnt {b : Nat} {v : Nat} {Q : Option Value → am_H → Prop} (hv : v < 10 ^ 18) : ∀ f n, n + f = 17 → (am_J d 177 6 [some (.ref 349), some (.long (lN v)), none, some (.int (nI b)), some (.long (lN (10 ^ n))), none, some (.int (nI (n + 1)))] [] h Q ↔ am_J d 177 38 [some (.ref 349), some (.long (lN v)), none, some (.int (nI b)), some (.long (lN (10 ^ (n + ndN (f + 3) (v / 10 ^ n) - 1)))), none, some (.int (nI (n + ndN (f + 3) (v / 10 ^ n))))] [] h Q) := by
  have hp : ∀ n, n ≤ 17 → 10 ^ n < 2 ^ 63 ∧ 0 < 10 ^ n := by decide
  intro f
  induction f with
  | zero =>
    intro n hn
    obtain rfl : n = 17 := by omega
    have e : ndN (0 + 3) (v / 10 ^ 17) = 1 := if_pos (by omega)
    rw [e, g177_6]
    simp (disch := first | with_reducible assumption | omega | exact Or.inl rfl | exact Or.inr rfl | exact bI_01 | exact c_cat | exact vt_ref | exact vt_null | rfl | with_reducible repeat (first | assumption | omega | apply S_I | apply S_L | apply S_D | apply ob_I | apply ob_L | apply ob_D | apply ob_R | apply ax_I | apply ax_L | apply ax_D | apply ax_R | apply o303 | apply o307 | apply o302 | apply o301 | apply ax304 | apply ax305 | apply ax306 | apply ax308 | apply ax309 | apply ax310 | apply lt_S | apply ar305 | apply ar308 | apply ar309)) only [g177_8, g177_10, g177_13, g177_14, g177_16, g177_17, g177_20, g177_21, g177_24, g177_26, g177_29, g177_30, g177_32, g177_35, nI_ltI, nI_leI, nI_eq, nI_add, nI_sub, nI_lt0, nI_e0, nI_m1, m1_nI, Nat.reduceEqDiff, Nat.reduceLT, Nat.reduceLeDiff, Nat.reduceAdd, Nat.reduceSub, Nat.reduceMul, ↓reduceIte, eq_self]
  | succ f ih =>
    intro n hn
    obtain ⟨p1, p2⟩ := hp n (by omega)
    have nz : ¬ lN (10 ^ n) = 0 := fun q => by
      have := (lN_inj64 (a := 10 ^ n) (b := 0) (by omega) (by decide)).mp q
      omega
    have hd : v / 10 ^ n < 2 ^ 63 := Nat.lt_of_le_of_lt (Nat.div_le_self _ _) (by omega)
    rw [g177_6]
    by_cases c : v / 10 ^ n < 10
    · have e : ndN (f + 1 + 3) (v / 10 ^ n) = 1 := if_pos c
      rw [e]
      simp (disch := first | with_reducible assumption | omega | exact Or.inl rfl | exact Or.inr rfl | exact bI_01 | exact c_cat | exact vt_ref | exact vt_null | rfl | with_reducible repeat (first | assumption | omega | apply S_I | apply S_L | apply S_D | apply ob_I | apply ob_L | apply ob_D | apply ob_R | apply ax_I | apply ax_L | apply ax_D | apply ax_R | apply o303 | apply o307 | apply o302 | apply o301 | apply ax304 | apply ax305 | apply ax306 | apply ax308 | apply ax309 | apply ax310 | apply lt_S | apply ar305 | apply ar308 | apply ar309)) only [g177_8, g177_10, g177_13, g177_14, g177_16, g177_17, g177_20, g177_21, g177_24, g177_26, g177_29, g177_30, g177_32, g177_35, nI_ltI, nI_leI, nI_eq, nI_add, nI_sub, nI_lt0, nI_e0, nI_m1, m1_nI, Nat.reduceEqDiff, Nat.reduceLT, Nat.reduceLeDiff, Nat.reduceAdd, Nat.reduceSub, Nat.reduceMul, ↓reduceIte, eq_self, l6_div, lgc_lt, c, show ¬ 18 ≤ n + 1 by omega, Nat.add_sub_cancel]
    · have e : ndN (f + 1 + 3) (v / 10 ^ n) = ndN (f + 3) (v / 10 ^ n / 10) + 1 := if_neg c
      have i := ih (n + 1) (by omega)
      rw [Nat.pow_succ] at i
      simp (disch := first | with_reducible assumption | omega | exact Or.inl rfl | exact Or.inr rfl | exact bI_01 | exact c_cat | exact vt_ref | exact vt_null | rfl | with_reducible repeat (first | assumption | omega | apply S_I | apply S_L | apply S_D | apply ob_I | apply ob_L | apply ob_D | apply ob_R | apply ax_I | apply ax_L | apply ax_D | apply ax_R | apply o303 | apply o307 | apply o302 | apply o301 | apply ax304 | apply ax305 | apply ax306 | apply ax308 | apply ax309 | apply ax310 | apply lt_S | apply ar305 | apply ar308 | apply ar309)) only [g177_8, g177_10, g177_13, g177_14, g177_16, g177_17, g177_20, g177_21, g177_24, g177_26, g177_29, g177_30, g177_32, g177_35, nI_ltI, nI_leI, nI_eq, nI_add, nI_sub, nI_lt0, nI_e0, nI_m1, m1_nI, Nat.reduceEqDiff, Nat.reduceLT, Nat.reduceLeDiff, Nat.reduceAdd, Nat.reduceSub, Nat.reduceMul, ↓reduceIte, eq_self, l6_div, l6_mul, lgc_lt, c, show ¬ 18 ≤ n + 1 by omega]
      rw [i, e, Nat.div_div_eq_div_mul, show n + 1 + ndN (f + 3) (v / (10 ^ n * 10)) = n + (ndN (f + 3) (v / (10 ^ n * 10)) + 1) by omega]
theorem m_numUp {b v : Nat} {Q : Option Value → am_H → Prop} (hb : b ≤ 14) : ∀ f n, b - n = f → n ≤ 17 → (am_J d 177 38 [some (.ref 349), some (.long (lN v)), none, some (.int (nI b)), some (.long (lN (10 ^ n))), none, some (.int (nI (n + 1)))] [] h Q ↔ am_J d 177 60 [some (.ref 349), some (.long (lN v)), none, some (.int (nI b)), some (.long (lN (10 ^ (max (n + 1) (b + 1) - 1)))), none, some (.int (nI (max (n + 1) (b + 1))))] [] h Q) := by
  intro f
  induction f with
  | zero =>
    intro n hn h17
    rw [Nat.max_eq_left (show b + 1 ≤ n + 1 by omega), Nat.add_sub_cancel, g177_38]
    simp (disch := first | with_reducible assumption | omega | exact Or.inl rfl | exact Or.inr rfl | exact bI_01 | exact c_cat | exact vt_ref | exact vt_null | rfl | with_reducible repeat (first | assumption | omega | apply S_I | apply S_L | apply S_D | apply ob_I | apply ob_L | apply ob_D | apply ob_R | apply ax_I | apply ax_L | apply ax_D | apply ax_R | apply o303 | apply o307 | apply o302 | apply o301 | apply ax304 | apply ax305 | apply ax306 | apply ax308 | apply ax309 | apply ax310 | apply lt_S | apply ar305 | apply ar308 | apply ar309)) only [g177_40, g177_41, g177_42, g177_43, g177_46, g177_48, g177_51, g177_52, g177_54, g177_57, nI_ltI, nI_leI, nI_eq, nI_add, nI_sub, nI_lt0, nI_e0, nI_m1, m1_nI, Nat.reduceEqDiff, Nat.reduceLT, Nat.reduceLeDiff, Nat.reduceAdd, Nat.reduceSub, Nat.reduceMul, ↓reduceIte, eq_self, show b + 1 ≤ n + 1 by omega]
  | succ f ih =>
    intro n hn h17
    have i := ih (n + 1) (by omega) (by omega)
    rw [Nat.pow_succ, show max (n + 1 + 1) (b + 1) = max (n + 1) (b + 1) by omega] at i
    rw [g177_38]
    simp (disch := first | with_reducible assumption | omega | exact Or.inl rfl | exact Or.inr rfl | exact bI_01 | exact c_cat | exact vt_ref | exact vt_null | rfl | with_reducible repeat (first | assumption | omega | apply S_I | apply S_L | apply S_D | apply ob_I | apply ob_L | apply ob_D | apply ob_R | apply ax_I | apply ax_L | apply ax_D | apply ax_R | apply o303 | apply o307 | apply o302 | apply o301 | apply ax304 | apply ax305 | apply ax306 | apply ax308 | apply ax309 | apply ax310 | apply lt_S | apply ar305 | apply ar308 | apply ar309)) only [g177_40, g177_41, g177_42, g177_43, g177_46, g177_48, g177_51, g177_52, g177_54, g177_57, nI_ltI, nI_leI, nI_eq, nI_add, nI_sub, nI_lt0, nI_e0, nI_m1, m1_nI, Nat.reduceEqDiff, Nat.reduceLT, Nat.reduceLeDiff, Nat.reduceAdd, Nat.reduceSub, Nat.reduceMul, ↓reduceIte, eq_self, l6_mul, show ¬ b + 1 ≤ n + 1 by omega]
    exact i
theorem m_numPut {v b : Nat} (hv : v < 10 ^ 18) (hb : b ≤ 14) : ∀ n p g, n ≤ 18 → am_S g → am_I g 349 3 = nI p → p + (dgo v b n).length ≤ 2000 → ∃ g', (∀ Q, am_J (d + 1) 177 60 [some (.ref 349), some (.long (lN v)), none, some (.int (nI b)), some (.long (lN (10 ^ n / 10))), none, some (.int (nI n))] [] g Q ↔ Q none g') ∧ OW g g' p (dgo v b n) := by
  have hp' : ∀ n, n ≤ 18 → 10 ^ n < 2 ^ 63 ∧ 0 < 10 ^ n := by decide
  intro n
  induction n with
  | zero =>
    intro p g _ S e _
    refine ⟨g, fun Q => ?_, OW_nil e⟩
    rw [g177_60]
    simp (disch := first | with_reducible assumption | omega | exact Or.inl rfl | exact Or.inr rfl | exact bI_01 | exact c_cat | exact vt_ref | exact vt_null | rfl | with_reducible repeat (first | assumption | omega | apply S_I | apply S_L | apply S_D | apply ob_I | apply ob_L | apply ob_D | apply ob_R | apply ax_I | apply ax_L | apply ax_D | apply ax_R | apply o303 | apply o307 | apply o302 | apply o301 | apply ax304 | apply ax305 | apply ax306 | apply ax308 | apply ax309 | apply ax310 | apply lt_S | apply ar305 | apply ar308 | apply ar309)) only [g177_62, g177_65, g177_67, g177_68, g177_71, g177_72, g177_74, g177_77, g177_78, g177_80, g177_81, g177_83, g177_84, g177_87, g177_88, g177_89, g177_90, g177_93, g177_95, g177_98, g177_99, g177_101, g177_104, g177_107, nI_ltI, nI_leI, nI_eq, nI_add, nI_sub, nI_lt0, nI_e0, nI_m1, m1_nI, Nat.reduceEqDiff, Nat.reduceLT, Nat.reduceLeDiff, Nat.reduceAdd, Nat.reduceSub, Nat.reduceMul, ↓reduceIte, eq_self, Nat.le_refl, show nI 0 ≤ 0 from by decide]
  | succ n ih =>
    intro p g hn S e hp
    obtain ⟨p1, p2⟩ := hp' n (by omega)
    have nz : ¬ lN (10 ^ n) = 0 := fun q => by
      have := (lN_inj64 (a := 10 ^ n) (b := 0) (by omega) (by decide)).mp q
      omega
    have n10 : ¬ lN 10 = 0 := by decide
    have hd : v / 10 ^ n < 2 ^ 63 := Nat.lt_of_le_of_lt (Nat.div_le_self _ _) (by omega)
    have e10 : 10 ^ (n + 1) / 10 = 10 ^ n := by rw [Nat.pow_succ]; omega
    have l0 : ¬ nI (n + 1) ≤ 0 := by
      rw [show (0 : Int32) = nI 0 from rfl, nI_leI (by omega) (by omega)]
      omega
    have l8 : v / 10 ^ n % 10 < 256 := by omega
    rw [e10]
    by_cases c : n + 1 = b
    · subst c
      have ed : dgo v (n + 1) (n + 1) = [46] ++ ([48 + v / 10 ^ n % 10] ++ dgo v (n + 1) n) := by
        show (if n + 1 = n + 1 then [46] else []) ++ _ = _
        rw [if_pos rfl]; rfl
      rw [ed] at hp ⊢
      simp only [List.length_append, List.length_cons, List.length_nil] at hp
      obtain ⟨g1, r1, W1⟩ := m_put1 (d := d) (c := 46) S e (by omega)
      have S1 := fr_S W1.1 S
      obtain ⟨g2, r2, W2⟩ := m_put1 (d := d) (c := 48 + v / 10 ^ n % 10) S1 W1.2.2.1 (by simp; omega)
      have S2 := fr_S W2.1 S1
      obtain ⟨g', r', W'⟩ := ih (p + 1 + 1) g2 (by omega) S2 W2.2.2.1 (by omega)
      refine ⟨g', fun Q => ?_, OW_trans W1 (OW_trans W2 W')⟩
      rw [← r' Q, g177_60]
      simp (disch := first | with_reducible assumption | omega | exact Or.inl rfl | exact Or.inr rfl | exact bI_01 | exact c_cat | exact vt_ref | exact vt_null | rfl | with_reducible repeat (first | assumption | omega | apply S_I | apply S_L | apply S_D | apply ob_I | apply ob_L | apply ob_D | apply ob_R | apply ax_I | apply ax_L | apply ax_D | apply ax_R | apply o303 | apply o307 | apply o302 | apply o301 | apply ax304 | apply ax305 | apply ax306 | apply ax308 | apply ax309 | apply ax310 | apply lt_S | apply ar305 | apply ar308 | apply ar309)) only [g177_62, g177_65, g177_67, g177_68, g177_71, g177_72, g177_74, g177_77, g177_78, g177_80, g177_81, g177_83, g177_84, g177_87, g177_88, g177_89, g177_90, g177_93, g177_95, g177_98, g177_99, g177_101, g177_104, g177_107, Option.toList, List.nil_append, List.cons_append, va_rf, nI_ltI, nI_leI, nI_eq, nI_add, nI_lt0, nI_e0, nI_m1, m1_nI, Nat.reduceEqDiff, Nat.reduceLT, Nat.reduceLeDiff, Nat.reduceAdd, Nat.reduceSub, Nat.reduceMul, ↓reduceIte, eq_self, l0, l6_div, l6_mul, l6_rem2, lN_i8, r1 _, r2 _, nI_suc1]
    · have ed : dgo v b (n + 1) = [48 + v / 10 ^ n % 10] ++ dgo v b n := by
        show (if n + 1 = b then [46] else []) ++ _ = _
        rw [if_neg c]; rfl
      rw [ed] at hp ⊢
      simp only [List.length_append, List.length_cons, List.length_nil] at hp
      obtain ⟨g1, r1, W1⟩ := m_put1 (d := d) (c := 48 + v / 10 ^ n % 10) S e (by omega)
      have S1 := fr_S W1.1 S
      obtain ⟨g', r', W'⟩ := ih (p + 1) g1 (by omega) S1 W1.2.2.1 (by omega)
      refine ⟨g', fun Q => ?_, OW_trans W1 W'⟩
      rw [← r' Q, g177_60]
      simp (disch := first | with_reducible assumption | omega | exact Or.inl rfl | exact Or.inr rfl | exact bI_01 | exact c_cat | exact vt_ref | exact vt_null | rfl | with_reducible repeat (first | assumption | omega | apply S_I | apply S_L | apply S_D | apply ob_I | apply ob_L | apply ob_D | apply ob_R | apply ax_I | apply ax_L | apply ax_D | apply ax_R | apply o303 | apply o307 | apply o302 | apply o301 | apply ax304 | apply ax305 | apply ax306 | apply ax308 | apply ax309 | apply ax310 | apply lt_S | apply ar305 | apply ar308 | apply ar309)) only [g177_62, g177_65, g177_67, g177_68, g177_71, g177_72, g177_74, g177_77, g177_78, g177_80, g177_81, g177_83, g177_84, g177_87, g177_88, g177_89, g177_90, g177_93, g177_95, g177_98, g177_99, g177_101, g177_104, g177_107, Option.toList, List.nil_append, List.cons_append, va_rf, nI_ltI, nI_leI, nI_eq, nI_add, nI_lt0, nI_e0, nI_m1, m1_nI, Nat.reduceEqDiff, Nat.reduceLT, Nat.reduceLeDiff, Nat.reduceAdd, Nat.reduceSub, Nat.reduceMul, ↓reduceIte, eq_self, l0, c, l6_div, l6_mul, l6_rem2, lN_i8, r1 _, nI_suc1]
theorem ndN_lx : ∀ f v, v < 10 ^ f → ndN (f + 2) v ≤ max f 1 := by
  intro f
  induction f with
  | zero =>
    intro v hv
    obtain rfl : v = 0 := by simpa using hv
    exact Nat.le_refl _
  | succ f ih =>
    intro v hv
    show (if v < 10 then 1 else ndN (f + 2) (v / 10) + 1) ≤ _
    have := ih (v / 10) (by rw [Nat.pow_succ] at hv; omega)
    by_cases c : v < 10
    · rw [if_pos c]; omega
    · rw [if_neg c]
      have : f ≠ 0 := fun q => by subst q; simp at hv; omega
      omega
theorem m_putNumber (S : am_S h) {p v b : Nat} (e : am_I h 349 3 = nI p) (hv : v < 10 ^ 18) (hb : b ≤ 14) (hp : p + (dgN v b).length ≤ 2000) : ∃ g, am_run (d + 1) 177 [some (.ref 349), some (.long (lN v)), none, some (.int (nI b)), none, none, none] h none g ∧ OW h g p (dgN v b) := by
  rw [dgN_eq] at hp ⊢
  have n18 : ndN 20 v ≤ max 18 1 := ndN_lx 18 v hv
  have n1 : 1 ≤ ndN 20 v := by
    show 1 ≤ (if v < 10 then 1 else ndN 19 (v / 10) + 1)
    split <;> omega
  obtain ⟨g', r', W'⟩ := m_numPut (d := d) (v := v) (b := b) hv hb (max (ndN 20 v) (b + 1)) p h (by omega) S e hp
  refine ⟨g', fun Q => ?_, W'⟩
  obtain ⟨m, hm⟩ : ∃ m, ndN 20 v = m + 1 := ⟨ndN 20 v - 1, by omega⟩
  have c1 := m_numCnt (d := d + 1) (h := h) (Q := Q) (b := b) hv 17 0 rfl
  have c2 := m_numUp (d := d + 1) (h := h) (Q := Q) (b := b) (v := v) hb (b - m) m rfl (by omega)
  rw [← r' Q]
  rw [Nat.pow_zero, Nat.div_one, hm, Nat.zero_add, Nat.zero_add, Nat.add_sub_cancel] at c1
  have e3 : 10 ^ (max (m + 1) (b + 1)) / 10 = 10 ^ (max (m + 1) (b + 1) - 1) := by
    obtain ⟨k, hk⟩ : ∃ k, max (m + 1) (b + 1) = k + 1 := ⟨max m b, by omega⟩
    rw [hk, Nat.add_sub_cancel, Nat.pow_succ]; omega
  simp (disch := first | with_reducible assumption | omega | exact Or.inl rfl | exact Or.inr rfl | exact bI_01 | exact c_cat | exact vt_ref | exact vt_null | rfl | with_reducible repeat (first | assumption | omega | apply S_I | apply S_L | apply S_D | apply ob_I | apply ob_L | apply ob_D | apply ob_R | apply ax_I | apply ax_L | apply ax_D | apply ax_R | apply o303 | apply o307 | apply o302 | apply o301 | apply ax304 | apply ax305 | apply ax306 | apply ax308 | apply ax309 | apply ax310 | apply lt_S | apply ar305 | apply ar308 | apply ar309)) only [g177_0, g177_1, g177_3, g177_4, Option.toList, List.nil_append, List.cons_append, va_rf]
  rw [c1, c2, hm, e3]
end OUN

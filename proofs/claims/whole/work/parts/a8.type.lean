/-! THE OPERATIONS: type, wipe, old, count -/
/-- byte k of a long -/
def bt (v : Int64) (k : Nat) : Nat := v.toBitVec.toNat / 2 ^ (8 * k) % 256
theorem bt_lt {v : Int64} {k : Nat} : bt v k < 256 := Nat.mod_lt _ (by decide)
theorem bt_and {v : Int64} {k : Nat} {b : BitVec 64} (h : ∀ i, i < 8 → b.getLsbD i = v.toBitVec.getLsbD (8 * k + i)) : b &&& 255#64 = BitVec.ofNat 64 (bt v k) := by
  apply BitVec.eq_of_getLsbD_eq
  intro i hi
  rw [BitVec.getLsbD_and, BitVec.getLsbD_ofNat, BitVec.getLsbD_ofNat]
  by_cases c : i < 8
  · rw [h i c]
    have e1 : Nat.testBit 255 i = true := by
      rw [show 255 = 2 ^ 8 - 1 by decide, Nat.testBit_two_pow_sub_one]; simp [c]
    have e2 : (bt v k).testBit i = v.toBitVec.getLsbD (8 * k + i) := by
      unfold bt
      rw [show 256 = 2 ^ 8 by decide, Nat.testBit_mod_two_pow, Nat.testBit_div_two_pow, BitVec.getLsbD]
      simp [c, Nat.add_comm]
    rw [e1, e2]
    simp [hi]
  · have e1 : Nat.testBit 255 i = false := Nat.testBit_lt_two_pow (Nat.lt_of_lt_of_le (by decide : 255 < 2 ^ 8) (Nat.pow_le_pow_right (by decide) (by omega)))
    have e2 : (bt v k).testBit i = false := Nat.testBit_lt_two_pow (Nat.lt_of_lt_of_le (show bt v k < 2 ^ 8 from bt_lt) (Nat.pow_le_pow_right (by decide) (by omega)))
    rw [e1, e2]
    simp
theorem bt_x {v : Int64} {k : Nat} (hk : k < 8) : (v.toUInt64 >>> ((nI (8 * k)).toInt64.toUInt64 &&& Int64.toUInt64 63)).toInt64 &&& lN 255 = lN (bt v k) := by
  have e : ∀ k, k < 8 → ((nI (8 * k)).toInt64.toUInt64 &&& Int64.toUInt64 63) = UInt64.ofNat (8 * k) := by decide +kernel
  rw [e k hk]
  apply Int64.toBitVec_inj.mp
  rw [Int64.toBitVec_and]
  refine bt_and (v := v) (k := k) (b := (v.toUInt64 >>> UInt64.ofNat (8 * k)).toInt64.toBitVec) (fun i hi => ?_)
  show ((v.toUInt64 >>> UInt64.ofNat (8 * k)).toBitVec).getLsbD i = _
  rw [UInt64.toBitVec_shiftRight]
  have : ∀ k, k < 8 → ((UInt64.ofNat (8 * k)).toBitVec % 64).toNat = 8 * k := by decide +kernel
  rw [BitVec.ushiftRight_eq', this k hk, BitVec.getLsbD_ushiftRight]
  rfl
theorem bt_m {v : Int64} {k : Nat} (hk : k < 8) : (v >>> ((nI (8 * k)).toInt64 &&& 63)) &&& lN 255 = lN (bt v k) := by
  apply Int64.toBitVec_inj.mp
  rw [Int64.toBitVec_and]
  refine bt_and (v := v) (k := k) (b := (v >>> ((nI (8 * k)).toInt64 &&& 63)).toBitVec) (fun i hi => ?_)
  have e : ∀ k, k < 8 → (((nI (8 * k)).toInt64 &&& 63).toBitVec.smod 64).toNat = 8 * k := by decide +kernel
  rw [Int64.toBitVec_shiftRight, BitVec.sshiftRight_eq', e k hk, BitVec.getLsbD_sshiftRight]
  simp [show ¬ 64 ≤ i by omega, show 8 * k + i < 64 by omega]
theorem lN_i8 {b : Nat} (h : b < 256) : (lN b).toInt32 = nI b := by
  have : ∀ b, b < 256 → (lN b).toInt32 = nI b := by decide +kernel
  exact this b h
theorem lN_z {b : Nat} (h : b < 256) : lg_cmp (lN b) (lN 0) = 0 ↔ b = 0 := by
  rw [lg_cmp0]
  exact lN_inj64 (by omega) (by decide)
/-- the bytes that are typed -/
def bs (v : Int64) : Nat → List Nat
  | 0 => []
  | k + 1 => bs v k ++ if bt v k = 0 then [] else [bt v k]
theorem bs_pos {v : Int64} : ∀ k b, b ∈ bs v k → 1 ≤ b ∧ b ≤ 255 := by
  intro k
  induction k with
  | zero => intro b hb; cases hb
  | succ k ih =>
    intro b hb
    have hb : b ∈ bs v k ++ if bt v k = 0 then [] else [bt v k] := hb
    rcases List.mem_append.mp hb with h | h
    · exact ih b h
    · by_cases c : bt v k = 0
      · rw [if_pos c] at h; cases h
      · rw [if_neg c] at h
        rw [List.mem_singleton.mp h]
        have := @bt_lt v k
        omega
theorem bs_len {v : Int64} : ∀ k, (bs v k).length ≤ k ∧ (bs v k).length ≤ (bs v (k + 1)).length := by
  intro k
  induction k with
  | zero => exact ⟨Nat.le_refl _, Nat.zero_le _⟩
  | succ k ih =>
    have h2 : ∀ k, (bs v (k + 1)).length = (bs v k).length + if bt v k = 0 then 0 else 1 := fun k => by
      show (bs v k ++ if bt v k = 0 then [] else [bt v k]).length = _
      rw [List.length_append]
      split <;> rfl
    have := h2 k
    have := h2 (k + 1)
    constructor
    · split at * <;> omega
    · split at * <;> omega
theorem bs_le8 {v : Int64} : ∀ r k, 8 - k = r → k ≤ 8 → (bs v k).length ≤ (bs v 8).length := by
  intro r
  induction r with
  | zero => intro k h1 h2; rw [show k = 8 by omega]; exact Nat.le_refl _
  | succ r ih => intro k h1 h2; exact Nat.le_trans (bs_len k).2 (ih (k + 1) (by omega) (by omega))
def tt (t : Nat → Nat) (n : Nat) (l : List Nat) (j : Nat) : Nat := if j < n then t j else l.getD (j - n) 0
theorem tt_app {t : Nat → Nat} {n : Nat} {l l' : List Nat} {j : Nat} (hj : j < n + l.length) : tt t n (l ++ l') j = tt t n l j := by
  unfold tt
  by_cases c : j < n
  · rw [if_pos c, if_pos c]
  · rw [if_neg c, if_neg c, List.getD_eq_getElem?_getD, List.getD_eq_getElem?_getD, List.getElem?_append_left (by omega)]
theorem tt_last {t : Nat → Nat} {n : Nat} {l : List Nat} {b : Nat} : tt t n (l ++ [b]) (n + l.length) = b := by
  unfold tt
  rw [if_neg (by omega), show n + l.length - n = l.length by omega, List.getD_eq_getElem?_getD, List.getElem?_append_right (Nat.le_refl _)]
  simp
section TYP
variable {d : Nat} {h : am_H} {Q : Option Value → am_H → Prop} {x y z : Int32} {v : Int64} {t : Nat → Nat} {n : Nat}
theorem x_cnt (S : am_S h) : ∀ r k (v5 : Option Value), 8 - k = r → k ≤ 8 → (am_J d 139 5 [some (.ref 4), some (.long v), none, some (.int (nI (bs v k).length)), some (.int (nI (8 * k))), v5] [] h Q ↔ am_J d 139 34 [some (.ref 4), some (.long v), none, some (.int (nI (bs v 8).length)), some (.int (nI 64)), v5] [] h Q) := by
  intro r
  induction r with
  | zero =>
    intro k v5 hr hk
    obtain rfl : k = 8 := by omega
    rw [g139_5]
    simp (disch := first | with_reducible assumption | omega | exact Or.inl rfl | exact Or.inr rfl | exact bI_01 | exact c_cat | exact vt_ref | exact vt_null | rfl | with_reducible repeat (first | assumption | omega | apply S_I | apply S_L | apply S_D | apply ob_I | apply ob_L | apply ob_D | apply ob_R | apply ax_I | apply ax_L | apply ax_D | apply ax_R | apply o303 | apply o307 | apply o302 | apply o301 | apply ax304 | apply ax305 | apply ax306 | apply ax308 | apply ax309 | apply ax310 | apply lt_S | apply ar305 | apply ar308 | apply ar309)) only [g139_7, g139_9, g139_12, g139_13, g139_15, g139_16, g139_19, g139_20, g139_21, g139_22, g139_25, g139_28, g139_31, nI_ltI, nI_leI, nI_eq, nI_add, nI_sub, nI_lt0, nI_e0, nI_m1, m1_nI, Nat.reduceEqDiff, Nat.reduceLT, Nat.reduceLeDiff, Nat.reduceAdd, Nat.reduceSub, Nat.reduceMul, ↓reduceIte, eq_self, Nat.le_refl]
  | succ r ih =>
    intro k v5 hr hk
    rw [← ih (k + 1) v5 (by omega) (by omega), g139_5]
    have hb := @bt_lt v k
    have el : (bs v (k + 1)).length = (bs v k).length + if bt v k = 0 then 0 else 1 := by
      show (bs v k ++ if bt v k = 0 then [] else [bt v k]).length = _
      rw [List.length_append]
      split <;> rfl
    rw [el]
    by_cases c : bt v k = 0
    · simp (disch := first | with_reducible assumption | omega | exact Or.inl rfl | exact Or.inr rfl | exact bI_01 | exact c_cat | exact vt_ref | exact vt_null | rfl | with_reducible repeat (first | assumption | omega | apply S_I | apply S_L | apply S_D | apply ob_I | apply ob_L | apply ob_D | apply ob_R | apply ax_I | apply ax_L | apply ax_D | apply ax_R | apply o303 | apply o307 | apply o302 | apply o301 | apply ax304 | apply ax305 | apply ax306 | apply ax308 | apply ax309 | apply ax310 | apply lt_S | apply ar305 | apply ar308 | apply ar309)) only [g139_7, g139_9, g139_12, g139_13, g139_15, g139_16, g139_19, g139_20, g139_21, g139_22, g139_25, g139_28, g139_31, nI_ltI, nI_leI, nI_eq, nI_add, nI_sub, nI_lt0, nI_e0, nI_m1, m1_nI, Nat.reduceEqDiff, Nat.reduceLT, Nat.reduceLeDiff, Nat.reduceAdd, Nat.reduceSub, Nat.reduceMul, ↓reduceIte, eq_self, show ¬ 64 ≤ 8 * k by omega, bt_x, lN_z, c, Nat.add_zero, Nat.mul_add, Nat.mul_one]
    · simp (disch := first | with_reducible assumption | omega | exact Or.inl rfl | exact Or.inr rfl | exact bI_01 | exact c_cat | exact vt_ref | exact vt_null | rfl | with_reducible repeat (first | assumption | omega | apply S_I | apply S_L | apply S_D | apply ob_I | apply ob_L | apply ob_D | apply ob_R | apply ax_I | apply ax_L | apply ax_D | apply ax_R | apply o303 | apply o307 | apply o302 | apply o301 | apply ax304 | apply ax305 | apply ax306 | apply ax308 | apply ax309 | apply ax310 | apply lt_S | apply ar305 | apply ar308 | apply ar309)) only [g139_7, g139_9, g139_12, g139_13, g139_15, g139_16, g139_19, g139_20, g139_21, g139_22, g139_25, g139_28, g139_31, nI_ltI, nI_leI, nI_eq, nI_add, nI_sub, nI_lt0, nI_e0, nI_m1, m1_nI, Nat.reduceEqDiff, Nat.reduceLT, Nat.reduceLeDiff, Nat.reduceAdd, Nat.reduceSub, Nat.reduceMul, ↓reduceIte, eq_self, show ¬ 64 ≤ 8 * k by omega, bt_x, lN_z, c, Nat.mul_add, Nat.mul_one]
theorem m_cnt (S : am_S h) : ∀ r k (v5 : Option Value), 8 - k = r → k ≤ 8 → (am_J d 172 5 [some (.ref 349), some (.long v), none, some (.int (nI (bs v k).length)), some (.int (nI k)), v5] [] h Q ↔ am_J d 172 42 [some (.ref 349), some (.long v), none, some (.int (nI (bs v 8).length)), some (.int (nI 8)), v5] [] h Q) := by
  intro r
  induction r with
  | zero =>
    intro k v5 hr hk
    obtain rfl : k = 8 := by omega
    rw [g172_5]
    simp (disch := first | with_reducible assumption | omega | exact Or.inl rfl | exact Or.inr rfl | exact bI_01 | exact c_cat | exact vt_ref | exact vt_null | rfl | with_reducible repeat (first | assumption | omega | apply S_I | apply S_L | apply S_D | apply ob_I | apply ob_L | apply ob_D | apply ob_R | apply ax_I | apply ax_L | apply ax_D | apply ax_R | apply o303 | apply o307 | apply o302 | apply o301 | apply ax304 | apply ax305 | apply ax306 | apply ax308 | apply ax309 | apply ax310 | apply lt_S | apply ar305 | apply ar308 | apply ar309)) only [g172_7, g172_9, g172_12, g172_13, g172_14, g172_16, g172_18, g172_19, g172_20, g172_23, g172_24, g172_25, g172_26, g172_29, g172_30, g172_33, g172_34, g172_35, g172_36, g172_39, nI_ltI, nI_leI, nI_eq, nI_add, nI_sub, nI_lt0, nI_e0, nI_m1, m1_nI, Nat.reduceEqDiff, Nat.reduceLT, Nat.reduceLeDiff, Nat.reduceAdd, Nat.reduceSub, Nat.reduceMul, ↓reduceIte, eq_self, Nat.le_refl]
  | succ r ih =>
    intro k v5 hr hk
    rw [← ih (k + 1) v5 (by omega) (by omega), g172_5]
    have hb := @bt_lt v k
    have el : (bs v (k + 1)).length = (bs v k).length + if bt v k = 0 then 0 else 1 := by
      show (bs v k ++ if bt v k = 0 then [] else [bt v k]).length = _
      rw [List.length_append]
      split <;> rfl
    rw [el]
    by_cases c : bt v k = 0
    · simp (disch := first | with_reducible assumption | omega | exact Or.inl rfl | exact Or.inr rfl | exact bI_01 | exact c_cat | exact vt_ref | exact vt_null | rfl | with_reducible repeat (first | assumption | omega | apply S_I | apply S_L | apply S_D | apply ob_I | apply ob_L | apply ob_D | apply ob_R | apply ax_I | apply ax_L | apply ax_D | apply ax_R | apply o303 | apply o307 | apply o302 | apply o301 | apply ax304 | apply ax305 | apply ax306 | apply ax308 | apply ax309 | apply ax310 | apply lt_S | apply ar305 | apply ar308 | apply ar309)) only [g172_7, g172_9, g172_12, g172_13, g172_14, g172_16, g172_18, g172_19, g172_20, g172_23, g172_24, g172_25, g172_26, g172_29, g172_30, g172_33, g172_34, g172_35, g172_36, g172_39, nI_ltI, nI_leI, nI_eq, nI_add, nI_sub, nI_lt0, nI_e0, nI_m1, m1_nI, Nat.reduceEqDiff, Nat.reduceLT, Nat.reduceLeDiff, Nat.reduceAdd, Nat.reduceSub, Nat.reduceMul, ↓reduceIte, eq_self, nI_mul, show ¬ 8 ≤ k by omega, bt_m, lN_z, c, Nat.add_zero]
    · simp (disch := first | with_reducible assumption | omega | exact Or.inl rfl | exact Or.inr rfl | exact bI_01 | exact c_cat | exact vt_ref | exact vt_null | rfl | with_reducible repeat (first | assumption | omega | apply S_I | apply S_L | apply S_D | apply ob_I | apply ob_L | apply ob_D | apply ob_R | apply ax_I | apply ax_L | apply ax_D | apply ax_R | apply o303 | apply o307 | apply o302 | apply o301 | apply ax304 | apply ax305 | apply ax306 | apply ax308 | apply ax309 | apply ax310 | apply lt_S | apply ar305 | apply ar308 | apply ar309)) only [g172_7, g172_9, g172_12, g172_13, g172_14, g172_16, g172_18, g172_19, g172_20, g172_23, g172_24, g172_25, g172_26, g172_29, g172_30, g172_33, g172_34, g172_35, g172_36, g172_39, nI_ltI, nI_leI, nI_eq, nI_add, nI_sub, nI_lt0, nI_e0, nI_m1, m1_nI, Nat.reduceEqDiff, Nat.reduceLT, Nat.reduceLeDiff, Nat.reduceAdd, Nat.reduceSub, Nat.reduceMul, ↓reduceIte, eq_self, nI_mul, show ¬ 8 ≤ k by omega, bt_m, lN_z, c]
theorem x_put (S : am_S h) (hn : n + (bs v 8).length ≤ 240) : ∀ r k (v5 : Option Value) g, 8 - k = r → k ≤ 8 → am_fr (fun a => a = 5 ∨ a = 6) h g → (∀ j, j ≠ 1 → am_I g 5 j = am_I h 5 j) → tX g (tt t n (bs v k)) (n + (bs v k).length) → ∃ g', (∀ Q, am_J (d + 1) 139 55 [some (.ref 4), some (.long v), none, some (.int x), some (.int (nI (8 * k))), v5] [] g Q ↔ Q (some (.int (nI (n + (bs v 8).length)))) g') ∧ am_fr (fun a => a = 5 ∨ a = 6) h g' ∧ (∀ j, j ≠ 1 → am_I g' 5 j = am_I h 5 j) ∧ tX g' (tt t n (bs v 8)) (n + (bs v 8).length) := by
  intro r
  induction r with
  | zero =>
    intro k v5 g hr hk Fr e5 T
    obtain rfl : k = 8 := by omega
    have Sg := fr_S Fr S
    have T1 := T.1
    refine ⟨g, fun Q => ?_, Fr, e5, T⟩
    rw [g139_55]
    simp (disch := first | with_reducible assumption | omega | exact Or.inl rfl | exact Or.inr rfl | exact bI_01 | exact c_cat | exact vt_ref | exact vt_null | rfl | with_reducible repeat (first | assumption | omega | apply S_I | apply S_L | apply S_D | apply ob_I | apply ob_L | apply ob_D | apply ob_R | apply ax_I | apply ax_L | apply ax_D | apply ax_R | apply o303 | apply o307 | apply o302 | apply o301 | apply ax304 | apply ax305 | apply ax306 | apply ax308 | apply ax309 | apply ax310 | apply lt_S | apply ar305 | apply ar308 | apply ar309)) only [g139_57, g139_59, g139_62, g139_63, g139_65, g139_66, g139_69, g139_70, g139_71, g139_73, g139_75, g139_78, g139_79, g139_82, g139_84, g139_87, g139_90, g139_93, g139_94, g139_97, g139_100, nI_ltI, nI_leI, nI_eq, nI_add, nI_sub, nI_lt0, nI_e0, nI_m1, m1_nI, Nat.reduceEqDiff, Nat.reduceLT, Nat.reduceLeDiff, Nat.reduceAdd, Nat.reduceSub, Nat.reduceMul, ↓reduceIte, eq_self, Nat.le_refl, T1]
  | succ r ih =>
    intro k v5 g hr hk Fr e5 T
    have Sg := fr_S Fr S
    have hb := @bt_lt v k
    have el : bs v (k + 1) = bs v k ++ if bt v k = 0 then [] else [bt v k] := rfl
    have hle := bs_le8 (v := v) (8 - (k + 1)) (k + 1) rfl (by omega)
    obtain ⟨t1, t2, t3⟩ := T
    by_cases c : bt v k = 0
    · rw [if_pos c, List.append_nil] at el
      obtain ⟨g', r', rest⟩ := ih (k + 1) (some (.int (nI 0))) g (by omega) (by omega) Fr e5 (by rw [el]; exact ⟨t1, t2, t3⟩)
      refine ⟨g', fun Q => ?_, rest⟩
      rw [← r' Q, g139_55]
      simp (disch := first | with_reducible assumption | omega | exact Or.inl rfl | exact Or.inr rfl | exact bI_01 | exact c_cat | exact vt_ref | exact vt_null | rfl | with_reducible repeat (first | assumption | omega | apply S_I | apply S_L | apply S_D | apply ob_I | apply ob_L | apply ob_D | apply ob_R | apply ax_I | apply ax_L | apply ax_D | apply ax_R | apply o303 | apply o307 | apply o302 | apply o301 | apply ax304 | apply ax305 | apply ax306 | apply ax308 | apply ax309 | apply ax310 | apply lt_S | apply ar305 | apply ar308 | apply ar309)) only [g139_57, g139_59, g139_62, g139_63, g139_65, g139_66, g139_69, g139_70, g139_71, g139_73, g139_75, g139_78, g139_79, g139_82, g139_84, g139_87, g139_90, nI_ltI, nI_leI, nI_eq, nI_add, nI_sub, nI_lt0, nI_e0, nI_m1, m1_nI, Nat.reduceEqDiff, Nat.reduceLT, Nat.reduceLeDiff, Nat.reduceAdd, Nat.reduceSub, Nat.reduceMul, ↓reduceIte, eq_self, show ¬ 64 ≤ 8 * k by omega, bt_x, lN_i8, c, Nat.mul_add, Nat.mul_one]
    · rw [if_neg c] at el
      have ll : (bs v (k + 1)).length = (bs v k).length + 1 := by rw [el, List.length_append]; rfl
      have O5 : am_ob g 5 10 := am_S_ob Sg (by decide +kernel)
      have R5 : am_R g 5 0 = some 6 := am_S_rf Sg (by decide +kernel)
      have T6 : am_tg g 6 = (103, 240) := by rw [am_S_tg Sg (by decide) (by decide)]; decide +kernel
      have L6 : 6 < g.1 := am_S_lt Sg (by decide)
      have A6 : 100 ≤ (am_tg g 6).1 := by rw [T6]; decide
      have X6 : am_ax g 6 103 (n + (bs v k).length) := ax_of L6 T6 (by omega) (by omega)
      obtain ⟨g', r', rest⟩ := ih (k + 1) (some (.int (nI (bt v k)))) (am_setI (am_setI g 6 (n + (bs v k).length) (by8 (bt v k))) 5 1 (nI (n + (bs v k).length + 1))) (by omega) (by omega) (fr_I (fr_I Fr (Or.inr rfl)) (Or.inl rfl)) (fun j hj => by rw [rI_k hj, rI_a (by decide)]; exact e5 j hj) (by
        rw [ll]
        refine ⟨by rw [rI_eq]; rfl, by omega, fun j hj => ?_⟩
        by_cases cj : j = n + (bs v k).length
        · rw [el, cj, tt_last, rI_a (by decide), rI_eq]
          exact ⟨by omega, by omega, rfl⟩
        · rw [el, tt_app (by omega), rI_a (by decide), rI_k cj]
          exact t3 j (by omega))
      refine ⟨g', fun Q => ?_, rest⟩
      rw [← r' Q, g139_55]
      simp (disch := first | with_reducible assumption | omega | exact Or.inl rfl | exact Or.inr rfl | exact bI_01 | exact c_cat | exact vt_ref | exact vt_null | rfl | with_reducible repeat (first | assumption | omega | apply S_I | apply S_L | apply S_D | apply ob_I | apply ob_L | apply ob_D | apply ob_R | apply ax_I | apply ax_L | apply ax_D | apply ax_R | apply o303 | apply o307 | apply o302 | apply o301 | apply ax304 | apply ax305 | apply ax306 | apply ax308 | apply ax309 | apply ax310 | apply lt_S | apply ar305 | apply ar308 | apply ar309)) only [g139_57, g139_59, g139_62, g139_63, g139_65, g139_66, g139_69, g139_70, g139_71, g139_73, g139_75, g139_78, g139_79, g139_82, g139_84, g139_87, g139_90, g134_0, g134_1, g134_4, g134_5, g134_8, g134_9, g134_12, g134_13, g134_16, g134_17, g134_20, g134_21, g134_22, g134_23, g134_24, g134_25, g134_28, g134_29, g134_30, g134_33, Option.toList, List.nil_append, List.cons_append, va_rf, nI_ltI, nI_leI, nI_eq, nI_add, nI_sub, nI_lt0, nI_e0, nI_m1, m1_nI, Nat.reduceEqDiff, Nat.reduceLT, Nat.reduceLeDiff, Nat.reduceAdd, Nat.reduceSub, Nat.reduceMul, ↓reduceIte, eq_self, hI_I, hI_L, hI_D, hI_R, hL_I, hL_L, hL_D, hL_R, hD_I, hD_L, hD_D, hD_R, hR_I, hR_L, hR_D, ↓reduceIte, Nat.reduceEqDiff, R5, T6, t1, show ¬ 64 ≤ 8 * k by omega, show ¬ 240 ≤ n + (bs v k).length by omega, bt_x, lN_i8, c, Nat.mul_add, Nat.mul_one, toInt8_idem, by8]
theorem m_put (S : am_S h) (hn : n + (bs v 8).length ≤ 240) : ∀ r k (v5 : Option Value) g, 8 - k = r → k ≤ 8 → am_fr (fun a => a = 349 ∨ a = 350) h g → (∀ j, j ≠ 2 → am_I g 349 j = am_I h 349 j) → (∀ j, am_L g 349 j = am_L h 349 j ∧ am_D g 349 j = am_D h 349 j) → am_I g 349 2 = nI (n + (bs v k).length) → (∀ j, j < n + (bs v k).length → am_I g 350 j = nI (tt t n (bs v k) j)) → ∃ g', (∀ Q, am_J d 172 60 [some (.ref 349), some (.long v), none, some (.int x), some (.int (nI k)), v5] [] g Q ↔ Q (some (.int (nI (n + (bs v 8).length)))) g') ∧ am_fr (fun a => a = 349 ∨ a = 350) h g' ∧ (∀ j, j ≠ 2 → am_I g' 349 j = am_I h 349 j) ∧ (∀ j, am_L g' 349 j = am_L h 349 j ∧ am_D g' 349 j = am_D h 349 j) ∧ am_I g' 349 2 = nI (n + (bs v 8).length) ∧ ∀ j, j < n + (bs v 8).length → am_I g' 350 j = nI (tt t n (bs v 8) j) := by
  intro r
  induction r with
  | zero =>
    intro k v5 g hr hk Fr e5 e6 t1 t3
    obtain rfl : k = 8 := by omega
    have Sg := fr_S Fr S
    refine ⟨g, fun Q => ?_, Fr, e5, e6, t1, t3⟩
    rw [g172_60]
    simp (disch := first | with_reducible assumption | omega | exact Or.inl rfl | exact Or.inr rfl | exact bI_01 | exact c_cat | exact vt_ref | exact vt_null | rfl | with_reducible repeat (first | assumption | omega | apply S_I | apply S_L | apply S_D | apply ob_I | apply ob_L | apply ob_D | apply ob_R | apply ax_I | apply ax_L | apply ax_D | apply ax_R | apply o303 | apply o307 | apply o302 | apply o301 | apply ax304 | apply ax305 | apply ax306 | apply ax308 | apply ax309 | apply ax310 | apply lt_S | apply ar305 | apply ar308 | apply ar309)) only [g172_62, g172_64, g172_67, g172_68, g172_70, g172_72, g172_73, g172_74, g172_77, g172_78, g172_79, g172_81, g172_83, g172_86, g172_89, g172_90, g172_93, g172_94, g172_97, g172_99, g172_100, g172_101, g172_102, g172_105, g172_106, g172_107, g172_110, g172_113, g172_116, g172_117, g172_120, nI_ltI, nI_leI, nI_eq, nI_add, nI_sub, nI_lt0, nI_e0, nI_m1, m1_nI, Nat.reduceEqDiff, Nat.reduceLT, Nat.reduceLeDiff, Nat.reduceAdd, Nat.reduceSub, Nat.reduceMul, ↓reduceIte, eq_self, Nat.le_refl, t1]
  | succ r ih =>
    intro k v5 g hr hk Fr e5 e6 t1 t3
    have Sg := fr_S Fr S
    have hb := @bt_lt v k
    have el : bs v (k + 1) = bs v k ++ if bt v k = 0 then [] else [bt v k] := rfl
    have hle := bs_le8 (v := v) (8 - (k + 1)) (k + 1) rfl (by omega)
    by_cases c : bt v k = 0
    · rw [if_pos c, List.append_nil] at el
      obtain ⟨g', r', rest⟩ := ih (k + 1) (some (.int (nI 0))) g (by omega) (by omega) Fr e5 e6 (by rw [el]; exact t1) (by rw [el]; exact t3)
      refine ⟨g', fun Q => ?_, rest⟩
      rw [← r' Q, g172_60]
      simp (disch := first | with_reducible assumption | omega | exact Or.inl rfl | exact Or.inr rfl | exact bI_01 | exact c_cat | exact vt_ref | exact vt_null | rfl | with_reducible repeat (first | assumption | omega | apply S_I | apply S_L | apply S_D | apply ob_I | apply ob_L | apply ob_D | apply ob_R | apply ax_I | apply ax_L | apply ax_D | apply ax_R | apply o303 | apply o307 | apply o302 | apply o301 | apply ax304 | apply ax305 | apply ax306 | apply ax308 | apply ax309 | apply ax310 | apply lt_S | apply ar305 | apply ar308 | apply ar309)) only [g172_62, g172_64, g172_67, g172_68, g172_70, g172_72, g172_73, g172_74, g172_77, g172_78, g172_79, g172_81, g172_83, g172_86, g172_89, g172_90, g172_93, g172_94, g172_97, g172_99, g172_100, g172_101, g172_102, g172_105, g172_106, g172_107, g172_110, g172_113, nI_ltI, nI_leI, nI_eq, nI_add, nI_sub, nI_lt0, nI_e0, nI_m1, m1_nI, Nat.reduceEqDiff, Nat.reduceLT, Nat.reduceLeDiff, Nat.reduceAdd, Nat.reduceSub, Nat.reduceMul, ↓reduceIte, eq_self, nI_mul, show ¬ 8 ≤ k by omega, bt_m, lN_i8, c]
    · rw [if_neg c] at el
      have ll : (bs v (k + 1)).length = (bs v k).length + 1 := by rw [el, List.length_append]; rfl
      obtain ⟨g', r', rest⟩ := ih (k + 1) (some (.int (nI (bt v k)))) (am_setI (am_setI g 350 (n + (bs v k).length) (nI (bt v k))) 349 2 (nI (n + (bs v k).length + 1))) (by omega) (by omega) (fr_I (fr_I Fr (Or.inr rfl)) (Or.inl rfl)) (fun j hj => by rw [rI_k hj, rI_a (by decide)]; exact e5 j hj) e6 (by rw [ll, rI_eq]; rfl) (by
        rw [ll]
        intro j hj
        by_cases cj : j = n + (bs v k).length
        · rw [el, cj, tt_last, rI_a (by decide), rI_eq]
        · rw [el, tt_app (by omega), rI_a (by decide), rI_k cj]
          exact t3 j (by omega))
      refine ⟨g', fun Q => ?_, rest⟩
      rw [← r' Q, g172_60]
      simp (disch := first | with_reducible assumption | omega | exact Or.inl rfl | exact Or.inr rfl | exact bI_01 | exact c_cat | exact vt_ref | exact vt_null | rfl | with_reducible repeat (first | assumption | omega | apply S_I | apply S_L | apply S_D | apply ob_I | apply ob_L | apply ob_D | apply ob_R | apply ax_I | apply ax_L | apply ax_D | apply ax_R | apply o303 | apply o307 | apply o302 | apply o301 | apply ax304 | apply ax305 | apply ax306 | apply ax308 | apply ax309 | apply ax310 | apply lt_S | apply ar305 | apply ar308 | apply ar309)) only [g172_62, g172_64, g172_67, g172_68, g172_70, g172_72, g172_73, g172_74, g172_77, g172_78, g172_79, g172_81, g172_83, g172_86, g172_89, g172_90, g172_93, g172_94, g172_97, g172_99, g172_100, g172_101, g172_102, g172_105, g172_106, g172_107, g172_110, g172_113, Option.toList, List.nil_append, List.cons_append, va_rf, nI_ltI, nI_leI, nI_eq, nI_add, nI_sub, nI_lt0, nI_e0, nI_m1, m1_nI, Nat.reduceEqDiff, Nat.reduceLT, Nat.reduceLeDiff, Nat.reduceAdd, Nat.reduceSub, Nat.reduceMul, ↓reduceIte, eq_self, hI_I, hI_L, hI_D, hI_R, hL_I, hL_L, hL_D, hL_R, hD_I, hD_L, hD_D, hD_R, hR_I, hR_L, hR_D, ↓reduceIte, Nat.reduceEqDiff, nI_mul, t1, show ¬ 8 ≤ k by omega, bt_m, lN_i8, c]
end TYP

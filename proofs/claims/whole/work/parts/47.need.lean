/-! THE CLASS: needs, ranges -/
set_option maxRecDepth 20000 in
theorem bit_shr6 : ∀ c, c < 256 → nI c >>> (nI 6 &&& 31) = nI (c / 64) := by decide +kernel
set_option maxRecDepth 20000 in
theorem bit_and63 : ∀ c, c < 256 → nI c &&& nI 63 = nI (c % 64) := by decide +kernel
set_option maxRecDepth 20000 in
theorem bit_one : ∀ j, j < 64 → ∀ i, i < 64 → (lN 1 <<< (lN j &&& 63)).toBitVec.getLsbD i = decide (i = j) := by decide +kernel
theorem bit_get {x : Int64} {j : Nat} (hj : j < 64) : ((x.toUInt64 >>> ((lN j).toUInt64 &&& Int64.toUInt64 63)).toInt64 &&& lN 1 = lN 0) ↔ x.toBitVec.getLsbD j = false := by
  have e : ((lN j).toUInt64 &&& Int64.toUInt64 63) = UInt64.ofNat j := by
    have : ∀ j, j < 64 → ((lN j).toUInt64 &&& Int64.toUInt64 63) = UInt64.ofNat j := by decide +kernel
    exact this j hj
  rw [e]
  have hb : ((x.toUInt64 >>> UInt64.ofNat j).toInt64 &&& lN 1).toBitVec = (x.toBitVec >>> j) &&& 1#64 := by
    rw [Int64.toBitVec_and]
    congr 1
    show (x.toUInt64 >>> UInt64.ofNat j).toBitVec = _
    rw [UInt64.toBitVec_shiftRight]
    have : ∀ j, j < 64 → ((UInt64.ofNat j).toBitVec % 64).toNat = j := by decide +kernel
    rw [BitVec.ushiftRight_eq', this j hj]
    rfl
  constructor
  · intro h
    have h2 : (x.toBitVec >>> j) &&& 1#64 = 0#64 := hb.symm.trans (congrArg Int64.toBitVec h)
    have h3 := congrArg (fun y => y.getLsbD 0) h2
    simpa using h3
  · intro h
    apply Int64.toBitVec_inj.mp
    rw [hb]
    apply BitVec.eq_of_getLsbD_eq
    intro i hi
    by_cases h0 : i = 0
    · subst h0; simp [h]; rfl
    · have : (1#64).getLsbD i = false := by
        simp [BitVec.getLsbD_one, h0]
      rw [BitVec.getLsbD_and, this, Bool.and_false]
      show false = (lN 0).toBitVec.getLsbD i
      rw [show (lN 0).toBitVec = 0#64 from rfl]; simp
section NEED
variable {d : Nat} {h g : am_H} {Q : Option Value → am_H → Prop} {v0 v1 v2 v3 v4 : Option Value} {t : Nat → Nat} {n : Nat} {md : Nat ⊕ (Nat × Nat)} {C : List (Int32 × Int64)} {P : List Int32} {N : List Nat} {F k o ln lp : Int32}
theorem x_noCellN {c : Nat} (hc : c < 256) : am_J d 142 0 [some (.int (nI c))] [] h Q ↔ Q (some (.int (nI 0))) h := by
  simp (disch := first | with_reducible assumption | omega | exact Or.inl rfl | exact Or.inr rfl | exact bI_01 | exact c_cat | rfl | with_reducible repeat (first | assumption | apply S_I | apply S_L | apply S_D | apply ob_I | apply ob_L | apply ob_D | apply ob_R | apply ax_I | apply ax_L | apply ax_D | apply ax_R)) only [g142_0, g142_1, g142_4, g142_5, g142_8, g142_11, g142_12, g142_15, g142_16, nI_ltI, nI_leI, nI_eq, nI_add, nI_sub, nI_lt0, nI_e0, nI_m1, m1_nI, Nat.reduceEqDiff, Nat.reduceLT, Nat.reduceLeDiff, Nat.reduceAdd, Nat.reduceSub, Nat.reduceMul, ↓reduceIte, eq_self, hc]
/-- hasNeed of any code: a, its bits at b -/
theorem x_hasNeed {a b c : Nat} (O : am_ob h a 1) (R : am_R h a 4 = some b) (X : ∀ q, q < 4 → am_ax h b 101 q) (hc : c < 256) : am_J (d + 1) 13 0 [some (.ref a), some (.int (nI c))] [] h Q ↔ Q (some (.int (bI ((am_L h b (c / 64)).toBitVec.getLsbD (c % 64))))) h := by
  have X1 := X (c / 64) (by omega)
  cases hb : (am_L h b (c / 64)).toBitVec.getLsbD (c % 64) with
  | false =>
    have hz := (bit_get (x := am_L h b (c / 64)) (j := c % 64) (by omega)).mpr hb
    simp (disch := first | with_reducible assumption | omega | exact Or.inl rfl | exact Or.inr rfl | exact bI_01 | exact c_cat | rfl | with_reducible repeat (first | assumption | apply S_I | apply S_L | apply S_D | apply ob_I | apply ob_L | apply ob_D | apply ob_R | apply ax_I | apply ax_L | apply ax_D | apply ax_R)) only [g13_0, g13_1, g13_4, g13_7, g13_8, g13_11, g13_12, g13_14, g13_15, g13_16, g13_17, g13_19, g13_20, g13_21, g13_22, g13_23, g13_24, g13_25, g13_28, g13_29, g13_32, g13_33, R, Option.toList, List.nil_append, List.cons_append, va_rf, x_noCellN, hc, nI_e0, bit_shr6, bit_and63, nI_l, hz, lg_cmp0, bI_f, ↓reduceIte, eq_self]
  | true =>
    have hz : ¬ _ := fun q => by rw [(bit_get (x := am_L h b (c / 64)) (j := c % 64) (by omega)).mp q] at hb; cases hb
    simp (disch := first | with_reducible assumption | omega | exact Or.inl rfl | exact Or.inr rfl | exact bI_01 | exact c_cat | rfl | with_reducible repeat (first | assumption | apply S_I | apply S_L | apply S_D | apply ob_I | apply ob_L | apply ob_D | apply ob_R | apply ax_I | apply ax_L | apply ax_D | apply ax_R)) only [g13_0, g13_1, g13_4, g13_7, g13_8, g13_11, g13_12, g13_14, g13_15, g13_16, g13_17, g13_19, g13_20, g13_21, g13_22, g13_23, g13_24, g13_25, g13_28, g13_29, g13_32, g13_33, R, Option.toList, List.nil_append, List.cons_append, va_rf, x_noCellN, hc, nI_e0, bit_shr6, bit_and63, nI_l, hz, lg_cmp0, bI_t, ↓reduceIte, eq_self]
theorem nodup_le : ∀ (n : Nat) (l : List Nat), l.Nodup → (∀ x, x ∈ l → x < n) → l.length ≤ n := by
  intro n
  induction n with
  | zero =>
    intro l _ hl
    cases l with
    | nil => exact Nat.le_refl _
    | cons x l => exact absurd (hl x List.mem_cons_self) (Nat.not_lt_zero _)
  | succ n ih =>
    intro l hd hl
    by_cases hm : n ∈ l
    · have h1 := ih (l.erase n) (hd.erase n) (fun x hx => by
        have := (hd.mem_erase_iff).mp hx
        have := hl x this.2
        omega)
      rw [List.length_erase_of_mem hm] at h1
      omega
    · exact Nat.le_succ_of_le (ih l hd (fun x hx => by
        have := hl x hx
        have : x ≠ n := fun e => hm (e ▸ hx)
        omega))
def nadd (N : List Nat) (c : Nat) : List Nat := if c ∈ N then N else N ++ [c]
theorem x_addNeed (X : PX h t n md C P N F k o ln lp) {c : Nat} (hc : c < 256) : ∃ h', am_run (d + 2) 12 [some (.ref 303), some (.int (nI c))] h none h' ∧ PX h' t n md C P (nadd N c) F k o ln lp ∧ am_fr (fun a => 303 ≤ a ∧ a ≤ 309) h h' := by
  obtain ⟨S, T, L, hC, hP, hN, e1, e2, -⟩ := id X
  obtain ⟨R0, R1, R2, R3, R4, R5⟩ := S303r S
  have T9 := tg309 S
  obtain ⟨n1, n2, n3, n4, n5⟩ := hN
  have HN : ∀ Q, am_J (d + 1) 13 0 [some (.ref 303), some (.int (nI c))] [] h Q ↔ _ := fun Q => x_hasNeed (d := d) (o303 S) R4 (fun q hq => ax304 S hq) hc
  rw [n5 c hc] at HN
  by_cases hm : c ∈ N
  · rw [show nadd N c = N from if_pos hm]
    rw [decide_eq_true hm] at HN
    refine ⟨h, fun Q => ?_, X, fr_refl⟩
    simp (disch := first | with_reducible assumption | omega | exact Or.inl rfl | exact Or.inr rfl | exact bI_01 | exact c_cat | rfl | with_reducible repeat (first | assumption | omega | apply S_I | apply S_L | apply S_D | apply ob_I | apply ob_L | apply ob_D | apply ob_R | apply ax_I | apply ax_L | apply ax_D | apply ax_R | apply o303 | apply o307 | apply o302 | apply o301 | apply ax304 | apply ax305 | apply ax306 | apply ax308 | apply ax309 | apply ax310 | apply lt_S | apply ar305 | apply ar308 | apply ar309)) only [g12_0, g12_1, g12_4, g12_7, g12_8, g12_9, g12_12, g12_15, g12_16, g12_19, g12_20, g12_23, g12_24, g12_27, g12_28, g12_29, g12_32, g12_33, g12_35, g12_36, g12_37, g12_38, g12_39, g12_40, g12_42, g12_43, g12_44, g12_45, g12_46, g12_47, g12_50, g12_51, g12_54, g12_55, g12_56, g12_57, g12_58, g12_61, g12_62, g12_63, g12_66, Option.toList, List.nil_append, List.cons_append, va_rf, x_noCellN, hc, nI_ltI, nI_leI, nI_eq, nI_add, nI_sub, nI_lt0, nI_e0, nI_m1, m1_nI, Nat.reduceEqDiff, Nat.reduceLT, Nat.reduceLeDiff, Nat.reduceAdd, Nat.reduceSub, Nat.reduceMul, ↓reduceIte, eq_self, HN, bI_t]
  · rw [show nadd N c = N ++ [c] from if_neg hm]
    rw [decide_eq_false hm] at HN
    have hl : N.length < 256 := by
      have := nodup_le 256 (c :: N) (List.nodup_cons.mpr ⟨hm, n3⟩) (fun x hx => by
        rcases List.mem_cons.mp hx with e | e
        · omega
        · exact n4 x e)
      rw [List.length_cons] at this; omega
    have Fr : am_fr (fun a => 303 ≤ a ∧ a ≤ 309) h (am_setI (am_setI (am_setL h 304 (c / 64) (am_L h 304 (c / 64) ||| (lN 1 <<< (lN (c % 64) &&& 63)))) 309 N.length (nI c)) 303 6 (nI (N.length + 1))) := fr_I (fr_I (fr_L fr_refl (by omega)) (by omega)) (by omega)
    refine ⟨_, fun Q => ?_, PX_of Fr X (XC_keep (by simp only [hI_I, hI_L, hI_D, hI_R, hL_I, hL_L, hL_D, hL_R, hD_I, hD_L, hD_D, hD_R, hR_I, hR_L, hR_D, ↓reduceIte, Nat.reduceEqDiff]) (fun i => by simp only [hI_I, hI_L, hI_D, hI_R, hL_I, hL_L, hL_D, hL_R, hD_I, hD_L, hD_D, hD_R, hR_I, hR_L, hR_D, ↓reduceIte, Nat.reduceEqDiff]) (fun i => by simp only [hI_I, hI_L, hI_D, hI_R, hL_I, hL_L, hL_D, hL_R, hD_I, hD_L, hD_D, hD_R, hR_I, hR_L, hR_D, ↓reduceIte, Nat.reduceEqDiff]) hC) (XP_keep (by simp only [hI_I, hI_L, hI_D, hI_R, hL_I, hL_L, hL_D, hL_R, hD_I, hD_L, hD_D, hD_R, hR_I, hR_L, hR_D, ↓reduceIte, Nat.reduceEqDiff]) (fun i => by simp only [hI_I, hI_L, hI_D, hI_R, hL_I, hL_L, hL_D, hL_R, hD_I, hD_L, hD_D, hD_R, hR_I, hR_L, hR_D, ↓reduceIte, Nat.reduceEqDiff]) hP) ⟨?_, ?_, ?_, ?_, ?_⟩ (by simp only [hI_I, hI_L, hI_D, hI_R, hL_I, hL_L, hL_D, hL_R, hD_I, hD_L, hD_D, hD_R, hR_I, hR_L, hR_D, ↓reduceIte, Nat.reduceEqDiff, e1]) (by simp only [hI_I, hI_L, hI_D, hI_R, hL_I, hL_L, hL_D, hL_R, hD_I, hD_L, hD_D, hD_R, hR_I, hR_L, hR_D, ↓reduceIte, Nat.reduceEqDiff, e2]), Fr⟩
    · simp (disch := first | with_reducible assumption | omega | exact Or.inl rfl | exact Or.inr rfl | exact bI_01 | exact c_cat | rfl | with_reducible repeat (first | assumption | omega | apply S_I | apply S_L | apply S_D | apply ob_I | apply ob_L | apply ob_D | apply ob_R | apply ax_I | apply ax_L | apply ax_D | apply ax_R | apply o303 | apply o307 | apply o302 | apply o301 | apply ax304 | apply ax305 | apply ax306 | apply ax308 | apply ax309 | apply ax310 | apply lt_S | apply ar305 | apply ar308 | apply ar309)) only [g12_0, g12_1, g12_4, g12_7, g12_8, g12_9, g12_12, g12_15, g12_16, g12_19, g12_20, g12_23, g12_24, g12_27, g12_28, g12_29, g12_32, g12_33, g12_35, g12_36, g12_37, g12_38, g12_39, g12_40, g12_42, g12_43, g12_44, g12_45, g12_46, g12_47, g12_50, g12_51, g12_54, g12_55, g12_56, g12_57, g12_58, g12_61, g12_62, g12_63, g12_66, R3, R4, Option.toList, List.nil_append, List.cons_append, va_rf, hI_I, hI_L, hI_D, hI_R, hL_I, hL_L, hL_D, hL_R, hD_I, hD_L, hD_D, hD_R, hR_I, hR_L, hR_D, ↓reduceIte, Nat.reduceEqDiff, x_noCellN, hc, nI_ltI, nI_leI, nI_eq, nI_add, nI_sub, nI_lt0, nI_e0, nI_m1, m1_nI, Nat.reduceEqDiff, Nat.reduceLT, Nat.reduceLeDiff, Nat.reduceAdd, Nat.reduceSub, Nat.reduceMul, ↓reduceIte, eq_self, HN, bI_f, n1, T9, hl, bit_shr6, bit_and63, nI_l]
    · simp only [hI_I, hI_L, hI_D, hI_R, hL_I, hL_L, hL_D, hL_R, hD_I, hD_L, hD_D, hD_R, hR_I, hR_L, hR_D, ↓reduceIte, Nat.reduceEqDiff, List.length_append, List.length_cons, List.length_nil]
    · intro i x hx
      rcases getElem?_snoc hx with ⟨hi, hx⟩ | ⟨rfl, rfl⟩
      · simp only [hI_I, hI_L, ↓reduceIte, Nat.reduceEqDiff, if_neg (show ¬ i = N.length by omega)]
        exact n2 i x hx
      · simp only [hI_I, hI_L, hI_D, hI_R, hL_I, hL_L, hL_D, hL_R, hD_I, hD_L, hD_D, hD_R, hR_I, hR_L, hR_D, ↓reduceIte, Nat.reduceEqDiff]
    · rw [List.nodup_append]
      refine ⟨n3, List.nodup_cons.mpr ⟨List.not_mem_nil, List.nodup_nil⟩, fun a ha b hb => ?_⟩
      rw [List.mem_singleton] at hb
      intro e; exact hm (hb ▸ e ▸ ha)
    · intro x hx
      rcases List.mem_append.mp hx with e | e
      · exact n4 x e
      · rw [List.mem_singleton] at e; omega
    · intro x hx
      have hd : decide (x ∈ N ++ [c]) = (decide (x ∈ N) || decide (x = c)) := by simp
      rw [hd]
      simp only [hL_I]
      by_cases e : x / 64 = c / 64
      · rw [e, rL_eq, Int64.toBitVec_or, BitVec.getLsbD_or, ← e, n5 x hx, bit_one (c % 64) (by omega) (x % 64) (by omega)]
        by_cases h1 : x ∈ N <;> by_cases h2 : x = c
        · simp [h1]
        · simp [h1]
        · simp [h2]
        · have : ¬ x % 64 = c % 64 := by omega
          simp [h1, h2, this]
      · rw [rL_k e, n5 x hx]
        have : ¬ x = c := fun q => e (by rw [q])
        simp [this]
end NEED

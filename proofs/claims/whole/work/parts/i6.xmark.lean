/-! THE CLASS: what has changed, what is next -/
set_option maxRecDepth 20000 in
theorem b32_shr {x : Int32} {j : Nat} (hj : j < 4) : ((x >>> (nI j &&& 31)) &&& nI 1 = 0) ↔ b32 x j = false := by
  have e : (x >>> (nI j &&& 31)).toBitVec = x.toBitVec.sshiftRight j := by
    rw [Int32.toBitVec_shiftRight]
    have : ∀ j, j < 4 → ((nI j &&& 31).toBitVec.smod 32).toNat = j := by decide +kernel
    show x.toBitVec.sshiftRight ((nI j &&& 31).toBitVec.smod 32).toNat = _
    rw [this j hj]
  have e0 : b32 (x >>> (nI j &&& 31)) 0 = b32 x j := by
    unfold b32
    rw [e, BitVec.getLsbD_sshiftRight]
    have : 0 + j < 32 := by omega
    simp [show j < 32 by omega]
  rw [← nI0, b32_and0, ← e0]
  have h1 : ∀ j, j < 32 → b32 (nI 1) j = decide (j = 0) := by decide +kernel
  constructor
  · intro h
    rw [Bool.eq_false_iff]
    intro q
    exact h 0 (by decide) ⟨q, by decide⟩
  · intro h k hk q
    have := q.2
    rw [h1 k hk] at this
    have := of_decide_eq_true this
    subst this
    rw [h] at q; cases q.1
section XMK
variable {d n : Nat} {g h : am_H} {mb : Nat → Bool} {m : Nat → Nat} {ea : Nat → Nat} {nl : Nat → List Nat} {r td ro : Nat → Bool} {Gc : Nat → List (Nat × Nat)} {x y : Int32}
/-- is a cell with a formula stale? -/
theorem x_isStale (S : am_S g) {c e : Nat} (hc : c < 256) (er : am_R g (22 + c) 3 = some e) (C : CN g e (nl c)) (hl : ∀ y, y ∈ nl c → y < 256) (B : SB x r) (e8 : am_I g e 8 = (Gc c).foldl gF (nI 0)) (hG : ∀ z, z ∈ Gc c → z.1 < 32) (T : ∀ y, y < 256 → am_I g (22 + y) 7 = bI (td y)) :
    am_run d 118 [some (.ref 10), some (.ref (22 + c)), some (.int x), none, none, none] g (some (.int (bI ((td c || hit r (Gc c)) || (nl c).any td)))) g := by
  have O1 := CN_ob C
  have O := o22 S hc
  obtain ⟨c1, c2, c3, c4, c5, c6, c7, c8, c9, c10, c11⟩ := id C
  have fin : orU (fun i => td ((nl c).getD i 0)) (nl c).length = (nl c).any td := by
    rw [Bool.eq_iff_iff, orU_iff, List.any_eq_true]
    constructor
    · rintro ⟨i, h1, h2⟩
      have : (nl c).getD i 0 = (nl c)[i] := by rw [List.getD_eq_getElem?_getD, List.getElem?_eq_getElem h1]; rfl
      rw [this] at h2
      exact ⟨_, List.getElem_mem h1, h2⟩
    · rintro ⟨y, h1, h2⟩
      obtain ⟨i, i1, i2⟩ := List.mem_iff_getElem.mp h1
      refine ⟨i, i1, ?_⟩
      rw [List.getD_eq_getElem?_getD, List.getElem?_eq_getElem i1]
      show td (nl c)[i] = true
      rw [i2]; exact h2
  rw [← fin]
  have L : ∀ q k b0, (nl c).length - k = q → k ≤ (nl c).length → ∀ Q, am_J d 118 37 [some (.ref 10), some (.ref (22 + c)), some (.int x), some (.ref e), some (.int (bI (b0 || orU (fun i => td ((nl c).getD i 0)) k))), some (.int (nI k))] [] g Q ↔ Q (some (.int (bI (b0 || orU (fun i => td ((nl c).getD i 0)) (nl c).length)))) g := by
    intro q
    induction q with
    | zero =>
      intro k b0 hq hk Q
      obtain rfl : k = (nl c).length := by omega
      rw [g118_37]
      simp (disch := first | with_reducible assumption | omega | exact Or.inl rfl | exact Or.inr rfl | exact bI_01 | exact c_cat | exact vt_ref | exact vt_null | rfl | with_reducible repeat (first | assumption | omega | apply S_I | apply S_L | apply S_D | apply ob_I | apply ob_L | apply ob_D | apply ob_R | apply ax_I | apply ax_L | apply ax_D | apply ax_R | apply o303 | apply o307 | apply o302 | apply o301 | apply ax304 | apply ax305 | apply ax306 | apply ax308 | apply ax309 | apply ax310 | apply lt_S | apply ar305 | apply ar308 | apply ar309)) only [g118_39, g118_40, g118_43, g118_71, g118_73, Option.toList, List.nil_append, List.cons_append, va_rf, nI_ltI, nI_leI, nI_eq, nI_add, nI_sub, nI_lt0, nI_e0, nI_m1, m1_nI, Nat.reduceEqDiff, Nat.reduceLT, Nat.reduceLeDiff, Nat.reduceAdd, Nat.reduceSub, Nat.reduceMul, ↓reduceIte, eq_self, c5, Nat.le_refl]
    | succ q ih =>
      intro k b0 hq hk Q
      have hk' : k < (nl c).length := by omega
      cases ho : (b0 || orU (fun i => td ((nl c).getD i 0)) k) with
      | true =>
        have e2 : (b0 || orU (fun i => td ((nl c).getD i 0)) (nl c).length) = true := by
          rw [Bool.or_eq_true] at ho ⊢
          exact ho.imp id (fun z => orU_up z _ hk)
        rw [e2, g118_37]
        simp (disch := first | with_reducible assumption | omega | exact Or.inl rfl | exact Or.inr rfl | exact bI_01 | exact c_cat | exact vt_ref | exact vt_null | rfl | with_reducible repeat (first | assumption | omega | apply S_I | apply S_L | apply S_D | apply ob_I | apply ob_L | apply ob_D | apply ob_R | apply ax_I | apply ax_L | apply ax_D | apply ax_R | apply o303 | apply o307 | apply o302 | apply o301 | apply ax304 | apply ax305 | apply ax306 | apply ax308 | apply ax309 | apply ax310 | apply lt_S | apply ar305 | apply ar308 | apply ar309)) only [g118_39, g118_40, g118_43, g118_46, g118_48, g118_71, g118_73, Option.toList, List.nil_append, List.cons_append, va_rf, nI_ltI, nI_leI, nI_eq, nI_add, nI_sub, nI_lt0, nI_e0, nI_m1, m1_nI, Nat.reduceEqDiff, Nat.reduceLT, Nat.reduceLeDiff, Nat.reduceAdd, Nat.reduceSub, Nat.reduceMul, ↓reduceIte, eq_self, c5, show ¬ (nl c).length ≤ k by omega, bI_t]
      | false =>
        have gk : (nl c)[k]? = some ((nl c).getD k 0) := by
          rw [List.getD_eq_getElem?_getD, List.getElem?_eq_getElem hk']; rfl
        have hy := hl _ (List.mem_of_getElem? gk)
        have e6 := c7 k _ gk
        have Xr : am_ax g (e + 6) 100 k := ax_of (by omega) c6 hk' (by omega)
        have Xc := c10_ax S hy
        have Rc := am_S_cell S hy
        have Oy := o22 S hy
        have Ty := T _ hy
        have e3 : (b0 || orU (fun i => td ((nl c).getD i 0)) (k + 1)) = td ((nl c).getD k 0) := by
          show (b0 || (orU _ k || td ((nl c).getD k 0))) = _
          rw [← Bool.or_assoc, ho, Bool.false_or]
        rw [← ih (k + 1) b0 (by omega) (by omega) Q, e3, g118_37]
        generalize (nl c).getD k 0 = y at e6 Xc Rc Oy Ty hy
        simp (disch := first | with_reducible assumption | omega | exact Or.inl rfl | exact Or.inr rfl | exact bI_01 | exact c_cat | exact vt_ref | exact vt_null | rfl | with_reducible repeat (first | assumption | omega | apply S_I | apply S_L | apply S_D | apply ob_I | apply ob_L | apply ob_D | apply ob_R | apply ax_I | apply ax_L | apply ax_D | apply ax_R | apply o303 | apply o307 | apply o302 | apply o301 | apply ax304 | apply ax305 | apply ax306 | apply ax308 | apply ax309 | apply ax310 | apply lt_S | apply ar305 | apply ar308 | apply ar309)) only [g118_39, g118_40, g118_43, g118_46, g118_48, g118_51, g118_52, g118_53, g118_56, g118_58, g118_59, g118_60, g118_63, g118_65, g118_68, Option.toList, List.nil_append, List.cons_append, va_rf, nI_ltI, nI_leI, nI_eq, nI_add, nI_sub, nI_lt0, nI_e0, nI_m1, m1_nI, Nat.reduceEqDiff, Nat.reduceLT, Nat.reduceLeDiff, Nat.reduceAdd, Nat.reduceSub, Nat.reduceMul, ↓reduceIte, eq_self, c5, show ¬ (nl c).length ≤ k by omega, bI_f, c4, e6, Rc, Ty]
  intro Q
  rw [← L (nl c).length 0 (td c || hit r (Gc c)) (Nat.sub_zero _) (Nat.zero_le _) Q]
  have T0 := T c hc
  have hz := SB_hit (G := Gc c) B hG
  rw [← e8, nI0] at hz
  have o0 : orU (fun i => td ((nl c).getD i 0)) 0 = false := rfl
  cases ht : td c with
  | true =>
    rw [ht] at T0
    simp (disch := first | with_reducible assumption | omega | exact Or.inl rfl | exact Or.inr rfl | exact bI_01 | exact c_cat | exact vt_ref | exact vt_null | rfl | with_reducible repeat (first | assumption | omega | apply S_I | apply S_L | apply S_D | apply ob_I | apply ob_L | apply ob_D | apply ob_R | apply ax_I | apply ax_L | apply ax_D | apply ax_R | apply o303 | apply o307 | apply o302 | apply o301 | apply ax304 | apply ax305 | apply ax306 | apply ax308 | apply ax309 | apply ax310 | apply lt_S | apply ar305 | apply ar308 | apply ar309)) only [g118_0, g118_1, g118_4, g118_5, g118_6, g118_6r, g118_6n, g118_9, g118_10, g118_11, g118_12, g118_15, g118_18, g118_19, g118_22, g118_23, g118_24, g118_27, g118_28, g118_31, g118_32, g118_34, g118_35, Option.toList, List.nil_append, List.cons_append, va_rf, nI_ltI, nI_leI, nI_eq, nI_add, nI_sub, nI_lt0, nI_e0, nI_m1, m1_nI, Nat.reduceEqDiff, Nat.reduceLT, Nat.reduceLeDiff, Nat.reduceAdd, Nat.reduceSub, Nat.reduceMul, ↓reduceIte, eq_self, er, T0, bI_t, o0, Bool.true_or]
  | false =>
    rw [ht] at T0
    cases hh : hit r (Gc c) with
    | true =>
      have hz : ¬ am_I g e 8 &&& x = 0 := fun q => by rw [hz.mp q] at hh; cases hh
      simp (disch := first | with_reducible assumption | omega | exact Or.inl rfl | exact Or.inr rfl | exact bI_01 | exact c_cat | exact vt_ref | exact vt_null | rfl | with_reducible repeat (first | assumption | omega | apply S_I | apply S_L | apply S_D | apply ob_I | apply ob_L | apply ob_D | apply ob_R | apply ax_I | apply ax_L | apply ax_D | apply ax_R | apply o303 | apply o307 | apply o302 | apply o301 | apply ax304 | apply ax305 | apply ax306 | apply ax308 | apply ax309 | apply ax310 | apply lt_S | apply ar305 | apply ar308 | apply ar309)) only [g118_0, g118_1, g118_4, g118_5, g118_6, g118_6r, g118_6n, g118_9, g118_10, g118_11, g118_12, g118_15, g118_18, g118_19, g118_22, g118_23, g118_24, g118_27, g118_28, g118_31, g118_32, g118_34, g118_35, Option.toList, List.nil_append, List.cons_append, va_rf, nI_ltI, nI_leI, nI_eq, nI_add, nI_sub, nI_lt0, nI_e0, nI_m1, m1_nI, Nat.reduceEqDiff, Nat.reduceLT, Nat.reduceLeDiff, Nat.reduceAdd, Nat.reduceSub, Nat.reduceMul, ↓reduceIte, eq_self, er, T0, bI_t, bI_f, hz, o0, Bool.false_or, Bool.or_false]
    | false =>
      have hz : am_I g e 8 &&& x = 0 := hz.mpr hh
      simp (disch := first | with_reducible assumption | omega | exact Or.inl rfl | exact Or.inr rfl | exact bI_01 | exact c_cat | exact vt_ref | exact vt_null | rfl | with_reducible repeat (first | assumption | omega | apply S_I | apply S_L | apply S_D | apply ob_I | apply ob_L | apply ob_D | apply ob_R | apply ax_I | apply ax_L | apply ax_D | apply ax_R | apply o303 | apply o307 | apply o302 | apply o301 | apply ax304 | apply ax305 | apply ax306 | apply ax308 | apply ax309 | apply ax310 | apply lt_S | apply ar305 | apply ar308 | apply ar309)) only [g118_0, g118_1, g118_4, g118_5, g118_6, g118_6r, g118_6n, g118_9, g118_10, g118_11, g118_12, g118_15, g118_18, g118_19, g118_22, g118_23, g118_24, g118_27, g118_28, g118_31, g118_32, g118_34, g118_35, Option.toList, List.nil_append, List.cons_append, va_rf, nI_ltI, nI_leI, nI_eq, nI_add, nI_sub, nI_lt0, nI_e0, nI_m1, m1_nI, Nat.reduceEqDiff, Nat.reduceLT, Nat.reduceLeDiff, Nat.reduceAdd, Nat.reduceSub, Nat.reduceMul, ↓reduceIte, eq_self, er, T0, bI_f, hz, o0, Bool.or_self]
/-- the roots of what has changed -/
def rooB (td r sh : Nat → Bool) (Gc : Nat → List (Nat × Nat)) (nl : Nat → List Nat) (c : Nat) : Bool := sh (c / 64) || ((td c || hit r (Gc c)) || (nl c).any td)
/-- before mark -/
def MKx (g : am_H) (n : Nat) (m : Nat → Nat) (W : Nat → Nat → Bool) : Prop := MBx g n m ∧ ∀ a, a < n → LBt (am_L g 314 a) (fun j => decide (j < n) && W a j)
theorem x_mark1 {W : Nat → Nat → Bool} {sh : Nat → Bool} (S : am_S g) (M : MBR mb n m) (X : MKx g n m W) (C : CDx g mb ea nl) (hl : ∀ c y, y ∈ nl c → y < 256) (B : SB x r) (By : SB y (fun j => decide (j < 4) && sh j)) (e8 : ∀ c, c < 256 → mb c = true → am_I g (ea c) 8 = (Gc c).foldl gF (nI 0)) (hG : ∀ c, ∀ z, z ∈ Gc c → z.1 < 32) (T : ∀ y, y < 256 → am_I g (22 + y) 7 = bI (td y)) :
    ∀ q i w v7, n - i = q → i ≤ n → LBt w (fun j => decide (j < i) && rooB td r sh Gc nl (m j)) → ∃ w' v7', LBt w' (fun j => decide (j < n) && rooB td r sh Gc nl (m j)) ∧ ∀ Q, am_J (d + 1) 117 16 [some (.ref 311), some (.ref 10), some (.int x), some (.int y), some (.long w), none, some (.int (nI i)), v7] [] g Q ↔ am_J (d + 1) 117 73 [some (.ref 311), some (.ref 10), some (.int x), some (.int y), some (.long w'), none, some (.int (nI n)), v7'] [] g Q := by
  have n48 := M.1
  intro q
  induction q with
  | zero =>
    intro i w v7 hq hi Bw
    obtain rfl : i = n := by omega
    refine ⟨w, v7, Bw, fun Q => ?_⟩
    rw [g117_16]
    simp (disch := first | with_reducible assumption | omega | exact Or.inl rfl | exact Or.inr rfl | exact bI_01 | exact c_cat | exact vt_ref | exact vt_null | rfl | with_reducible repeat (first | assumption | omega | apply S_I | apply S_L | apply S_D | apply ob_I | apply ob_L | apply ob_D | apply ob_R | apply ax_I | apply ax_L | apply ax_D | apply ax_R | apply o303 | apply o307 | apply o302 | apply o301 | apply ax304 | apply ax305 | apply ax306 | apply ax308 | apply ax309 | apply ax310 | apply lt_S | apply ar305 | apply ar308 | apply ar309)) only [g117_18, g117_19, g117_22, Option.toList, List.nil_append, List.cons_append, va_rf, nI_ltI, nI_leI, nI_eq, nI_add, nI_sub, nI_lt0, nI_e0, nI_m1, m1_nI, Nat.reduceEqDiff, Nat.reduceLT, Nat.reduceLeDiff, Nat.reduceAdd, Nat.reduceSub, Nat.reduceMul, ↓reduceIte, eq_self, X.1.1, Nat.le_refl]
  | succ q ih =>
    intro i w v7 hq hi Bw
    have hi' : i < n := by omega
    obtain ⟨hm, hmb⟩ := M.2.1 i hi'
    have em := X.1.2 i hi'
    obtain ⟨er, Cn⟩ := (C (m i) hm).2 hmb
    have st := x_isStale (d := d) (Gc := Gc) S hm er Cn (hl (m i)) B (e8 (m i) hm hmb) (hG (m i)) T
    have Xc := c10_ax S hm
    have Rc := am_S_cell S hm
    have hs := b32_shr (x := y) (show m i / 64 < 4 by omega)
    rw [SB_get By (show m i / 64 < 32 by omega), decide_eq_true (show m i / 64 < 4 by omega), Bool.true_and] at hs
    have s6 := bit_shr6 (m i) hm
    have yes : rooB td r sh Gc nl (m i) = true → LBt (w ||| (lN 1 <<< (lN i &&& 63))) (fun j => decide (j < i + 1) && rooB td r sh Gc nl (m j)) := fun hr => LBt_ext (LBt_or Bw (LBt_one (show i < 64 by omega))) (fun k hk => by
      by_cases e1 : k = i
      · subst e1
        rw [decide_eq_true (show k < k + 1 by omega), hr, decide_eq_true rfl]; simp
      · rw [decide_eq_false e1, Bool.or_false]
        by_cases c : k < i
        · rw [decide_eq_true c, decide_eq_true (show k < i + 1 by omega)]
        · rw [decide_eq_false c, decide_eq_false (show ¬ k < i + 1 by omega)])
    have no : rooB td r sh Gc nl (m i) = false → LBt w (fun j => decide (j < i + 1) && rooB td r sh Gc nl (m j)) := fun hr => LBt_ext Bw (fun k hk => by
      by_cases e1 : k = i
      · subst e1
        rw [decide_eq_true (show k < k + 1 by omega), decide_eq_false (Nat.lt_irrefl k), hr]; rfl
      · by_cases c : k < i
        · rw [decide_eq_true c, decide_eq_true (show k < i + 1 by omega)]
        · rw [decide_eq_false c, decide_eq_false (show ¬ k < i + 1 by omega)])
    cases hs2 : sh (m i / 64) with
    | true =>
      rw [hs2] at hs
      have hs : ¬ (y >>> (nI (m i / 64) &&& 31)) &&& nI 1 = 0 := fun z => absurd (hs.mp z) (by decide)
      obtain ⟨w', v7', B', R⟩ := ih (i + 1) (w ||| (lN 1 <<< (lN i &&& 63))) (some (.int (nI (m i)))) (by omega) (by omega) (yes (by unfold rooB; rw [hs2]; rfl))
      refine ⟨w', v7', B', fun Q => ?_⟩
      rw [← R Q, g117_16]
      simp (disch := first | with_reducible assumption | omega | exact Or.inl rfl | exact Or.inr rfl | exact bI_01 | exact c_cat | exact vt_ref | exact vt_null | rfl | with_reducible repeat (first | assumption | omega | apply S_I | apply S_L | apply S_D | apply ob_I | apply ob_L | apply ob_D | apply ob_R | apply ax_I | apply ax_L | apply ax_D | apply ax_R | apply o303 | apply o307 | apply o302 | apply o301 | apply ax304 | apply ax305 | apply ax306 | apply ax308 | apply ax309 | apply ax310 | apply lt_S | apply ar305 | apply ar308 | apply ar309)) only [g117_18, g117_19, g117_22, g117_25, g117_26, g117_29, g117_31, g117_32, g117_34, g117_35, g117_37, g117_39, g117_40, g117_41, g117_42, g117_43, g117_46, g117_47, g117_48, g117_50, g117_51, g117_52, g117_55, g117_58, g117_60, g117_61, g117_63, g117_64, g117_65, g117_67, g117_70, Option.toList, List.nil_append, List.cons_append, va_rf, nI_ltI, nI_leI, nI_eq, nI_add, nI_sub, nI_lt0, nI_e0, nI_m1, m1_nI, Nat.reduceEqDiff, Nat.reduceLT, Nat.reduceLeDiff, Nat.reduceAdd, Nat.reduceSub, Nat.reduceMul, ↓reduceIte, eq_self, X.1.1, show ¬ n ≤ i by omega, em, s6, hs, nI_l]
    | false =>
      rw [hs2] at hs
      have hs : (y >>> (nI (m i / 64) &&& 31)) &&& nI 1 = 0 := hs.mpr rfl
      cases hb : ((td (m i) || hit r (Gc (m i))) || (nl (m i)).any td) with
      | true =>
        rw [hb] at st
        obtain ⟨w', v7', B', R⟩ := ih (i + 1) (w ||| (lN 1 <<< (lN i &&& 63))) (some (.int (nI (m i)))) (by omega) (by omega) (yes (by unfold rooB; rw [hb]; simp))
        refine ⟨w', v7', B', fun Q => ?_⟩
        rw [← R Q, g117_16]
        simp (disch := first | with_reducible assumption | omega | exact Or.inl rfl | exact Or.inr rfl | exact bI_01 | exact c_cat | exact vt_ref | exact vt_null | rfl | with_reducible repeat (first | assumption | omega | apply S_I | apply S_L | apply S_D | apply ob_I | apply ob_L | apply ob_D | apply ob_R | apply ax_I | apply ax_L | apply ax_D | apply ax_R | apply o303 | apply o307 | apply o302 | apply o301 | apply ax304 | apply ax305 | apply ax306 | apply ax308 | apply ax309 | apply ax310 | apply lt_S | apply ar305 | apply ar308 | apply ar309)) only [g117_18, g117_19, g117_22, g117_25, g117_26, g117_29, g117_31, g117_32, g117_34, g117_35, g117_37, g117_39, g117_40, g117_41, g117_42, g117_43, g117_46, g117_47, g117_48, g117_50, g117_51, g117_52, g117_55, g117_58, g117_60, g117_61, g117_63, g117_64, g117_65, g117_67, g117_70, Option.toList, List.nil_append, List.cons_append, va_rf, nI_ltI, nI_leI, nI_eq, nI_add, nI_sub, nI_lt0, nI_e0, nI_m1, m1_nI, Nat.reduceEqDiff, Nat.reduceLT, Nat.reduceLeDiff, Nat.reduceAdd, Nat.reduceSub, Nat.reduceMul, ↓reduceIte, eq_self, X.1.1, show ¬ n ≤ i by omega, em, s6, hs, nI_l, Rc, st _, bI_t]
      | false =>
        rw [hb] at st
        obtain ⟨w', v7', B', R⟩ := ih (i + 1) w (some (.int (nI (m i)))) (by omega) (by omega) (no (by unfold rooB; rw [hb, hs2]; rfl))
        refine ⟨w', v7', B', fun Q => ?_⟩
        rw [← R Q, g117_16]
        simp (disch := first | with_reducible assumption | omega | exact Or.inl rfl | exact Or.inr rfl | exact bI_01 | exact c_cat | exact vt_ref | exact vt_null | rfl | with_reducible repeat (first | assumption | omega | apply S_I | apply S_L | apply S_D | apply ob_I | apply ob_L | apply ob_D | apply ob_R | apply ax_I | apply ax_L | apply ax_D | apply ax_R | apply o303 | apply o307 | apply o302 | apply o301 | apply ax304 | apply ax305 | apply ax306 | apply ax308 | apply ax309 | apply ax310 | apply lt_S | apply ar305 | apply ar308 | apply ar309)) only [g117_18, g117_19, g117_22, g117_25, g117_26, g117_29, g117_31, g117_32, g117_34, g117_35, g117_37, g117_39, g117_40, g117_41, g117_42, g117_43, g117_46, g117_47, g117_48, g117_50, g117_51, g117_52, g117_55, g117_58, g117_60, g117_61, g117_63, g117_64, g117_65, g117_67, g117_70, Option.toList, List.nil_append, List.cons_append, va_rf, nI_ltI, nI_leI, nI_eq, nI_add, nI_sub, nI_lt0, nI_e0, nI_m1, m1_nI, Nat.reduceEqDiff, Nat.reduceLT, Nat.reduceLeDiff, Nat.reduceAdd, Nat.reduceSub, Nat.reduceMul, ↓reduceIte, eq_self, X.1.1, show ¬ n ≤ i by omega, em, s6, hs, Rc, st _, bI_f]
/-- changed, by reach -/
def chgB (n : Nat) (W : Nat → Nat → Bool) (cr : Nat → Bool) (i : Nat) : Bool := cr i || orU (fun k => W i k && cr k) n
theorem x_mark2 {W : Nat → Nat → Bool} {cr : Nat → Bool} {w : Int64} {v1 v2 v3 v7 : Option Value} (S : am_S h) (M : MBR mb n m) (Bw : LBt w (fun j => decide (j < n) && cr j)) : ∀ q i g, n - i = q → i ≤ n → am_fr (fun a => a = 311) h g → (∀ k, am_I g 311 k = am_I h 311 k) → (∀ k, k ≠ 8 → am_L g 311 k = am_L h 311 k) → MKx h n m W → LBt (am_L g 311 8) (fun j => decide (j < n) && (if j < i then chgB n W cr j else cr j)) →
    ∃ g', am_fr (fun a => a = 311) h g' ∧ (∀ k, am_I g' 311 k = am_I h 311 k) ∧ (∀ k, k ≠ 8 → am_L g' 311 k = am_L h 311 k) ∧ LBt (am_L g' 311 8) (fun j => decide (j < n) && chgB n W cr j) ∧ ∀ Q, am_J d 117 82 [some (.ref 311), v1, v2, v3, some (.long w), none, some (.int (nI i)), v7] [] g Q ↔ Q none g' := by
  have n48 := M.1
  intro q
  induction q with
  | zero =>
    intro i g hq hi F e1 e2 X B
    obtain rfl : i = n := by omega
    have Sg := fr_S F S
    have e7 := (e1 7).trans X.1.1
    refine ⟨g, F, e1, e2, LBt_ext B (fun j _ => ?_), fun Q => ?_⟩
    · by_cases c : j < i
      · rw [if_pos c]
      · rw [decide_eq_false c]; rfl
    · rw [g117_82]
      simp (disch := first | with_reducible assumption | omega | exact Or.inl rfl | exact Or.inr rfl | exact bI_01 | exact c_cat | exact vt_ref | exact vt_null | rfl | with_reducible repeat (first | assumption | omega | apply S_I | apply S_L | apply S_D | apply ob_I | apply ob_L | apply ob_D | apply ob_R | apply ax_I | apply ax_L | apply ax_D | apply ax_R | apply o303 | apply o307 | apply o302 | apply o301 | apply ax304 | apply ax305 | apply ax306 | apply ax308 | apply ax309 | apply ax310 | apply lt_S | apply ar305 | apply ar308 | apply ar309)) only [g117_84, g117_85, g117_88, g117_125, Option.toList, List.nil_append, List.cons_append, va_rf, nI_ltI, nI_leI, nI_eq, nI_add, nI_sub, nI_lt0, nI_e0, nI_m1, m1_nI, Nat.reduceEqDiff, Nat.reduceLT, Nat.reduceLeDiff, Nat.reduceAdd, Nat.reduceSub, Nat.reduceMul, ↓reduceIte, eq_self, e7, Nat.le_refl]
  | succ q ih =>
    intro i g hq hi F e1 e2 X B
    have Sg := fr_S F S
    have hi' : i < n := by omega
    have e7 := (e1 7).trans X.1.1
    have Bi : LBt (am_L g 314 i) (fun j => decide (j < n) && W i j) := by
      rw [fr_rdL F (by decide)]; exact X.2 i hi'
    have hz := LBt_zero (LBt_and Bi Bw)
    have ho : orU (fun k => W i k && cr k) n = false ↔ ∀ j, j < 64 → ((decide (j < n) && W i j) && (decide (j < n) && cr j)) = false := by
      rw [Bool.eq_false_iff]
      constructor
      · intro z j hj
        rw [Bool.eq_false_iff]
        intro t
        rw [Bool.and_eq_true, Bool.and_eq_true, Bool.and_eq_true] at t
        exact z ((orU_iff n).mpr ⟨j, of_decide_eq_true t.1.1, by rw [Bool.and_eq_true]; exact ⟨t.1.2, t.2.2⟩⟩)
      · intro z t
        obtain ⟨j, j1, j2⟩ := (orU_iff n).mp t
        rw [Bool.and_eq_true] at j2
        have := z j (by omega)
        rw [decide_eq_true j1, j2.1, j2.2] at this
        cases this
    have hz2 : (am_L g 314 i &&& w = lN 0) ↔ orU (fun k => W i k && cr k) n = false := hz.trans ho.symm
    cases hb : orU (fun k => W i k && cr k) n with
    | true =>
      have hz3 : ¬ am_L g 314 i &&& w = lN 0 := fun t => by rw [hz2.mp t] at hb; cases hb
      obtain ⟨g', F', a1, a2, B', R⟩ := ih (i + 1) (am_setL g 311 8 (am_L g 311 8 ||| (lN 1 <<< (lN i &&& 63)))) (by omega) (by omega) (fr_L F rfl) e1 (fun k hk => by rw [rL_k hk]; exact e2 k hk) X (by
        rw [rL_eq]
        refine LBt_ext (LBt_or B (LBt_one (show i < 64 by omega))) (fun j hj => ?_)
        by_cases e : j = i
        · subst e
          rw [decide_eq_true hi', if_pos (Nat.lt_succ_self j)]
          unfold chgB
          rw [hb, decide_eq_true rfl]; simp
        · rw [decide_eq_false e, Bool.or_false]
          by_cases c : j < i
          · rw [if_pos c, if_pos (by omega)]
          · rw [if_neg c, if_neg (by omega)])
      refine ⟨g', F', a1, a2, B', fun Q => ?_⟩
      rw [← R Q, g117_82]
      simp (disch := first | with_reducible assumption | omega | exact Or.inl rfl | exact Or.inr rfl | exact bI_01 | exact c_cat | exact vt_ref | exact vt_null | rfl | with_reducible repeat (first | assumption | omega | apply S_I | apply S_L | apply S_D | apply ob_I | apply ob_L | apply ob_D | apply ob_R | apply ax_I | apply ax_L | apply ax_D | apply ax_R | apply o303 | apply o307 | apply o302 | apply o301 | apply ax304 | apply ax305 | apply ax306 | apply ax308 | apply ax309 | apply ax310 | apply lt_S | apply ar305 | apply ar308 | apply ar309)) only [g117_84, g117_85, g117_88, g117_91, g117_92, g117_95, g117_97, g117_98, g117_100, g117_101, g117_102, g117_103, g117_106, g117_107, g117_108, g117_111, g117_112, g117_114, g117_115, g117_116, g117_119, g117_122, Option.toList, List.nil_append, List.cons_append, va_rf, nI_ltI, nI_leI, nI_eq, nI_add, nI_sub, nI_lt0, nI_e0, nI_m1, m1_nI, Nat.reduceEqDiff, Nat.reduceLT, Nat.reduceLeDiff, Nat.reduceAdd, Nat.reduceSub, Nat.reduceMul, ↓reduceIte, eq_self, e7, show ¬ n ≤ i by omega, lg_cmp0, hz3, nI_l]
    | false =>
      have hz3 : am_L g 314 i &&& w = lN 0 := hz2.mpr hb
      obtain ⟨g', F', a1, a2, B', R⟩ := ih (i + 1) g (by omega) (by omega) F e1 e2 X (LBt_ext B (fun j hj => by
        by_cases e : j = i
        · subst e
          rw [if_neg (Nat.lt_irrefl j), if_pos (Nat.lt_succ_self j)]
          unfold chgB
          rw [hb, Bool.or_false]
        · by_cases c : j < i
          · rw [if_pos c, if_pos (by omega)]
          · rw [if_neg c, if_neg (by omega)]))
      refine ⟨g', F', a1, a2, B', fun Q => ?_⟩
      rw [← R Q, g117_82]
      simp (disch := first | with_reducible assumption | omega | exact Or.inl rfl | exact Or.inr rfl | exact bI_01 | exact c_cat | exact vt_ref | exact vt_null | rfl | with_reducible repeat (first | assumption | omega | apply S_I | apply S_L | apply S_D | apply ob_I | apply ob_L | apply ob_D | apply ob_R | apply ax_I | apply ax_L | apply ax_D | apply ax_R | apply o303 | apply o307 | apply o302 | apply o301 | apply ax304 | apply ax305 | apply ax306 | apply ax308 | apply ax309 | apply ax310 | apply lt_S | apply ar305 | apply ar308 | apply ar309)) only [g117_84, g117_85, g117_88, g117_91, g117_92, g117_95, g117_97, g117_98, g117_100, g117_101, g117_102, g117_103, g117_106, g117_107, g117_108, g117_111, g117_112, g117_114, g117_115, g117_116, g117_119, g117_122, Option.toList, List.nil_append, List.cons_append, va_rf, nI_ltI, nI_leI, nI_eq, nI_add, nI_sub, nI_lt0, nI_e0, nI_m1, m1_nI, Nat.reduceEqDiff, Nat.reduceLT, Nat.reduceLeDiff, Nat.reduceAdd, Nat.reduceSub, Nat.reduceMul, ↓reduceIte, eq_self, e7, show ¬ n ≤ i by omega, lg_cmp0, hz3]
/-- mark as a whole -/
theorem x_mark {W : Nat → Nat → Bool} {sh : Nat → Bool} (S : am_S h) (M : MBR mb n m) (X : MKx h n m W) (C : CDx h mb ea nl) (hl : ∀ c y, y ∈ nl c → y < 256) (B : SB x r) (By : SB y (fun j => decide (j < 4) && sh j)) (e8 : ∀ c, c < 256 → mb c = true → am_I h (ea c) 8 = (Gc c).foldl gF (nI 0)) (hG : ∀ c, ∀ z, z ∈ Gc c → z.1 < 32) (T : ∀ y, y < 256 → am_I h (22 + y) 7 = bI (td y)) :
    ∃ g, am_run (d + 1) 117 [some (.ref 311), some (.ref 10), some (.int x), some (.int y), none, none, none, none] h none g ∧ am_fr (fun a => a = 311) h g ∧ (∀ k, k ≠ 11 → am_I g 311 k = am_I h 311 k) ∧ am_I g 311 11 = nI 0 ∧ am_L g 311 9 = lN 0 ∧ LBt (am_L g 311 8) (fun j => decide (j < n) && chgB n W (fun i => rooB td r sh Gc nl (m i)) j) := by
  have X1 : MKx (am_setI (am_setL h 311 9 (lN 0)) 311 11 (nI 0)) n m W := ⟨⟨by rw [rI_k (by decide)]; exact X.1.1, fun i hi => by rw [rI_a (by decide)]; exact X.1.2 i hi⟩, fun a ha => by rw [hL_I, rL_a (by decide)]; exact X.2 a ha⟩
  have F1 : am_fr (fun a => a = 311) h (am_setI (am_setL h 311 9 (lN 0)) 311 11 (nI 0)) := fr_I (fr_L fr_refl rfl) rfl
  have S1 := fr_S F1 S
  have C1 := CDx_fr F1 (fun a ha => by omega) C
  obtain ⟨w, v7, Bw, R1⟩ := x_mark1 (d := d) (W := W) S1 M X1 C1 hl B By (fun c hc hm => by
    have := ((C c hc).2 hm).2.1
    rw [rI_a (by omega)]; exact e8 c hc hm) hG (fun y hy => by rw [rI_a (by omega)]; exact T y hy) n 0 (lN 0) none (Nat.sub_zero _) (Nat.zero_le _) (LBt_ext LBt_0 (fun j _ => by simp))
  have X2 : MKx (am_setL (am_setI (am_setL h 311 9 (lN 0)) 311 11 (nI 0)) 311 8 w) n m W := ⟨⟨X1.1.1, X1.1.2⟩, fun a ha => by rw [rL_a (by decide)]; exact X1.2 a ha⟩
  have S2 : am_S (am_setL (am_setI (am_setL h 311 9 (lN 0)) 311 11 (nI 0)) 311 8 w) := S1
  obtain ⟨g, F2, a1, a2, B2, R2⟩ := x_mark2 (d := d + 1) (v1 := some (.ref 10)) (v2 := some (.int x)) (v3 := some (.int y)) (v7 := v7) (W := W) S2 M Bw n 0 _ (Nat.sub_zero _) (Nat.zero_le _) fr_refl (fun _ => rfl) (fun _ _ => rfl) X2 (by
    rw [rL_eq]
    exact LBt_ext Bw (fun j _ => by rw [if_neg (Nat.not_lt_zero _)]))
  refine ⟨g, fun Q => ?_, fr_trans (fr_L F1 rfl) F2, fun k hk => ?_, ?_, ?_, B2⟩
  · rw [← R2 Q]
    simp (disch := first | with_reducible assumption | omega | exact Or.inl rfl | exact Or.inr rfl | exact bI_01 | exact c_cat | exact vt_ref | exact vt_null | rfl | with_reducible repeat (first | assumption | omega | apply S_I | apply S_L | apply S_D | apply ob_I | apply ob_L | apply ob_D | apply ob_R | apply ax_I | apply ax_L | apply ax_D | apply ax_R | apply o303 | apply o307 | apply o302 | apply o301 | apply ax304 | apply ax305 | apply ax306 | apply ax308 | apply ax309 | apply ax310 | apply lt_S | apply ar305 | apply ar308 | apply ar309)) only [g117_0, g117_1, g117_2, g117_5, g117_6, g117_7, g117_10, g117_11, g117_13, g117_14, R1 _, g117_73, g117_74, g117_76, g117_79, g117_80, Option.toList, List.nil_append, List.cons_append, va_rf, nI_ltI, nI_leI, nI_eq, nI_add, nI_sub, nI_lt0, nI_e0, nI_m1, m1_nI, Nat.reduceEqDiff, Nat.reduceLT, Nat.reduceLeDiff, Nat.reduceAdd, Nat.reduceSub, Nat.reduceMul, ↓reduceIte, eq_self]
  · rw [a1 k]
    show am_I (am_setI (am_setL h 311 9 (lN 0)) 311 11 (nI 0)) 311 k = _
    rw [rI_k hk]; rfl
  · rw [a1 11]
    show am_I (am_setI (am_setL h 311 9 (lN 0)) 311 11 (nI 0)) 311 11 = _
    rw [rI_eq]
  · rw [a2 9 (by decide), rL_k (by decide), hL_I, rL_eq]
end XMK

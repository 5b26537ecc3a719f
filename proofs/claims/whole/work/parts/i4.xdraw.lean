/-! THE CLASS: who needs whom, drawn -/
/-- the cells with formulas below c, in order -/
def mL (mb : Nat → Bool) : Nat → List Nat
  | 0 => []
  | c + 1 => if mb c = true then mL mb c ++ [c] else mL mb c
theorem LBt_get {x : Int64} {r : Nat → Bool} (h : LBt x r) {j : Nat} (hj : j < 64) : x.toBitVec.getLsbD j = r j := h j hj
theorem SB_get {x : Int32} {r : Nat → Bool} (h : SB x r) {j : Nat} (hj : j < 32) : b32 x j = r j := h j hj
section MLS
variable {mb : Nat → Bool}
theorem mL_in : ∀ (c i x : Nat), (mL mb c)[i]? = some x → x < c ∧ mb x = true := by
  intro c
  induction c with
  | zero => intro i x h; cases h
  | succ c ih =>
    intro i x h
    unfold mL at h
    by_cases e : mb c = true
    · rw [if_pos e] at h
      rcases getElem?_snoc h with ⟨_, h⟩ | ⟨rfl, rfl⟩
      · have := ih i x h; exact ⟨by omega, this.2⟩
      · exact ⟨Nat.lt_succ_self _, e⟩
    · rw [if_neg e] at h
      have := ih i x h; exact ⟨by omega, this.2⟩
theorem mL_lt : ∀ (c i j x y : Nat), i < j → (mL mb c)[i]? = some x → (mL mb c)[j]? = some y → x < y := by
  intro c
  induction c with
  | zero => intro i j x y _ h; cases h
  | succ c ih =>
    intro i j x y hij h1 h2
    unfold mL at h1 h2
    by_cases e : mb c = true
    · rw [if_pos e] at h1 h2
      rcases getElem?_snoc h2 with ⟨h3, h2⟩ | ⟨h3, rfl⟩
      · rw [List.getElem?_append_left (by omega)] at h1
        exact ih i j x y hij h1 h2
      · rw [List.getElem?_append_left (by omega)] at h1
        exact (mL_in _ _ _ h1).1
    · rw [if_neg e] at h1 h2
      exact ih i j x y hij h1 h2
theorem mL_mem : ∀ (c x : Nat), x < c → mb x = true → ∃ i, i < (mL mb c).length ∧ (mL mb c)[i]? = some x := by
  intro c
  induction c with
  | zero => intro x h; omega
  | succ c ih =>
    intro x hx hb
    unfold mL
    by_cases e : mb c = true
    · rw [if_pos e, List.length_append]
      by_cases ex : x = c
      · subst ex
        exact ⟨(mL mb x).length, by simp, by rw [List.getElem?_append_right (Nat.le_refl _), Nat.sub_self]; rfl⟩
      · obtain ⟨i, i1, i2⟩ := ih x (by omega) hb
        exact ⟨i, by omega, by rw [List.getElem?_append_left i1]; exact i2⟩
    · rw [if_neg e]
      by_cases ex : x = c
      · subst ex; exact absurd hb e
      · exact ih x (by omega) hb
theorem mL_len : ∀ (c n : Nat), c ≤ n → (mL mb c).length ≤ (mL mb n).length := by
  intro c n h
  induction n with
  | zero => rw [show c = 0 by omega]; exact Nat.le_refl _
  | succ n ih =>
    by_cases e : c = n + 1
    · rw [e]; exact Nat.le_refl _
    · have := ih (by omega)
      show (mL mb c).length ≤ (if mb n = true then mL mb n ++ [n] else mL mb n).length
      split
      · rw [List.length_append]; omega
      · exact this
end MLS
/-- the members: n of them, m i the i-th -/
def MBR (mb : Nat → Bool) (n : Nat) (m : Nat → Nat) : Prop := n ≤ 48 ∧ (∀ i, i < n → m i < 256 ∧ mb (m i) = true) ∧ (∀ i j, i < j → j < n → m i < m j) ∧ ∀ x, x < 256 → mb x = true → ∃ i, i < n ∧ m i = x
theorem MBR_L {mb : Nat → Bool} (h : (mL mb 256).length ≤ 48) : MBR mb (mL mb 256).length (fun i => (mL mb 256).getD i 0) := by
  have G : ∀ i, i < (mL mb 256).length → (mL mb 256)[i]? = some ((mL mb 256).getD i 0) := fun i hi => by
    rw [List.getD_eq_getElem?_getD, List.getElem?_eq_getElem hi]; rfl
  refine ⟨h, fun i hi => mL_in _ _ _ (G i hi), fun i j h1 h2 => mL_lt _ _ _ _ _ h1 (G i (by omega)) (G j h2), fun x hx hb => ?_⟩
  obtain ⟨i, i1, i2⟩ := mL_mem 256 x hx hb
  refine ⟨i, i1, ?_⟩
  have := G i i1
  rw [i2] at this
  exact (Option.some.inj this).symm
theorem MBR_inj {mb : Nat → Bool} {n : Nat} {m : Nat → Nat} (M : MBR mb n m) {i j : Nat} (hi : i < n) (hj : j < n) (h : m i = m j) : i = j := by
  rcases Nat.lt_trichotomy i j with c | c | c
  · have := M.2.2.1 i j c hj; omega
  · exact c
  · have := M.2.2.1 j i c hi; omega
/-- the cells' codes as the class has them: e c its address, nl c what it needs -/
def CDx (g : am_H) (mb : Nat → Bool) (ea : Nat → Nat) (nl : Nat → List Nat) : Prop := ∀ c, c < 256 → (mb c = false → am_R g (22 + c) 3 = none) ∧ (mb c = true → am_R g (22 + c) 3 = some (ea c) ∧ CN g (ea c) (nl c))
abbrev plP : Nat → Prop := fun a => 311 ≤ a ∧ a ≤ 318
section XDR
variable {d n : Nat} {g h : am_H} {mb : Nat → Bool} {m : Nat → Nat} {ea : Nat → Nat} {nl : Nat → List Nat}
theorem c10_ax (S : am_S g) {q : Nat} (hq : q < 256) : am_ax g 10 200 q := am_S_ax S (n := 256) (by decide +kernel) hq (by decide)
theorem CN_fr {P : Nat → Prop} {e : Nat} {N : List Nat} (F : am_fr P h g) (hP : ∀ a, 402 ≤ a → ¬ P a) (C : CN h e N) : CN g e N := by
  obtain ⟨c1, c2, c3, c4, c5, c6, c7, c8, c9, c10, c11⟩ := C
  exact ⟨c1, by rw [F.1]; exact c2, (fr_tg F).trans c3, (fr_rdR F).trans c4, (fr_rdI F (hP _ c1)).trans c5, (fr_tg F).trans c6, fun i c hi => (fr_rdI F (hP _ (by omega))).trans (c7 i c hi), (fr_rdR F).trans c8, (fr_tg F).trans c9, fun c hc => by rw [fr_rdL F (hP _ (by omega))]; exact c10 c hc, c11⟩
theorem CDx_fr {P : Nat → Prop} (F : am_fr P h g) (hP : ∀ a, 402 ≤ a → ¬ P a) (C : CDx h mb ea nl) : CDx g mb ea nl := fun c hc => ⟨fun q => (fr_rdR F).trans ((C c hc).1 q), fun q => ⟨(fr_rdR F).trans ((C c hc).2 q).1, CN_fr F hP ((C c hc).2 q).2⟩⟩
theorem CN_ob {e : Nat} {N : List Nat} (C : CN g e N) : am_ob g e 1 := ⟨by have := C.2.1; omega, by rw [C.2.2.1]⟩
theorem x_needs {e c : Nat} {N : List Nat} (C : CN g e N) (hc : c < 256) : am_run (d + 1) 13 [some (.ref e), some (.int (nI c))] g (some (.int (bI (decide (c ∈ N))))) g := fun Q => by
  obtain ⟨c1, c2, c3, c4, c5, c6, c7, c8, c9, c10, c11⟩ := id C
  have := x_hasNeed (d := d) (Q := Q) (CN_ob C) c8 (fun q hq => ax_of (show e + 1 < g.1 by omega) c9 hq (by omega)) hc
  rw [c10 c hc] at this
  exact this
theorem x_hasBit {x : Int64} {j : Nat} (hj : j < 64) : am_run d 115 [some (.long x), none, some (.int (nI j))] g (some (.int (bI (x.toBitVec.getLsbD j)))) g := fun Q => by
  cases hb : x.toBitVec.getLsbD j with
  | false =>
    have hz := (bit_get (x := x) hj).mpr hb
    simp (disch := first | with_reducible assumption | omega | exact Or.inl rfl | exact Or.inr rfl | exact bI_01 | exact c_cat | rfl | with_reducible repeat (first | assumption | apply S_I | apply S_L | apply S_D | apply ob_I | apply ob_L | apply ob_D | apply ob_R | apply ax_I | apply ax_L | apply ax_D | apply ax_R)) only [g115_0, g115_1, g115_2, g115_3, g115_4, g115_5, g115_6, g115_7, g115_10, g115_11, g115_14, g115_15, Option.toList, List.nil_append, List.cons_append, va_rf, nI_l, hz, lg_cmp0, bI_f, ↓reduceIte, eq_self]
  | true =>
    have hz : ¬ _ := fun q => by rw [(bit_get (x := x) hj).mp q] at hb; cases hb
    simp (disch := first | with_reducible assumption | omega | exact Or.inl rfl | exact Or.inr rfl | exact bI_01 | exact c_cat | rfl | with_reducible repeat (first | assumption | apply S_I | apply S_L | apply S_D | apply ob_I | apply ob_L | apply ob_D | apply ob_R | apply ax_I | apply ax_L | apply ax_D | apply ax_R)) only [g115_0, g115_1, g115_2, g115_3, g115_4, g115_5, g115_6, g115_7, g115_10, g115_11, g115_14, g115_15, Option.toList, List.nil_append, List.cons_append, va_rf, nI_l, hz, lg_cmp0, bI_t, ↓reduceIte, eq_self]
/-- the members are found -/
def DR1 (h g : am_H) (mb : Nat → Bool) (c : Nat) : Prop := am_fr plP h g ∧ am_I g 311 7 = nI (mL mb c).length ∧ ∀ i x, (mL mb c)[i]? = some x → am_I g 312 i = nI x
theorem x_draw1 (S : am_S h) (C : CDx h mb ea nl) (hl : (mL mb 256).length ≤ 48) : ∀ q c g v, 256 - c = q → c ≤ 256 → DR1 h g mb c → ∃ g', DR1 h g' mb 256 ∧ ∀ Q, am_J d 113 7 [some (.ref 311), some (.ref 10), some (.int (nI c)), v] [] g Q ↔ am_J d 113 58 [some (.ref 311), some (.ref 10), some (.int (nI 256)), v] [] g' Q := by
  intro q
  induction q with
  | zero =>
    intro c g v hq hc D
    obtain rfl : c = 256 := by omega
    refine ⟨g, D, fun Q => ?_⟩
    rw [g113_7]
    simp (disch := first | with_reducible assumption | omega | exact Or.inl rfl | exact Or.inr rfl | exact bI_01 | exact c_cat | exact vt_ref | exact vt_null | rfl | with_reducible repeat (first | assumption | omega | apply S_I | apply S_L | apply S_D | apply ob_I | apply ob_L | apply ob_D | apply ob_R | apply ax_I | apply ax_L | apply ax_D | apply ax_R | apply o303 | apply o307 | apply o302 | apply o301 | apply ax304 | apply ax305 | apply ax306 | apply ax308 | apply ax309 | apply ax310 | apply lt_S | apply ar305 | apply ar308 | apply ar309)) only [g113_8, g113_11, Option.toList, List.nil_append, List.cons_append, va_rf, nI_ltI, nI_leI, nI_eq, nI_add, nI_sub, nI_lt0, nI_e0, nI_m1, m1_nI, Nat.reduceEqDiff, Nat.reduceLT, Nat.reduceLeDiff, Nat.reduceAdd, Nat.reduceSub, Nat.reduceMul, ↓reduceIte, eq_self, Nat.le_refl]
  | succ q ih =>
    intro c g v hq hc D
    obtain ⟨F, e7, e12⟩ := D
    have Sg := fr_S F S
    have O := o22 Sg (show c < 256 by omega)
    have Xc := c10_ax Sg (show c < 256 by omega)
    have Rc := am_S_cell Sg (show c < 256 by omega)
    have l1 := mL_len (mb := mb) c 256 hc
    have l2 := mL_len (mb := mb) (c + 1) 256 (by omega)
    cases hb : mb c with
    | false =>
      have r3 := (fr_rdR F).trans ((C c (by omega)).1 hb)
      have em : mL mb (c + 1) = mL mb c := by
        show (if mb c = true then _ else _) = _
        rw [hb, if_neg (by decide)]
      obtain ⟨g', D', R⟩ := ih (c + 1) g v (by omega) (by omega) ⟨F, by rw [em]; exact e7, by rw [em]; exact e12⟩
      refine ⟨g', D', fun Q => ?_⟩
      rw [← R Q, g113_7]
      simp (disch := first | with_reducible assumption | omega | exact Or.inl rfl | exact Or.inr rfl | exact bI_01 | exact c_cat | exact vt_ref | exact vt_null | rfl | with_reducible repeat (first | assumption | omega | apply S_I | apply S_L | apply S_D | apply ob_I | apply ob_L | apply ob_D | apply ob_R | apply ax_I | apply ax_L | apply ax_D | apply ax_R | apply o303 | apply o307 | apply o302 | apply o301 | apply ax304 | apply ax305 | apply ax306 | apply ax308 | apply ax309 | apply ax310 | apply lt_S | apply ar305 | apply ar308 | apply ar309)) only [g113_8, g113_11, g113_14, g113_15, g113_16, g113_17, g113_20, g113_20r, g113_20n, g113_23, g113_24, g113_27, g113_29, g113_32, g113_33, g113_36, g113_37, g113_40, g113_41, g113_42, g113_43, g113_44, g113_47, g113_48, g113_49, g113_52, g113_55, Option.toList, List.nil_append, List.cons_append, va_rf, nI_ltI, nI_leI, nI_eq, nI_add, nI_sub, nI_lt0, nI_e0, nI_m1, m1_nI, Nat.reduceEqDiff, Nat.reduceLT, Nat.reduceLeDiff, Nat.reduceAdd, Nat.reduceSub, Nat.reduceMul, ↓reduceIte, eq_self, show ¬ 256 ≤ c by omega, Rc, r3]
    | true =>
      have r3 := (fr_rdR F).trans ((C c (by omega)).2 hb).1
      have em : mL mb (c + 1) = mL mb c ++ [c] := by
        show (if mb c = true then _ else _) = _
        rw [hb, if_pos rfl]
      rw [em, List.length_append, List.length_cons, List.length_nil] at l2
      obtain ⟨g', D', R⟩ := ih (c + 1) (am_setI (am_setI g 312 (mL mb c).length (nI c)) 311 7 (nI ((mL mb c).length + 1))) v (by omega) (by omega) ⟨fr_I (fr_I F (by omega)) (by omega), by rw [rI_eq, em, List.length_append]; rfl, fun i x hx => by
        rw [em] at hx
        rw [rI_a (by decide)]
        rcases getElem?_snoc hx with ⟨hi, hx⟩ | ⟨rfl, rfl⟩
        · rw [rI_k (by omega)]; exact e12 i x hx
        · rw [rI_eq]⟩
      refine ⟨g', D', fun Q => ?_⟩
      rw [← R Q, g113_7]
      simp (disch := first | with_reducible assumption | omega | exact Or.inl rfl | exact Or.inr rfl | exact bI_01 | exact c_cat | exact vt_ref | exact vt_null | rfl | with_reducible repeat (first | assumption | omega | apply S_I | apply S_L | apply S_D | apply ob_I | apply ob_L | apply ob_D | apply ob_R | apply ax_I | apply ax_L | apply ax_D | apply ax_R | apply o303 | apply o307 | apply o302 | apply o301 | apply ax304 | apply ax305 | apply ax306 | apply ax308 | apply ax309 | apply ax310 | apply lt_S | apply ar305 | apply ar308 | apply ar309)) only [g113_8, g113_11, g113_14, g113_15, g113_16, g113_17, g113_20, g113_20r, g113_20n, g113_23, g113_24, g113_27, g113_29, g113_32, g113_33, g113_36, g113_37, g113_40, g113_41, g113_42, g113_43, g113_44, g113_47, g113_48, g113_49, g113_52, g113_55, Option.toList, List.nil_append, List.cons_append, va_rf, nI_ltI, nI_leI, nI_eq, nI_add, nI_sub, nI_lt0, nI_e0, nI_m1, m1_nI, Nat.reduceEqDiff, Nat.reduceLT, Nat.reduceLeDiff, Nat.reduceAdd, Nat.reduceSub, Nat.reduceMul, ↓reduceIte, eq_self, hI_I, hI_L, hI_D, hI_R, hL_I, hL_L, hL_D, hL_R, hD_I, hD_L, hD_D, hD_R, hR_I, hR_L, hR_D, ↓reduceIte, Nat.reduceEqDiff, show ¬ 256 ≤ c by omega, Rc, r3, e7, show ¬ 48 ≤ (mL mb c).length by omega]
/-- members stand -/
def MBx (g : am_H) (n : Nat) (m : Nat → Nat) : Prop := am_I g 311 7 = nI n ∧ ∀ i, i < n → am_I g 312 i = nI (m i)
abbrev lkB (nl : Nat → List Nat) (m : Nat → Nat) (i j : Nat) : Bool := decide (m j ∈ nl (m i))
theorem x_links (S : am_S g) (M : MBR mb n m) (X : MBx g n m) {e i : Nat} (C : CN g e (nl (m i))) : ∃ w, am_run (d + 2) 114 [some (.ref 311), some (.ref e), none, none, none] g (some (.long w)) g ∧ LBt w (fun j => decide (j < n) && lkB nl m i j) := by
  have O := CN_ob C
  have n48 := M.1
  have L : ∀ q j w, n - j = q → j ≤ n → LBt w (fun k => decide (k < j) && lkB nl m i k) → ∃ w', LBt w' (fun k => decide (k < n) && lkB nl m i k) ∧ ∀ Q, am_J (d + 2) 114 5 [some (.ref 311), some (.ref e), some (.long w), none, some (.int (nI j))] [] g Q ↔ Q (some (.long w')) g := by
    intro q
    induction q with
    | zero =>
      intro j w hq hj B
      obtain rfl : j = n := by omega
      refine ⟨w, B, fun Q => ?_⟩
      rw [g114_5]
      simp (disch := first | with_reducible assumption | omega | exact Or.inl rfl | exact Or.inr rfl | exact bI_01 | exact c_cat | exact vt_ref | exact vt_null | rfl | with_reducible repeat (first | assumption | omega | apply S_I | apply S_L | apply S_D | apply ob_I | apply ob_L | apply ob_D | apply ob_R | apply ax_I | apply ax_L | apply ax_D | apply ax_R | apply o303 | apply o307 | apply o302 | apply o301 | apply ax304 | apply ax305 | apply ax306 | apply ax308 | apply ax309 | apply ax310 | apply lt_S | apply ar305 | apply ar308 | apply ar309)) only [g114_7, g114_8, g114_11, g114_45, g114_46, Option.toList, List.nil_append, List.cons_append, va_rf, nI_ltI, nI_leI, nI_eq, nI_add, nI_sub, nI_lt0, nI_e0, nI_m1, m1_nI, Nat.reduceEqDiff, Nat.reduceLT, Nat.reduceLeDiff, Nat.reduceAdd, Nat.reduceSub, Nat.reduceMul, ↓reduceIte, eq_self, X.1, Nat.le_refl]
    | succ q ih =>
      intro j w hq hj B
      have hj' : j < n := by omega
      have hm := (M.2.1 j hj').1
      have em := X.2 j hj'
      have nd := x_needs (d := d) C hm
      cases hb : decide (m j ∈ nl (m i)) with
      | true =>
        rw [hb] at nd
        obtain ⟨w', B', R⟩ := ih (j + 1) (w ||| (lN 1 <<< (lN j &&& 63))) (by omega) (by omega) (LBt_ext (LBt_or B (LBt_one (show j < 64 by omega))) (fun k hk => by
          by_cases e1 : k = j
          · subst e1
            rw [decide_eq_true (show k < k + 1 by omega)]
            show (_ || decide (k = k)) = (true && decide (m k ∈ nl (m i)))
            rw [hb, decide_eq_true rfl]; simp
          · rw [decide_eq_false e1, Bool.or_false]
            by_cases c : k < j
            · rw [decide_eq_true c, decide_eq_true (show k < j + 1 by omega)]
            · rw [decide_eq_false c, decide_eq_false (show ¬ k < j + 1 by omega)]))
        refine ⟨w', B', fun Q => ?_⟩
        rw [← R Q, g114_5]
        simp (disch := first | with_reducible assumption | omega | exact Or.inl rfl | exact Or.inr rfl | exact bI_01 | exact c_cat | exact vt_ref | exact vt_null | rfl | with_reducible repeat (first | assumption | omega | apply S_I | apply S_L | apply S_D | apply ob_I | apply ob_L | apply ob_D | apply ob_R | apply ax_I | apply ax_L | apply ax_D | apply ax_R | apply o303 | apply o307 | apply o302 | apply o301 | apply ax304 | apply ax305 | apply ax306 | apply ax308 | apply ax309 | apply ax310 | apply lt_S | apply ar305 | apply ar308 | apply ar309)) only [g114_7, g114_8, g114_11, g114_14, g114_15, g114_15r, g114_15n, g114_18, g114_19, g114_20, g114_23, g114_25, g114_26, g114_29, g114_32, g114_33, g114_34, g114_36, g114_37, g114_38, g114_39, g114_42, Option.toList, List.nil_append, List.cons_append, va_rf, nI_ltI, nI_leI, nI_eq, nI_add, nI_sub, nI_lt0, nI_e0, nI_m1, m1_nI, Nat.reduceEqDiff, Nat.reduceLT, Nat.reduceLeDiff, Nat.reduceAdd, Nat.reduceSub, Nat.reduceMul, ↓reduceIte, eq_self, X.1, show ¬ n ≤ j by omega, em, nd _, bI_t, nI_l]
      | false =>
        rw [hb] at nd
        obtain ⟨w', B', R⟩ := ih (j + 1) w (by omega) (by omega) (LBt_ext B (fun k hk => by
          by_cases e1 : k = j
          · subst e1
            rw [decide_eq_true (show k < k + 1 by omega), decide_eq_false (Nat.lt_irrefl k)]
            show (false && _) = (true && decide (m k ∈ nl (m i)))
            rw [hb]; rfl
          · by_cases c : k < j
            · rw [decide_eq_true c, decide_eq_true (show k < j + 1 by omega)]
            · rw [decide_eq_false c, decide_eq_false (show ¬ k < j + 1 by omega)]))
        refine ⟨w', B', fun Q => ?_⟩
        rw [← R Q, g114_5]
        simp (disch := first | with_reducible assumption | omega | exact Or.inl rfl | exact Or.inr rfl | exact bI_01 | exact c_cat | exact vt_ref | exact vt_null | rfl | with_reducible repeat (first | assumption | omega | apply S_I | apply S_L | apply S_D | apply ob_I | apply ob_L | apply ob_D | apply ob_R | apply ax_I | apply ax_L | apply ax_D | apply ax_R | apply o303 | apply o307 | apply o302 | apply o301 | apply ax304 | apply ax305 | apply ax306 | apply ax308 | apply ax309 | apply ax310 | apply lt_S | apply ar305 | apply ar308 | apply ar309)) only [g114_7, g114_8, g114_11, g114_14, g114_15, g114_15r, g114_15n, g114_18, g114_19, g114_20, g114_23, g114_25, g114_26, g114_29, g114_32, g114_33, g114_34, g114_36, g114_37, g114_38, g114_39, g114_42, Option.toList, List.nil_append, List.cons_append, va_rf, nI_ltI, nI_leI, nI_eq, nI_add, nI_sub, nI_lt0, nI_e0, nI_m1, m1_nI, Nat.reduceEqDiff, Nat.reduceLT, Nat.reduceLeDiff, Nat.reduceAdd, Nat.reduceSub, Nat.reduceMul, ↓reduceIte, eq_self, X.1, show ¬ n ≤ j by omega, em, nd _, bI_f]
  obtain ⟨w', B', R⟩ := L n 0 (lN 0) (Nat.sub_zero _) (Nat.zero_le _) (LBt_ext LBt_0 (fun k _ => by simp))
  refine ⟨w', fun Q => ?_, B'⟩
  rw [← R Q]
  simp (disch := first | with_reducible assumption | omega | exact Or.inl rfl | exact Or.inr rfl | exact bI_01 | exact c_cat | exact vt_ref | exact vt_null | rfl | with_reducible repeat (first | assumption | omega | apply S_I | apply S_L | apply S_D | apply ob_I | apply ob_L | apply ob_D | apply ob_R | apply ax_I | apply ax_L | apply ax_D | apply ax_R | apply o303 | apply o307 | apply o302 | apply o301 | apply ax304 | apply ax305 | apply ax306 | apply ax308 | apply ax309 | apply ax310 | apply lt_S | apply ar305 | apply ar308 | apply ar309)) only [g114_0, g114_1, g114_2, g114_3, Option.toList, List.nil_append, List.cons_append, va_rf]
/-- links and reach, as far as they are drawn -/
def DR2 (h g : am_H) (n : Nat) (m : Nat → Nat) (nl : Nat → List Nat) (i : Nat) : Prop := am_fr plP h g ∧ MBx g n m ∧ ∀ k, k < i → LBt (am_L g 313 k) (fun j => decide (j < n) && lkB nl m k j) ∧ LBt (am_L g 314 k) (fun j => decide (j < n) && lkB nl m k j)
theorem x_draw2 (S : am_S h) (M : MBR mb n m) (C : CDx h mb ea nl) : ∀ q i g v, n - i = q → i ≤ n → DR2 h g n m nl i → ∃ g', DR2 h g' n m nl n ∧ ∀ Q, am_J (d + 3) 113 60 [some (.ref 311), some (.ref 10), some (.int (nI i)), v] [] g Q ↔ am_J (d + 3) 113 107 [some (.ref 311), some (.ref 10), some (.int (nI n)), v] [] g' Q := by
  have n48 := M.1
  intro q
  induction q with
  | zero =>
    intro i g v hq hi D
    obtain rfl : i = n := by omega
    have Sg := fr_S D.1 S
    refine ⟨g, D, fun Q => ?_⟩
    rw [g113_60]
    simp (disch := first | with_reducible assumption | omega | exact Or.inl rfl | exact Or.inr rfl | exact bI_01 | exact c_cat | exact vt_ref | exact vt_null | rfl | with_reducible repeat (first | assumption | omega | apply S_I | apply S_L | apply S_D | apply ob_I | apply ob_L | apply ob_D | apply ob_R | apply ax_I | apply ax_L | apply ax_D | apply ax_R | apply o303 | apply o307 | apply o302 | apply o301 | apply ax304 | apply ax305 | apply ax306 | apply ax308 | apply ax309 | apply ax310 | apply lt_S | apply ar305 | apply ar308 | apply ar309)) only [g113_61, g113_62, g113_65, Option.toList, List.nil_append, List.cons_append, va_rf, nI_ltI, nI_leI, nI_eq, nI_add, nI_sub, nI_lt0, nI_e0, nI_m1, m1_nI, Nat.reduceEqDiff, Nat.reduceLT, Nat.reduceLeDiff, Nat.reduceAdd, Nat.reduceSub, Nat.reduceMul, ↓reduceIte, eq_self, D.2.1.1, Nat.le_refl]
  | succ q ih =>
    intro i g v hq hi D
    obtain ⟨F, X, B⟩ := D
    have Sg := fr_S F S
    have hi' : i < n := by omega
    obtain ⟨hm, hmb⟩ := M.2.1 i hi'
    have em := X.2 i hi'
    have O := o22 Sg hm
    have Xc := c10_ax Sg hm
    have Rc := am_S_cell Sg hm
    have r3 := (fr_rdR F).trans ((C (m i) hm).2 hmb).1
    have Cn := CN_fr F (fun a ha => by omega) ((C (m i) hm).2 hmb).2
    obtain ⟨w, R1, B1⟩ := x_links (d := d) Sg M X Cn
    have O1 : am_ob g (ea (m i)) 1 := CN_ob Cn
    obtain ⟨g', D', R⟩ := ih (i + 1) (am_setL (am_setL g 313 i w) 314 i w) v (by omega) (by omega) ⟨fr_L (fr_L F (by omega)) (by omega), ⟨X.1, X.2⟩, fun k hk => by
      by_cases e : k = i
      · subst e
        rw [rL_a (by decide), rL_eq, rL_eq]; exact ⟨B1, B1⟩
      · rw [rL_a (by decide), rL_k e, rL_k e, rL_a (by decide)]; exact B k (by omega)⟩
    refine ⟨g', D', fun Q => ?_⟩
    rw [← R Q, g113_60]
    simp (disch := first | with_reducible assumption | omega | exact Or.inl rfl | exact Or.inr rfl | exact bI_01 | exact c_cat | exact vt_ref | exact vt_null | rfl | with_reducible repeat (first | assumption | omega | apply S_I | apply S_L | apply S_D | apply ob_I | apply ob_L | apply ob_D | apply ob_R | apply ax_I | apply ax_L | apply ax_D | apply ax_R | apply o303 | apply o307 | apply o302 | apply o301 | apply ax304 | apply ax305 | apply ax306 | apply ax308 | apply ax309 | apply ax310 | apply lt_S | apply ar305 | apply ar308 | apply ar309)) only [g113_61, g113_62, g113_65, g113_68, g113_69, g113_72, g113_73, g113_74, g113_75, g113_76, g113_79, g113_80, g113_81, g113_82, g113_85, g113_88, g113_89, g113_90, g113_93, g113_94, g113_95, g113_98, g113_99, g113_100, g113_101, g113_104, Option.toList, List.nil_append, List.cons_append, va_rf, nI_ltI, nI_leI, nI_eq, nI_add, nI_sub, nI_lt0, nI_e0, nI_m1, m1_nI, Nat.reduceEqDiff, Nat.reduceLT, Nat.reduceLeDiff, Nat.reduceAdd, Nat.reduceSub, Nat.reduceMul, ↓reduceIte, eq_self, hI_I, hI_L, hI_D, hI_R, hL_I, hL_L, hL_D, hL_R, hD_I, hD_L, hD_D, hD_R, hR_I, hR_L, hR_D, ↓reduceIte, Nat.reduceEqDiff, X.1, show ¬ n ≤ i by omega, em, Rc, r3, R1 _]
/-- reach, Warshall's rounds -/
def DR3 (h g : am_H) (n : Nat) (m : Nat → Nat) (nl : Nat → List Nat) (k i : Nat) : Prop := am_fr plP h g ∧ MBx g n m ∧ (∀ a, a < n → LBt (am_L g 313 a) (fun j => decide (j < n) && lkB nl m a j)) ∧ ∀ a, a < n → LBt (am_L g 314 a) (fun j => decide (j < n) && wS (lkB nl m) (if a < i then k + 1 else k) a j)
theorem wS_same {lk : Nat → Nat → Bool} {k j : Nat} : wS lk (k + 1) k j = wS lk k k j := by
  show (wS lk k k j || (wS lk k k k && wS lk k k j)) = _
  cases wS lk k k j <;> simp
theorem x_draw3 (S : am_S h) (M : MBR mb n m) {k : Nat} (hk : k < n) : ∀ q i g, n - i = q → i ≤ n → DR3 h g n m nl k i → ∃ g', DR3 h g' n m nl k n ∧ ∀ Q, am_J (d + 1) 113 119 [some (.ref 311), some (.ref 10), some (.int (nI k)), some (.int (nI i))] [] g Q ↔ am_J (d + 1) 113 161 [some (.ref 311), some (.ref 10), some (.int (nI k)), some (.int (nI n))] [] g' Q := by
  have n48 := M.1
  intro q
  induction q with
  | zero =>
    intro i g hq hi D
    obtain rfl : i = n := by omega
    have Sg := fr_S D.1 S
    refine ⟨g, D, fun Q => ?_⟩
    rw [g113_119]
    simp (disch := first | with_reducible assumption | omega | exact Or.inl rfl | exact Or.inr rfl | exact bI_01 | exact c_cat | exact vt_ref | exact vt_null | rfl | with_reducible repeat (first | assumption | omega | apply S_I | apply S_L | apply S_D | apply ob_I | apply ob_L | apply ob_D | apply ob_R | apply ax_I | apply ax_L | apply ax_D | apply ax_R | apply o303 | apply o307 | apply o302 | apply o301 | apply ax304 | apply ax305 | apply ax306 | apply ax308 | apply ax309 | apply ax310 | apply lt_S | apply ar305 | apply ar308 | apply ar309)) only [g113_120, g113_121, g113_124, Option.toList, List.nil_append, List.cons_append, va_rf, nI_ltI, nI_leI, nI_eq, nI_add, nI_sub, nI_lt0, nI_e0, nI_m1, m1_nI, Nat.reduceEqDiff, Nat.reduceLT, Nat.reduceLeDiff, Nat.reduceAdd, Nat.reduceSub, Nat.reduceMul, ↓reduceIte, eq_self, D.2.1.1, Nat.le_refl]
  | succ q ih =>
    intro i g hq hi D
    obtain ⟨F, X, B0, B⟩ := D
    have Sg := fr_S F S
    have hi' : i < n := by omega
    have hb := x_hasBit (d := d) (g := g) (x := am_L g 314 i) (j := k) (by omega)
    have Bi := B i hi'
    rw [if_neg (Nat.lt_irrefl i)] at Bi
    rw [LBt_get Bi (show k < 64 by omega), decide_eq_true hk, Bool.true_and] at hb
    have Bk : LBt (am_L g 314 k) (fun j => decide (j < n) && wS (lkB nl m) k k j) := by
      have := B k hk
      by_cases c : k < i
      · rw [if_pos c] at this
        exact LBt_ext this (fun j _ => by rw [wS_same])
      · rw [if_neg c] at this; exact this
    have es : ∀ j, wS (lkB nl m) (k + 1) i j = (wS (lkB nl m) k i j || (wS (lkB nl m) k i k && wS (lkB nl m) k k j)) := fun j => rfl
    cases hw : wS (lkB nl m) k i k with
    | true =>
      rw [hw] at hb
      obtain ⟨g', D', R⟩ := ih (i + 1) (am_setL g 314 i (am_L g 314 i ||| am_L g 314 k)) (by omega) (by omega) ⟨fr_L F (by omega), X, fun a ha => by rw [rL_a (by decide)]; exact B0 a ha, fun a ha => by
        by_cases e : a = i
        · subst e
          rw [rL_eq, if_pos (Nat.lt_succ_self a)]
          refine LBt_ext (LBt_or Bi Bk) (fun j _ => ?_)
          rw [es, hw, Bool.true_and]
          cases decide (j < n) <;> simp
        · rw [rL_k e]
          have := B a ha
          by_cases c : a < i
          · rw [if_pos c] at this; rw [if_pos (by omega)]; exact this
          · rw [if_neg c] at this; rw [if_neg (by omega)]; exact this⟩
      refine ⟨g', D', fun Q => ?_⟩
      rw [← R Q, g113_119]
      simp (disch := first | with_reducible assumption | omega | exact Or.inl rfl | exact Or.inr rfl | exact bI_01 | exact c_cat | exact vt_ref | exact vt_null | rfl | with_reducible repeat (first | assumption | omega | apply S_I | apply S_L | apply S_D | apply ob_I | apply ob_L | apply ob_D | apply ob_R | apply ax_I | apply ax_L | apply ax_D | apply ax_R | apply o303 | apply o307 | apply o302 | apply o301 | apply ax304 | apply ax305 | apply ax306 | apply ax308 | apply ax309 | apply ax310 | apply lt_S | apply ar305 | apply ar308 | apply ar309)) only [g113_120, g113_121, g113_124, g113_127, g113_128, g113_131, g113_132, g113_133, g113_134, g113_137, g113_140, g113_141, g113_144, g113_145, g113_146, g113_147, g113_148, g113_151, g113_152, g113_153, g113_154, g113_155, g113_158, g113_145 (a := 0), Option.toList, List.nil_append, List.cons_append, va_rf, nI_ltI, nI_leI, nI_eq, nI_add, nI_sub, nI_lt0, nI_e0, nI_m1, m1_nI, Nat.reduceEqDiff, Nat.reduceLT, Nat.reduceLeDiff, Nat.reduceAdd, Nat.reduceSub, Nat.reduceMul, ↓reduceIte, eq_self, X.1, show ¬ n ≤ i by omega, hb _, bI_t]
    | false =>
      rw [hw] at hb
      obtain ⟨g', D', R⟩ := ih (i + 1) g (by omega) (by omega) ⟨F, X, B0, fun a ha => by
        have := B a ha
        by_cases e : a = i
        · subst e
          rw [if_pos (Nat.lt_succ_self a)]
          refine LBt_ext Bi (fun j _ => ?_)
          rw [es, hw, Bool.false_and, Bool.or_false]
        · by_cases c : a < i
          · rw [if_pos c] at this; rw [if_pos (by omega)]; exact this
          · rw [if_neg c] at this; rw [if_neg (by omega)]; exact this⟩
      refine ⟨g', D', fun Q => ?_⟩
      rw [← R Q, g113_119]
      simp (disch := first | with_reducible assumption | omega | exact Or.inl rfl | exact Or.inr rfl | exact bI_01 | exact c_cat | exact vt_ref | exact vt_null | rfl | with_reducible repeat (first | assumption | omega | apply S_I | apply S_L | apply S_D | apply ob_I | apply ob_L | apply ob_D | apply ob_R | apply ax_I | apply ax_L | apply ax_D | apply ax_R | apply o303 | apply o307 | apply o302 | apply o301 | apply ax304 | apply ax305 | apply ax306 | apply ax308 | apply ax309 | apply ax310 | apply lt_S | apply ar305 | apply ar308 | apply ar309)) only [g113_120, g113_121, g113_124, g113_127, g113_128, g113_131, g113_132, g113_133, g113_134, g113_137, g113_140, g113_141, g113_144, g113_145, g113_146, g113_147, g113_148, g113_151, g113_152, g113_153, g113_154, g113_155, g113_158, Option.toList, List.nil_append, List.cons_append, va_rf, nI_ltI, nI_leI, nI_eq, nI_add, nI_sub, nI_lt0, nI_e0, nI_m1, m1_nI, Nat.reduceEqDiff, Nat.reduceLT, Nat.reduceLeDiff, Nat.reduceAdd, Nat.reduceSub, Nat.reduceMul, ↓reduceIte, eq_self, X.1, show ¬ n ≤ i by omega, hb _, bI_f]
theorem x_draw4 (S : am_S h) (M : MBR mb n m) : ∀ q k g v, n - k = q → k ≤ n → DR3 h g n m nl k 0 → ∃ g' v', DR3 h g' n m nl n 0 ∧ ∀ Q, am_J (d + 1) 113 109 [some (.ref 311), some (.ref 10), some (.int (nI k)), v] [] g Q ↔ am_J (d + 1) 113 167 [some (.ref 311), some (.ref 10), some (.int (nI n)), v'] [] g' Q := by
  have n48 := M.1
  intro q
  induction q with
  | zero =>
    intro k g v hq hk D
    obtain rfl : k = n := by omega
    have Sg := fr_S D.1 S
    refine ⟨g, v, D, fun Q => ?_⟩
    rw [g113_109]
    simp (disch := first | with_reducible assumption | omega | exact Or.inl rfl | exact Or.inr rfl | exact bI_01 | exact c_cat | exact vt_ref | exact vt_null | rfl | with_reducible repeat (first | assumption | omega | apply S_I | apply S_L | apply S_D | apply ob_I | apply ob_L | apply ob_D | apply ob_R | apply ax_I | apply ax_L | apply ax_D | apply ax_R | apply o303 | apply o307 | apply o302 | apply o301 | apply ax304 | apply ax305 | apply ax306 | apply ax308 | apply ax309 | apply ax310 | apply lt_S | apply ar305 | apply ar308 | apply ar309)) only [g113_110, g113_111, g113_114, Option.toList, List.nil_append, List.cons_append, va_rf, nI_ltI, nI_leI, nI_eq, nI_add, nI_sub, nI_lt0, nI_e0, nI_m1, m1_nI, Nat.reduceEqDiff, Nat.reduceLT, Nat.reduceLeDiff, Nat.reduceAdd, Nat.reduceSub, Nat.reduceMul, ↓reduceIte, eq_self, D.2.1.1, Nat.le_refl]
  | succ q ih =>
    intro k g v hq hk D
    have Sg := fr_S D.1 S
    have e7 := D.2.1.1
    obtain ⟨g1, D1, R1⟩ := x_draw3 (d := d) S M (show k < n by omega) n 0 g (Nat.sub_zero _) (Nat.zero_le _) D
    obtain ⟨g', v', D', R⟩ := ih (k + 1) g1 (some (.int (nI n))) (by omega) (by omega) ⟨D1.1, D1.2.1, D1.2.2.1, fun a ha => by
      have := D1.2.2.2 a ha
      rw [if_pos ha] at this
      rw [if_neg (Nat.not_lt_zero _)]; exact this⟩
    refine ⟨g', v', D', fun Q => ?_⟩
    rw [← R Q, g113_109]
    simp (disch := first | with_reducible assumption | omega | exact Or.inl rfl | exact Or.inr rfl | exact bI_01 | exact c_cat | exact vt_ref | exact vt_null | rfl | with_reducible repeat (first | assumption | omega | apply S_I | apply S_L | apply S_D | apply ob_I | apply ob_L | apply ob_D | apply ob_R | apply ax_I | apply ax_L | apply ax_D | apply ax_R | apply o303 | apply o307 | apply o302 | apply o301 | apply ax304 | apply ax305 | apply ax306 | apply ax308 | apply ax309 | apply ax310 | apply lt_S | apply ar305 | apply ar308 | apply ar309)) only [g113_110, g113_111, g113_114, g113_117, g113_118, Option.toList, List.nil_append, List.cons_append, va_rf, nI_ltI, nI_leI, nI_eq, nI_add, nI_sub, nI_lt0, nI_e0, nI_m1, m1_nI, Nat.reduceEqDiff, Nat.reduceLT, Nat.reduceLeDiff, Nat.reduceAdd, Nat.reduceSub, Nat.reduceMul, ↓reduceIte, eq_self, e7, show ¬ n ≤ k by omega, R1 _, g113_161, g113_164]
/-- what draw leaves, but for the rings -/
def DRW (h g : am_H) (n : Nat) (m : Nat → Nat) (nl : Nat → List Nat) : Prop := am_fr plP h g ∧ MBx g n m ∧ (∀ a, a < n → LBt (am_L g 313 a) (fun j => decide (j < n) && lkB nl m a j)) ∧ ∀ a, a < n → LBt (am_L g 314 a) (fun j => decide (j < n) && wS (lkB nl m) n a j)
theorem x_draw (S : am_S h) (C : CDx h mb ea nl) (hl : (mL mb 256).length ≤ 48) : ∃ g v2 v3, DRW h g (mL mb 256).length (fun i => (mL mb 256).getD i 0) nl ∧ ∀ Q, am_J (d + 3) 113 0 [some (.ref 311), some (.ref 10), none, none] [] h Q ↔ am_J (d + 3) 113 167 [some (.ref 311), some (.ref 10), v2, v3] [] g Q := by
  have M := MBR_L hl
  obtain ⟨g1, D1, R1⟩ := x_draw1 (d := d + 3) S C hl 256 0 (am_setI h 311 7 (nI 0)) none rfl (by decide) ⟨fr_I fr_refl (by omega), rI_eq, fun i x hx => by cases hx⟩
  have X1 : MBx g1 (mL mb 256).length (fun i => (mL mb 256).getD i 0) := ⟨D1.2.1, fun i hi => D1.2.2 i _ (by show _ = some ((mL mb 256).getD i 0); rw [List.getD_eq_getElem?_getD, List.getElem?_eq_getElem hi]; rfl)⟩
  obtain ⟨g2, D2, R2⟩ := x_draw2 (d := d) S M C (mL mb 256).length 0 g1 none (Nat.sub_zero _) (Nat.zero_le _) ⟨D1.1, X1, fun k hk => absurd hk (Nat.not_lt_zero _)⟩
  obtain ⟨g3, v', D3, R3⟩ := x_draw4 (d := d + 2) (nl := nl) S M (mL mb 256).length 0 g2 none (Nat.sub_zero _) (Nat.zero_le _) ⟨D2.1, D2.2.1, fun a ha => (D2.2.2 a ha).1, fun a ha => by
    rw [if_neg (Nat.not_lt_zero _)]; exact (D2.2.2 a ha).2⟩
  refine ⟨g3, some (.int (nI (mL mb 256).length)), v', ⟨D3.1, D3.2.1, D3.2.2.1, fun a ha => by
    have := D3.2.2.2 a ha
    rwa [if_neg (Nat.not_lt_zero _)] at this⟩, fun Q => ?_⟩
  rw [← R3 Q]
  simp (disch := first | with_reducible assumption | omega | exact Or.inl rfl | exact Or.inr rfl | exact bI_01 | exact c_cat | exact vt_ref | exact vt_null | rfl | with_reducible repeat (first | assumption | omega | apply S_I | apply S_L | apply S_D | apply ob_I | apply ob_L | apply ob_D | apply ob_R | apply ax_I | apply ax_L | apply ax_D | apply ax_R | apply o303 | apply o307 | apply o302 | apply o301 | apply ax304 | apply ax305 | apply ax306 | apply ax308 | apply ax309 | apply ax310 | apply lt_S | apply ar305 | apply ar308 | apply ar309)) only [g113_0, g113_1, g113_2, g113_5, g113_6, R1 _, g113_58, g113_59, R2 _, g113_107, g113_108, Option.toList, List.nil_append, List.cons_append, va_rf, nI_ltI, nI_leI, nI_eq, nI_add, nI_sub, nI_lt0, nI_e0, nI_m1, m1_nI, Nat.reduceEqDiff, Nat.reduceLT, Nat.reduceLeDiff, Nat.reduceAdd, Nat.reduceSub, Nat.reduceMul, ↓reduceIte, eq_self]
end XDR

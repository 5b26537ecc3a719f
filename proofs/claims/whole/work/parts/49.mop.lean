/-! THE MODEL'S PARSER: what it holds, and its small steps -/
theorem lx_K_mem (t : Nat → Nat) (n q : Nat) : lx_K t n q ∈ [37, 40, 41, 42, 43, 44, 45, 47, 58, 60, 61, 256, 257, 258, 259, 260, 261, 262, 263] := by
  unfold lx_K
  repeat' split
  all_goals first | decide | skip
  rename_i h5
  have hm : t q ∈ [37, 40, 41, 42, 43, 44, 45, 47, 58, 60, 61] := of_decide_eq_true h5
  simp only [List.mem_cons, List.not_mem_nil, or_false] at hm ⊢
  omega
theorem lx_E_ge {t : Nat → Nat} {n q : Nat} : q ≤ lx_E t n q := by
  unfold lx_E
  split
  · exact Nat.le_refl _
  · split
    · exact scan_ge
    · split
      · split
        · have h1 : q ≤ lx_G t n q := scan_ge
          have h2 : lx_G t n q + 1 ≤ lx_G t n (lx_G t n q + 1) := scan_ge
          omega
        · exact scan_ge
      · split
        · omega
        · split <;> omega
def mS (h : am_H) (t : Nat → Nat) (n : Nat) : Nat ⊕ (Nat × Nat) → Prop
  | .inl q => LM h t n q ∧ lx_K t n q ≠ 263 ∧ q ≤ n ∧ am_I h 349 22 = nI 0 ∧ am_I h 349 4 = -1
  | .inr x => MB h n x.1 x.2 ∧ x.1 ≠ 0 ∧ x.1 < 100 ∧ x.2 ≤ n
def MX (h : am_H) (t : Nat → Nat) (n : Nat) (md : Nat ⊕ (Nat × Nat)) (k o : Int32) (m : Nat) (wn wp : Int32) : Prop :=
  am_S h ∧ am_Gv h ∧ mT h t n ∧ mS h t n md ∧ am_I h 349 25 = k ∧ am_I h 349 26 = o ∧ am_I h 349 27 = nI m ∧ m ≤ 40 ∧ am_I h 349 24 = wn ∧ am_I h 349 23 = wp
/-- what the model's parser of an E leaves as it was, where m nodes stood -/
def MF (h h' : am_H) (m : Nat) : Prop := am_fr (fun a => a = 349 ∨ (352 ≤ a ∧ a ≤ 357)) h h' ∧ (∀ k, ¬ (k = 4 ∨ (17 ≤ k ∧ k ≤ 20) ∨ (22 ≤ k ∧ k ≤ 27)) → am_I h' 349 k = am_I h 349 k) ∧ (∀ k, am_L h' 349 k = am_L h 349 k) ∧ ∀ a i, 352 ≤ a → a ≤ 357 → (i < 3648 + m ∨ 3696 ≤ i) → am_I h' a i = am_I h a i ∧ am_L h' a i = am_L h a i
section MOP
variable {d : Nat} {h g g' : am_H} {Q : Option Value → am_H → Prop} {v0 v1 v2 v3 v4 v5 : Option Value} {t : Nat → Nat} {n : Nat} {md : Nat ⊕ (Nat × Nat)} {k o wn wp : Int32} {m m' : Nat}
theorem MF_refl : MF h h m := ⟨fr_refl, fun _ _ => rfl, fun _ => rfl, fun _ _ _ _ _ => ⟨rfl, rfl⟩⟩
theorem MF_trans (F : MF h g m) (G : MF g g' m') (hm : m ≤ m') : MF h g' m := ⟨fr_trans F.1 G.1, fun k hk => (G.2.1 k hk).trans (F.2.1 k hk), fun k => (G.2.2.1 k).trans (F.2.2.1 k), fun a i h1 h2 hi => ⟨(G.2.2.2 a i h1 h2 (by omega)).1.trans (F.2.2.2 a i h1 h2 hi).1, (G.2.2.2 a i h1 h2 (by omega)).2.trans (F.2.2.2 a i h1 h2 hi).2⟩⟩
theorem MF_I {j : Nat} {x : Int32} (F : MF h g m) (hj : j = 4 ∨ (17 ≤ j ∧ j ≤ 20) ∨ (22 ≤ j ∧ j ≤ 27)) : MF h (am_setI g 349 j x) m := ⟨fr_I F.1 (Or.inl rfl), fun k hk => by rw [rI_k (by omega)]; exact F.2.1 k hk, F.2.2.1, fun a i h1 h2 hi => by rw [rI_a (by omega)]; exact F.2.2.2 a i h1 h2 hi⟩
theorem MF_T {a j : Nat} {x : Int32} (F : MF h g m) (ha : 352 ≤ a ∧ a ≤ 357) (hj : 3648 + m ≤ j ∧ j < 3696) : MF h (am_setI g a j x) m := ⟨fr_I F.1 (Or.inr ha), fun k hk => by rw [rI_a (by omega)]; exact F.2.1 k hk, F.2.2.1, fun b i h1 h2 hi => by
  refine ⟨?_, (F.2.2.2 b i h1 h2 hi).2⟩
  by_cases e : b = a
  · subst e; rw [rI_k (by omega)]; exact (F.2.2.2 b i h1 h2 hi).1
  · rw [rI_a e]; exact (F.2.2.2 b i h1 h2 hi).1⟩
theorem MF_TL {a j : Nat} {x : Int64} (F : MF h g m) (ha : 352 ≤ a ∧ a ≤ 357) (hj : 3648 + m ≤ j ∧ j < 3696) : MF h (am_setL g a j x) m := ⟨fr_L F.1 (Or.inr ha), F.2.1, fun k => by rw [rL_a (by omega)]; exact F.2.2.1 k, fun b i h1 h2 hi => by
  refine ⟨(F.2.2.2 b i h1 h2 hi).1, ?_⟩
  by_cases e : b = a
  · subst e; rw [rL_k (by omega)]; exact (F.2.2.2 b i h1 h2 hi).2
  · rw [rL_a e]; exact (F.2.2.2 b i h1 h2 hi).2⟩
theorem MF_S (F : MF h g m) (S : am_S h) : am_S g := fr_S F.1 S
theorem MF_G (F : MF h g m) (G : am_Gv h) : am_Gv g := Gv_fr F.1 (by omega) (by omega) (by omega) G
theorem MF_T0 (F : MF h g m) (T : mT h t n) : mT g t n := mT_fr F.1 (by omega) (F.2.1 21 (by omega)) T
theorem MF_349 (F : am_fr (fun a => a = 349) h g) (hk : ∀ k, k ≠ 4 → (k < 17 ∨ 20 < k) → k ≠ 22 → am_I g 349 k = am_I h 349 k) (hl : ∀ k, am_L g 349 k = am_L h 349 k) : MF h g m := ⟨fr_mono (fun a e => Or.inl e) F, fun k h => hk k (by omega) (by omega) (by omega), hl, fun a i h1 h2 _ => ⟨fr_rdI F (by omega), fr_rdL F (by omega)⟩⟩
/-- next -/
theorem mS_keep (h1 : ∀ j, j = 4 ∨ (17 ≤ j ∧ j ≤ 20) ∨ j = 22 → am_I g 349 j = am_I h 349 j) (L : mS h t n md) : mS g t n md := by
  have e4 := h1 4 (by omega)
  have e17 := h1 17 (by omega)
  have e18 := h1 18 (by omega)
  have e19 := h1 19 (by omega)
  have e20 := h1 20 (by omega)
  have e22 := h1 22 (by omega)
  match md, L with
  | .inl q, L => simp only [mS, LM, e4, e17, e18, e19, e20, e22] at L ⊢; exact L
  | .inr x, L => simp only [mS, MB, e4, e17, e18, e19, e20, e22] at L ⊢; exact L
theorem m_nx (X : MX h t n md k o m wn wp) : ∃ h', am_run (d + 3) 193 [some (.ref 349), v1] h none h' ∧ MX h' t n (mdA t n md) k o m wn wp ∧ MF h h' m := by
  obtain ⟨S, G, T, L, e1, e2, e3, e4, e5, e6⟩ := id X
  match md, L with
  | .inl q, ⟨⟨l1, l2, l3, l4⟩, lk, lq, f22, f4⟩ =>
    have hE : lx_E t n q ≤ n := lx_E_le lq lk
    obtain ⟨h', R, Fr, A1, A2, A3, A4⟩ := m_next (d := d) (v1 := v1) S T l1 hE f22
    have F0 : MF h h' m := MF_349 Fr A3 A4
    have hq : lx_q t n (lx_E t n q) ≤ n := scan_le hE
    refine ⟨h', R, ⟨MF_S F0 S, MF_G F0 G, MF_T0 F0 T, ?_, (A3 25 (by decide) (by decide) (by decide)).trans e1, (A3 26 (by decide) (by decide) (by decide)).trans e2, (A3 27 (by decide) (by decide) (by decide)).trans e3, e4, (A3 24 (by decide) (by decide) (by decide)).trans e5, (A3 23 (by decide) (by decide) (by decide)).trans e6⟩, F0⟩
    unfold mdA
    by_cases c : lx_K t n (lx_q t n (lx_E t n q)) = 263
    · simp only [c, ↓reduceIte]
      exact ⟨A2 c, Nat.one_ne_zero, show 1 < 100 by decide, hq⟩
    · simp only [c, ↓reduceIte]
      obtain ⟨a1, a2, a3⟩ := A1 c
      exact ⟨a1, c, hq, a2.trans f22, a3.trans f4⟩
  | .inr x, ⟨⟨b1, b2⟩, b3, b4, b5⟩ =>
    exact ⟨h, fun Q => m_nextB (d := d + 3) (v1 := v1) S b1 b3 b4, X, MF_refl⟩
/-- stop, at the token -/
theorem m_stp (X : MX h t n md k o m wn wp) {f : Nat} (hf : f ≠ 0) (hf2 : f < 100) {p : Int32} (hp : ∀ q, md = .inl q → p = nI q) : ∃ h', am_run d 196 [some (.ref 349), some (.int (nI f)), some (.int p)] h none h' ∧ MX h' t n (mdR f md) k o m wn wp ∧ MF h h' m := by
  obtain ⟨S, G, T, L, e1, e2, e3, e4, e5, e6⟩ := id X
  match md, L, hp with
  | .inl q, ⟨⟨l1, l2, l3, l4⟩, lk, lq, f22, f4⟩, hp =>
    have hE : lx_E t n q ≤ n := lx_E_le lq lk
    obtain rfl := hp q rfl
    have F0 : MF h (am_setI (am_setI h 349 22 (nI f)) 349 4 (nI q)) m := MF_I (MF_I MF_refl (by omega)) (by omega)
    refine ⟨am_setI (am_setI h 349 22 (nI f)) 349 4 (nI q), fun Q => ?_, ⟨MF_S F0 S, MF_G F0 G, MF_T0 F0 T, ⟨?_, hf, hf2, lq⟩, ?_, ?_, ?_, e4, ?_, ?_⟩, F0⟩
    · simp (disch := first | with_reducible assumption | omega | exact Or.inl rfl | exact Or.inr rfl | exact bI_01 | exact c_cat | rfl | with_reducible repeat (first | assumption | apply S_I | apply S_L | apply S_D | apply ob_I | apply ob_L | apply ob_D | apply ob_R | apply ax_I | apply ax_L | apply ax_D | apply ax_R)) only [g196_0, g196_1, g196_4, g196_7, g196_8, g196_9, g196_10, g196_13, g196_14, g196_15, g196_18, f22, nI_ltI, nI_leI, nI_eq, nI_add, nI_sub, nI_lt0, nI_e0, nI_m1, m1_nI, Nat.reduceEqDiff, Nat.reduceLT, Nat.reduceLeDiff, Nat.reduceAdd, Nat.reduceSub, Nat.reduceMul, ↓reduceIte, eq_self]
    · simp only [MB, hI_I, hI_L, hI_D, hI_R, hL_I, hL_L, hL_D, hL_R, hD_I, hD_L, hD_D, hD_R, hR_I, hR_L, hR_D, ↓reduceIte, Nat.reduceEqDiff, l1, l2, l3, true_and]
      refine ⟨q, _, _, lq, rfl, lx_E_ge, by omega, rfl, ?_, rfl, fun _ => hE⟩
      unfold mtok; repeat' split
      all_goals omega
    all_goals simp only [hI_I, hI_L, hI_D, hI_R, hL_I, hL_L, hL_D, hL_R, hD_I, hD_L, hD_D, hD_R, hR_I, hR_L, hR_D, ↓reduceIte, Nat.reduceEqDiff, e1, e2, e3, e5, e6]
  | .inr x, ⟨⟨b1, b2⟩, b3, b4, b5⟩, _ =>
    refine ⟨h, fun Q => ?_, X, MF_refl⟩
    simp (disch := first | with_reducible assumption | omega | exact Or.inl rfl | exact Or.inr rfl | exact bI_01 | exact c_cat | rfl | with_reducible repeat (first | assumption | apply S_I | apply S_L | apply S_D | apply ob_I | apply ob_L | apply ob_D | apply ob_R | apply ax_I | apply ax_L | apply ax_D | apply ax_R)) only [g196_0, g196_1, g196_4, g196_7, g196_8, g196_9, g196_10, g196_13, g196_14, g196_15, g196_18, b1, nI_ltI, nI_leI, nI_eq, nI_add, nI_sub, nI_lt0, nI_e0, nI_m1, m1_nI, Nat.reduceEqDiff, Nat.reduceLT, Nat.reduceLeDiff, Nat.reduceAdd, Nat.reduceSub, Nat.reduceMul, ↓reduceIte, eq_self, b3]
/-- is the token this sign? by the class's number of it -/
def mcode (v : Nat) : Nat := if v = 76 then 256 else if v = 78 then 257 else v
theorem m_sign (X : MX h t n md k o m wn wp) {v : Nat} (hv : v ∈ [37, 40, 41, 42, 43, 44, 45, 47, 58, 60, 61, 76, 78]) : am_J d 205 0 [some (.ref 349), some (.int (nI v))] [] h Q ↔ Q (some (.int (bI (decide (mdK t n md = mcode v))))) h := by
  obtain ⟨S, G, T, L, e1, e2, e3, e4, e5, e6⟩ := id X
  have hv2 : v < 100 := by simp only [List.mem_cons, List.not_mem_nil, or_false] at hv; omega
  have hv3 : mcode v < 258 := by simp only [List.mem_cons, List.not_mem_nil, or_false] at hv; unfold mcode; repeat' split
                                 all_goals omega
  match md, L with
  | .inl q, ⟨⟨l1, l2, l3, l4⟩, lk, lq, f22, f4⟩ =>
    have hK := lx_K_mem t n q
    have key : (mtok (lx_K t n q) = 5 ∧ msgn (lx_K t n q) = v) ↔ lx_K t n q = mcode v := by
      have : ∀ K, K ∈ [37, 40, 41, 42, 43, 44, 45, 47, 58, 60, 61, 256, 257, 258, 259, 260, 261, 262, 263] → ∀ v, v ∈ [37, 40, 41, 42, 43, 44, 45, 47, 58, 60, 61, 76, 78] → K ≠ 263 → ((mtok K = 5 ∧ msgn K = v) ↔ K = mcode v) := by decide +kernel
      exact this _ hK v hv lk
    have hm : mtok (lx_K t n q) ≤ 5 := by unfold mtok; repeat' split
                                          all_goals omega
    by_cases c1 : mtok (lx_K t n q) = 5
    · have ms := l4 c1
      have hs : msgn (lx_K t n q) < 1000 := by
        have : ∀ K, K ∈ [37, 40, 41, 42, 43, 44, 45, 47, 58, 60, 61, 256, 257, 258, 259, 260, 261, 262, 263] → msgn K < 1000 := by decide +kernel
        exact this _ hK
      by_cases c2 : msgn (lx_K t n q) = v
      · rw [show mdK t n (.inl q) = mcode v from key.mp ⟨c1, c2⟩]
        simp (disch := first | with_reducible assumption | omega | exact Or.inl rfl | exact Or.inr rfl | exact bI_01 | exact c_cat | rfl | with_reducible repeat (first | assumption | apply S_I | apply S_L | apply S_D | apply ob_I | apply ob_L | apply ob_D | apply ob_R | apply ax_I | apply ax_L | apply ax_D | apply ax_R)) only [g205_0, g205_1, g205_4, g205_7, g205_8, g205_11, g205_12, g205_15, g205_16, g205_19, g205_20, g205_23, g205_24, g205_27, g205_28, f22, l2, ms, c1, c2, nI_ltI, nI_leI, nI_eq, nI_add, nI_sub, nI_lt0, nI_e0, nI_m1, m1_nI, Nat.reduceEqDiff, Nat.reduceLT, Nat.reduceLeDiff, Nat.reduceAdd, Nat.reduceSub, Nat.reduceMul, ↓reduceIte, eq_self, decide_true, bI_t]
      · rw [show decide (mdK t n (.inl q) = mcode v) = false from decide_eq_false (fun e => c2 (key.mpr e).2)]
        simp (disch := first | with_reducible assumption | omega | exact Or.inl rfl | exact Or.inr rfl | exact bI_01 | exact c_cat | rfl | with_reducible repeat (first | assumption | apply S_I | apply S_L | apply S_D | apply ob_I | apply ob_L | apply ob_D | apply ob_R | apply ax_I | apply ax_L | apply ax_D | apply ax_R)) only [g205_0, g205_1, g205_4, g205_7, g205_8, g205_11, g205_12, g205_15, g205_16, g205_19, g205_20, g205_23, g205_24, g205_27, g205_28, f22, l2, ms, c1, c2, nI_ltI, nI_leI, nI_eq, nI_add, nI_sub, nI_lt0, nI_e0, nI_m1, m1_nI, Nat.reduceEqDiff, Nat.reduceLT, Nat.reduceLeDiff, Nat.reduceAdd, Nat.reduceSub, Nat.reduceMul, ↓reduceIte, eq_self, bI_f]
    · rw [show decide (mdK t n (.inl q) = mcode v) = false from decide_eq_false (fun e => c1 (key.mpr e).1)]
      simp (disch := first | with_reducible assumption | omega | exact Or.inl rfl | exact Or.inr rfl | exact bI_01 | exact c_cat | rfl | with_reducible repeat (first | assumption | apply S_I | apply S_L | apply S_D | apply ob_I | apply ob_L | apply ob_D | apply ob_R | apply ax_I | apply ax_L | apply ax_D | apply ax_R)) only [g205_0, g205_1, g205_4, g205_7, g205_8, g205_11, g205_12, g205_15, g205_16, g205_19, g205_20, g205_23, g205_24, g205_27, g205_28, f22, l2, c1, nI_ltI, nI_leI, nI_eq, nI_add, nI_sub, nI_lt0, nI_e0, nI_m1, m1_nI, Nat.reduceEqDiff, Nat.reduceLT, Nat.reduceLeDiff, Nat.reduceAdd, Nat.reduceSub, Nat.reduceMul, ↓reduceIte, eq_self, bI_f]
  | .inr x, ⟨⟨b1, b2⟩, b3, b4, b5⟩ =>
    rw [show decide (mdK t n (.inr x) = mcode v) = false from decide_eq_false (fun e => by have e : 263 = mcode v := e; omega)]
    simp (disch := first | with_reducible assumption | omega | exact Or.inl rfl | exact Or.inr rfl | exact bI_01 | exact c_cat | rfl | with_reducible repeat (first | assumption | apply S_I | apply S_L | apply S_D | apply ob_I | apply ob_L | apply ob_D | apply ob_R | apply ax_I | apply ax_L | apply ax_D | apply ax_R)) only [g205_0, g205_1, g205_4, g205_7, g205_8, g205_11, g205_12, g205_15, g205_16, g205_19, g205_20, g205_23, g205_24, g205_27, g205_28, b1, b3, nI_ltI, nI_leI, nI_eq, nI_add, nI_sub, nI_lt0, nI_e0, nI_m1, m1_nI, Nat.reduceEqDiff, Nat.reduceLT, Nat.reduceLeDiff, Nat.reduceAdd, Nat.reduceSub, Nat.reduceMul, ↓reduceIte, eq_self, bI_f]
/-- need -/
theorem m_needT (S : am_S h) : am_J d 203 0 [some (.ref 349), some (.int (bI true))] [] h Q ↔ Q none h := by
  simp (disch := first | with_reducible assumption | omega | exact Or.inl rfl | exact Or.inr rfl | exact bI_01 | exact c_cat | rfl | with_reducible repeat (first | assumption | apply S_I | apply S_L | apply S_D | apply ob_I | apply ob_L | apply ob_D | apply ob_R | apply ax_I | apply ax_L | apply ax_D | apply ax_R)) only [g203_0, g203_1, g203_4, g203_5, g203_6, g203_7, g203_10, g203_13, g203_14, g203_17, g203_20, g203_21, g203_24, g203_27, bI_t, nI_ltI, nI_leI, nI_eq, nI_add, nI_sub, nI_lt0, nI_e0, nI_m1, m1_nI, Nat.reduceEqDiff, Nat.reduceLT, Nat.reduceLeDiff, Nat.reduceAdd, Nat.reduceSub, Nat.reduceMul, ↓reduceIte, eq_self]
theorem m_needF (X : MX h t n md k o m wn wp) : ∃ h', am_run (d + 1) 203 [some (.ref 349), some (.int (bI false))] h none h' ∧ MX h' t n (mdR 2 md) k o m wn wp ∧ MF h h' m := by
  obtain ⟨S, G, T, L, e1, e2, e3, e4, e5, e6⟩ := id X
  obtain ⟨T1, T2, T3⟩ := T
  match md, L with
  | .inl q, ⟨⟨l1, l2, l3, l4⟩, lk, lq, f22, f4⟩ =>
    obtain ⟨h', R, X', F'⟩ := m_stp (d := d) X (f := 2) (p := nI q) (by decide) (by decide) (fun q' e => by cases e; rfl)
    refine ⟨h', fun Q => ?_, X', F'⟩
    by_cases c : mtok (lx_K t n q) = 0
    · have hq : q = n := by
        have h62 : lx_K t n q = 262 := by
          have : ∀ K, K ∈ [37, 40, 41, 42, 43, 44, 45, 47, 58, 60, 61, 256, 257, 258, 259, 260, 261, 262, 263] → mtok K = 0 → K = 262 := by decide +kernel
          exact this _ (lx_K_mem t n q) c
        by_cases c2 : n ≤ q
        · omega
        · exfalso
          unfold lx_K at h62
          rw [if_neg c2] at h62
          revert h62
          repeat' split
          all_goals first | omega | skip
          intro e
          have := (T3 q (by omega)).2.1
          omega
      subst hq
      simp (disch := first | with_reducible assumption | omega | exact Or.inl rfl | exact Or.inr rfl | exact bI_01 | exact c_cat | rfl | with_reducible repeat (first | assumption | apply S_I | apply S_L | apply S_D | apply ob_I | apply ob_L | apply ob_D | apply ob_R | apply ax_I | apply ax_L | apply ax_D | apply ax_R)) only [g203_0, g203_1, g203_4, g203_5, g203_6, g203_7, g203_10, g203_13, g203_14, g203_17, g203_20, g203_21, g203_24, g203_27, bI_f, l2, c, T1, nI_ltI, nI_leI, nI_eq, nI_add, nI_sub, nI_lt0, nI_e0, nI_m1, m1_nI, Nat.reduceEqDiff, Nat.reduceLT, Nat.reduceLeDiff, Nat.reduceAdd, Nat.reduceSub, Nat.reduceMul, ↓reduceIte, eq_self, Option.toList, List.nil_append, List.cons_append, va_rf, R _]
    · have hm : mtok (lx_K t n q) ≤ 5 := by unfold mtok; repeat' split
                                            all_goals omega
      simp (disch := first | with_reducible assumption | omega | exact Or.inl rfl | exact Or.inr rfl | exact bI_01 | exact c_cat | rfl | with_reducible repeat (first | assumption | apply S_I | apply S_L | apply S_D | apply ob_I | apply ob_L | apply ob_D | apply ob_R | apply ax_I | apply ax_L | apply ax_D | apply ax_R)) only [g203_0, g203_1, g203_4, g203_5, g203_6, g203_7, g203_10, g203_13, g203_14, g203_17, g203_20, g203_21, g203_24, g203_27, bI_f, l2, c, l3, nI_ltI, nI_leI, nI_eq, nI_add, nI_sub, nI_lt0, nI_e0, nI_m1, m1_nI, Nat.reduceEqDiff, Nat.reduceLT, Nat.reduceLeDiff, Nat.reduceAdd, Nat.reduceSub, Nat.reduceMul, ↓reduceIte, eq_self, Option.toList, List.nil_append, List.cons_append, va_rf, R _]
  | .inr x, ⟨⟨b1, b2, q', e', k', d1, c7, d2, c1, c2, c3, c4, c5⟩, b3, b4, b5⟩ =>
    refine ⟨h, fun Q => ?_, X, MF_refl⟩
    by_cases c : k' = 0
    · simp (disch := first | with_reducible assumption | omega | exact Or.inl rfl | exact Or.inr rfl | exact bI_01 | exact c_cat | rfl | with_reducible repeat (first | assumption | apply S_I | apply S_L | apply S_D | apply ob_I | apply ob_L | apply ob_D | apply ob_R | apply ax_I | apply ax_L | apply ax_D | apply ax_R)) only [g203_0, g203_1, g203_4, g203_5, g203_6, g203_7, g203_10, g203_13, g203_14, g203_17, g203_20, g203_21, g203_24, g203_27, g196_0, g196_1, g196_4, g196_7, g196_8, g196_9, g196_10, g196_13, g196_14, g196_15, g196_18, bI_f, c4, c, T1, nI_ltI, nI_leI, nI_eq, nI_add, nI_sub, nI_lt0, nI_e0, nI_m1, m1_nI, Nat.reduceEqDiff, Nat.reduceLT, Nat.reduceLeDiff, Nat.reduceAdd, Nat.reduceSub, Nat.reduceMul, ↓reduceIte, eq_self, Option.toList, List.nil_append, List.cons_append, va_rf, b1, b3]
    · simp (disch := first | with_reducible assumption | omega | exact Or.inl rfl | exact Or.inr rfl | exact bI_01 | exact c_cat | rfl | with_reducible repeat (first | assumption | apply S_I | apply S_L | apply S_D | apply ob_I | apply ob_L | apply ob_D | apply ob_R | apply ax_I | apply ax_L | apply ax_D | apply ax_R)) only [g203_0, g203_1, g203_4, g203_5, g203_6, g203_7, g203_10, g203_13, g203_14, g203_17, g203_20, g203_21, g203_24, g203_27, g196_0, g196_1, g196_4, g196_7, g196_8, g196_9, g196_10, g196_13, g196_14, g196_15, g196_18, bI_f, c4, c, c7, nI_ltI, nI_leI, nI_eq, nI_add, nI_sub, nI_lt0, nI_e0, nI_m1, m1_nI, Nat.reduceEqDiff, Nat.reduceLT, Nat.reduceLeDiff, Nat.reduceAdd, Nat.reduceSub, Nat.reduceMul, ↓reduceIte, eq_self, Option.toList, List.nil_append, List.cons_append, va_rf, b1, b3]
/-- pass -/
def mpass (t : Nat → Nat) (n : Nat) (md : Nat ⊕ (Nat × Nat)) (v : Nat) : Nat ⊕ (Nat × Nat) := if mdK t n md = v then mdA t n md else mdR 2 md
theorem m_pass (X : MX h t n md k o m wn wp) {v : Nat} (hv : v ∈ [37, 40, 41, 42, 43, 44, 45, 47, 58, 60, 61]) : ∃ h', am_run (d + 4) 208 [some (.ref 349), some (.int (nI v))] h none h' ∧ MX h' t n (mpass t n md v) k o m wn wp ∧ MF h h' m := by
  have S := X.1
  have hc : mcode v = v := by simp only [List.mem_cons, List.not_mem_nil, or_false] at hv; unfold mcode; rw [if_neg (by omega), if_neg (by omega)]
  have hv' : v ∈ [37, 40, 41, 42, 43, 44, 45, 47, 58, 60, 61, 76, 78] := List.mem_append_left [76, 78] hv
  by_cases c : mdK t n md = v
  · obtain ⟨h', R, X', F'⟩ := m_nx (d := d) (v1 := none) X
    rw [show mpass t n md v = mdA t n md from if_pos c]
    refine ⟨h', fun Q => ?_, X', F'⟩
    simp (disch := first | with_reducible assumption | omega | exact Or.inl rfl | exact Or.inr rfl | exact bI_01 | exact c_cat | rfl | with_reducible repeat (first | assumption | apply S_I | apply S_L | apply S_D | apply ob_I | apply ob_L | apply ob_D | apply ob_R | apply ax_I | apply ax_L | apply ax_D | apply ax_R)) only [g208_0, g208_1, g208_2, g208_3, g208_6, g208_9, g208_10, g208_13, m_sign X hv', hc, c, decide_true, m_needT, Option.toList, List.nil_append, List.cons_append, va_rf, R _]
  · obtain ⟨h1, R1, X1, F1⟩ := m_needF (d := d + 2) X
    have S1 := X1.1
    rw [show mpass t n md v = mdR 2 md from if_neg c]
    obtain ⟨h2, R2, X2, F2⟩ := m_nx (d := d) (v1 := none) X1
    have e : mdA t n (mdR 2 md) = mdR 2 md := by cases md <;> rfl
    rw [e] at X2
    refine ⟨h2, fun Q => ?_, X2, MF_trans F1 F2 (Nat.le_refl _)⟩
    simp (disch := first | with_reducible assumption | omega | exact Or.inl rfl | exact Or.inr rfl | exact bI_01 | exact c_cat | rfl | with_reducible repeat (first | assumption | apply S_I | apply S_L | apply S_D | apply ob_I | apply ob_L | apply ob_D | apply ob_R | apply ax_I | apply ax_L | apply ax_D | apply ax_R)) only [g208_0, g208_1, g208_2, g208_3, g208_6, g208_9, g208_10, g208_13, m_sign X hv', hc, c, decide_false, R1 _, Option.toList, List.nil_append, List.cons_append, va_rf, R2 _]
end MOP

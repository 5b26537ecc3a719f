/-! THE MODEL: what a cell needs by way of others -/
abbrev mkP : Nat → Prop := fun a => a = 349 ∨ a = 390 ∨ a = 396 ∨ a = 397 ∨ a = 398
/-- ml is marked, stk lies on the stack -/
def MK (h g : am_H) (ml stk : List Nat) : Prop := am_fr mkP h g ∧ (∀ k, k ≠ 83 → am_I g 349 k = am_I h 349 k) ∧ (∀ y, y < 256 → am_I g 396 y = nI (if y ∈ ml then 1 else 0)) ∧ (∀ i c, stk[i]? = some c → am_I g 397 i = nI c) ∧ ml.Nodup ∧ (∀ y, y ∈ ml → y < 256) ∧ (∀ y, y ∈ stk → y ∈ ml) ∧ stk.length ≤ ml.length
theorem nI_le0z {n : Nat} (h : n < 2 ^ 31) : (nI n ≤ 0) = (n = 0) := propext (by
  rw [Int32.le_iff_toInt_le, nI_toInt h, show (0 : Int32).toInt = 0 from by decide]
  omega)
section MMK
variable {d nf : Nat} {g h : am_H} {mb : Nat → Bool} {sl : Nat → Nat} {nl : Nat → List Nat} {Gc : Nat → List (Nat × Nat)} {ml stk : List Nat} {x c : Nat}
theorem MK_len (M : MK h g ml stk) : ml.length ≤ 256 := nodup_le 256 _ M.2.2.2.2.1 M.2.2.2.2.2.1
theorem MK_room (M : MK h g ml stk) (hc : c < 256) (hn : c ∉ ml) : ml.length < 256 := by
  have := nodup_le 256 (c :: ml) (List.nodup_cons.mpr ⟨hn, M.2.2.2.2.1⟩) (fun y hy => by
    rcases List.mem_cons.mp hy with rfl | hy
    · exact hc
    · exact M.2.2.2.2.2.1 y hy)
  rw [List.length_cons] at this
  omega
/-- a cell is marked and pushed -/
theorem MK_push (M : MK h g ml stk) (hc : c < 256) (hn : c ∉ ml) : MK h (am_setI (am_setI g 396 c (nI 1)) 397 stk.length (nI c)) (ml ++ [c]) (stk ++ [c]) := by
  obtain ⟨m1, m2, m3, m4, m5, m6, m7, m8⟩ := M
  refine ⟨fr_I (fr_I m1 (by omega)) (by omega), fun k hk => by rw [rI_a (by decide), rI_a (by decide)]; exact m2 k hk, fun y hy => ?_, fun i z hz => ?_, ?_, fun y hy => ?_, fun y hy => ?_, by rw [List.length_append, List.length_append]; omega⟩
  · rw [rI_a (by decide)]
    by_cases e : y = c
    · subst e
      rw [rI_eq, if_pos (List.mem_append.mpr (Or.inr (List.mem_singleton.mpr rfl)))]
    · rw [rI_k e, m3 y hy]
      by_cases cm : y ∈ ml
      · rw [if_pos cm, if_pos (List.mem_append.mpr (Or.inl cm))]
      · rw [if_neg cm, if_neg (fun z => (List.mem_append.mp z).elim cm (fun z => e (List.mem_singleton.mp z)))]
  · rcases getElem?_snoc hz with ⟨hi, hz⟩ | ⟨rfl, rfl⟩
    · rw [rI_k (by omega), rI_a (by decide)]; exact m4 i z hz
    · rw [rI_eq]
  · rw [List.nodup_append]
    refine ⟨m5, List.nodup_cons.mpr ⟨List.not_mem_nil, List.nodup_nil⟩, fun a ha b hb => ?_⟩
    rw [List.mem_singleton.mp hb]
    exact fun z => hn (z ▸ ha)
  · rcases List.mem_append.mp hy with hy | hy
    · exact m6 y hy
    · rw [List.mem_singleton.mp hy]; exact hc
  · rcases List.mem_append.mp hy with hy | hy
    · exact List.mem_append.mpr (Or.inl (m7 y hy))
    · exact List.mem_append.mpr (Or.inr hy)
theorem MK_pop {s : List Nat} (M : MK h g ml (s ++ [c])) : MK h g ml s := by
  obtain ⟨m1, m2, m3, m4, m5, m6, m7, m8⟩ := M
  rw [List.length_append] at m8
  refine ⟨m1, m2, m3, fun i z hz => m4 i z ?_, m5, m6, fun y hy => m7 y (List.mem_append.mpr (Or.inl hy)), by omega⟩
  have hi := (List.getElem?_eq_some_iff.mp hz).1
  rw [List.getElem?_append_left hi]; exact hz
/-- all marks are taken away -/
theorem m_mark0 (S : am_S h) : ∀ q k g, 256 - k = q → k ≤ 256 → am_fr mkP h g → (∀ j, j ≠ 83 → am_I g 349 j = am_I h 349 j) → (∀ y, y < k → am_I g 396 y = nI 0) → ∃ g', MK h g' [] [] ∧ ∀ v1 v3 Q, am_J d 238 2 [some (.ref 349), v1, some (.int (nI k)), v3] [] g Q ↔ am_J d 238 22 [some (.ref 349), v1, some (.int (nI 256)), v3] [] g' Q := by
  intro q
  induction q with
  | zero =>
    intro k g hq hk F e H
    obtain rfl : k = 256 := by omega
    refine ⟨g, ⟨F, e, fun y hy => (by rw [if_neg List.not_mem_nil]; exact H y hy), fun i z hz => (by cases hz), List.nodup_nil, fun y hy => (by cases hy), fun y hy => (by cases hy), Nat.le_refl _⟩, fun v1 v3 Q => ?_⟩
    rw [g238_2]
    simp (disch := first | with_reducible assumption | omega | exact Or.inl rfl | exact Or.inr rfl | exact bI_01 | exact c_cat | exact vt_ref | exact vt_null | rfl | with_reducible repeat (first | assumption | omega | apply S_I | apply S_L | apply S_D | apply ob_I | apply ob_L | apply ob_D | apply ob_R | apply ax_I | apply ax_L | apply ax_D | apply ax_R | apply o303 | apply o307 | apply o302 | apply o301 | apply ax304 | apply ax305 | apply ax306 | apply ax308 | apply ax309 | apply ax310 | apply lt_S | apply ar305 | apply ar308 | apply ar309)) only [g238_3, g238_6, Option.toList, List.nil_append, List.cons_append, va_rf, nI_ltI, nI_leI, nI_eq, nI_add, nI_sub, nI_lt0, nI_e0, nI_m1, m1_nI, Nat.reduceEqDiff, Nat.reduceLT, Nat.reduceLeDiff, Nat.reduceAdd, Nat.reduceSub, Nat.reduceMul, ↓reduceIte, eq_self, Nat.le_refl]
  | succ q ih =>
    intro k g hq hk F e H
    have Sg := fr_S F S
    obtain ⟨g', M', R'⟩ := ih (k + 1) (am_setI g 396 k (nI 0)) (by omega) (by omega) (fr_I F (by omega)) (fun j hj => by rw [rI_a (by decide)]; exact e j hj) (fun y hy => by
      by_cases e : y = k
      · rw [e, rI_eq]
      · rw [rI_k e]; exact H y (by omega))
    refine ⟨g', M', fun v1 v3 Q => ?_⟩
    rw [← R' v1 v3 Q, g238_2]
    simp (disch := first | with_reducible assumption | omega | exact Or.inl rfl | exact Or.inr rfl | exact bI_01 | exact c_cat | exact vt_ref | exact vt_null | rfl | with_reducible repeat (first | assumption | omega | apply S_I | apply S_L | apply S_D | apply ob_I | apply ob_L | apply ob_D | apply ob_R | apply ax_I | apply ax_L | apply ax_D | apply ax_R | apply o303 | apply o307 | apply o302 | apply o301 | apply ax304 | apply ax305 | apply ax306 | apply ax308 | apply ax309 | apply ax310 | apply lt_S | apply ar305 | apply ar308 | apply ar309)) only [g238_3, g238_6, g238_9, g238_10, g238_13, g238_14, g238_15, g238_16, g238_19, Option.toList, List.nil_append, List.cons_append, va_rf, nI_ltI, nI_leI, nI_eq, nI_add, nI_sub, nI_lt0, nI_e0, nI_m1, m1_nI, Nat.reduceEqDiff, Nat.reduceLT, Nat.reduceLeDiff, Nat.reduceAdd, Nat.reduceSub, Nat.reduceMul, ↓reduceIte, eq_self, show ¬ 256 ≤ k by omega]
/-- the first needs -/
theorem m_mark1 (S : am_S h) {N : List Nat} (nd : N.Nodup) (hN : ∀ y, y ∈ N → y < 256) : ∀ q k g, N.length - k = q → k ≤ N.length → MK h g (N.take k) (N.take k) → am_I g 349 83 = nI N.length → (∀ i c, N[i]? = some c → am_I g 398 i = nI c) → ∃ g', MK h g' N N ∧ ∀ v1 Q, am_J d 238 31 [some (.ref 349), v1, some (.int (nI k)), some (.int (nI k))] [] g Q ↔ am_J d 238 72 [some (.ref 349), v1, some (.int (nI N.length)), some (.int (nI N.length))] [] g' Q := by
  have lN := nodup_le 256 N nd hN
  intro q
  induction q with
  | zero =>
    intro k g hq hk M e H
    obtain rfl : k = N.length := by omega
    have Sg := fr_S M.1 S
    rw [List.take_length] at M
    refine ⟨g, M, fun v1 Q => ?_⟩
    rw [g238_31]
    simp (disch := first | with_reducible assumption | omega | exact Or.inl rfl | exact Or.inr rfl | exact bI_01 | exact c_cat | exact vt_ref | exact vt_null | rfl | with_reducible repeat (first | assumption | omega | apply S_I | apply S_L | apply S_D | apply ob_I | apply ob_L | apply ob_D | apply ob_R | apply ax_I | apply ax_L | apply ax_D | apply ax_R | apply o303 | apply o307 | apply o302 | apply o301 | apply ax304 | apply ax305 | apply ax306 | apply ax308 | apply ax309 | apply ax310 | apply lt_S | apply ar305 | apply ar308 | apply ar309)) only [g238_32, g238_33, g238_36, Option.toList, List.nil_append, List.cons_append, va_rf, nI_ltI, nI_leI, nI_eq, nI_add, nI_sub, nI_lt0, nI_e0, nI_m1, m1_nI, Nat.reduceEqDiff, Nat.reduceLT, Nat.reduceLeDiff, Nat.reduceAdd, Nat.reduceSub, Nat.reduceMul, ↓reduceIte, eq_self, e, Nat.le_refl]
  | succ q ih =>
    intro k g hq hk M e H
    have hk' : k < N.length := by omega
    have Sg := fr_S M.1 S
    have gk := List.getElem?_eq_getElem hk'
    have yN := List.getElem_mem hk'
    have y256 := hN _ yN
    have e398 := H k _ gk
    have tl : (N.take k).length = k := by rw [List.length_take]; omega
    have nn : N[k] ∉ N.take k := fun z => by
      obtain ⟨i, i1, i2⟩ := List.mem_iff_getElem.mp z
      rw [tl] at i1
      have : N[i]? = N[k]? := by
        rw [gk, ← i2, List.getElem?_eq_getElem (by omega)]
        congr 1
        rw [List.getElem_take]
      have := (List.getElem?_inj (by omega) nd).mp this
      omega
    have M2 := MK_push M y256 nn
    rw [← List.take_succ_eq_append_getElem hk', tl] at M2
    obtain ⟨g', M', R'⟩ := ih (k + 1) _ (by omega) (by omega) M2 (by rw [rI_a (by decide), rI_a (by decide)]; exact e) (fun i c hi => by rw [rI_a (by decide), rI_a (by decide)]; exact H i c hi)
    refine ⟨g', M', fun v1 Q => ?_⟩
    rw [← R' v1 Q, g238_31]
    generalize N[k] = y at y256 e398
    simp (disch := first | with_reducible assumption | omega | exact Or.inl rfl | exact Or.inr rfl | exact bI_01 | exact c_cat | exact vt_ref | exact vt_null | rfl | with_reducible repeat (first | assumption | omega | apply S_I | apply S_L | apply S_D | apply ob_I | apply ob_L | apply ob_D | apply ob_R | apply ax_I | apply ax_L | apply ax_D | apply ax_R | apply o303 | apply o307 | apply o302 | apply o301 | apply ax304 | apply ax305 | apply ax306 | apply ax308 | apply ax309 | apply ax310 | apply lt_S | apply ar305 | apply ar308 | apply ar309)) only [g238_32, g238_33, g238_36, g238_39, g238_40, g238_43, g238_44, g238_47, g238_48, g238_49, g238_50, g238_51, g238_52, g238_55, g238_56, g238_57, g238_60, g238_61, g238_62, g238_63, g238_66, g238_69, Option.toList, List.nil_append, List.cons_append, va_rf, nI_ltI, nI_leI, nI_eq, nI_add, nI_sub, nI_lt0, nI_e0, nI_m1, m1_nI, Nat.reduceEqDiff, Nat.reduceLT, Nat.reduceLeDiff, Nat.reduceAdd, Nat.reduceSub, Nat.reduceMul, ↓reduceIte, eq_self, hI_I, hI_L, hI_D, hI_R, hL_I, hL_L, hL_D, hL_R, hD_I, hD_L, hD_D, hD_R, hR_I, hR_L, hR_D, ↓reduceIte, Nat.reduceEqDiff, e, show ¬ N.length ≤ k by omega, e398]
/-- the needs of one that was popped -/
theorem m_mark2 (S : am_S h) {N : List Nat} (hN : ∀ y, y ∈ N → y < 256) (lN : N.length ≤ 256) : ∀ q k ml stk g, N.length - k = q → k ≤ N.length → MK h g ml stk → am_I g 349 83 = nI N.length → (∀ i c, N[i]? = some c → am_I g 398 i = nI c) → ∃ g' ml' stk', MK h g' ml' stk' ∧ (∀ y, y ∈ ml → y ∈ ml') ∧ (∀ y, y ∈ stk → y ∈ stk') ∧ (∀ y, y ∈ ml' → y ∈ ml ∨ (y ∈ N ∧ y ∈ stk')) ∧ (∀ i y, k ≤ i → N[i]? = some y → y ∈ ml') ∧ stk'.length + 2 * (256 - ml'.length) ≤ stk.length + 2 * (256 - ml.length) ∧ ∀ v1 Q, am_J d 238 91 [some (.ref 349), v1, some (.int (nI stk.length)), some (.int (nI k))] [] g Q ↔ am_J d 238 72 [some (.ref 349), v1, some (.int (nI stk'.length)), some (.int (nI N.length))] [] g' Q := by
  intro q
  induction q with
  | zero =>
    intro k ml stk g hq hk M e H
    obtain rfl : k = N.length := by omega
    have Sg := fr_S M.1 S
    refine ⟨g, ml, stk, M, fun _ z => z, fun _ z => z, fun _ z => Or.inl z, fun i y h1 h2 => ?_, Nat.le_refl _, fun v1 Q => ?_⟩
    · have := (List.getElem?_eq_some_iff.mp h2).1; omega
    · rw [g238_91]
      simp (disch := first | with_reducible assumption | omega | exact Or.inl rfl | exact Or.inr rfl | exact bI_01 | exact c_cat | exact vt_ref | exact vt_null | rfl | with_reducible repeat (first | assumption | omega | apply S_I | apply S_L | apply S_D | apply ob_I | apply ob_L | apply ob_D | apply ob_R | apply ax_I | apply ax_L | apply ax_D | apply ax_R | apply o303 | apply o307 | apply o302 | apply o301 | apply ax304 | apply ax305 | apply ax306 | apply ax308 | apply ax309 | apply ax310 | apply lt_S | apply ar305 | apply ar308 | apply ar309)) only [g238_92, g238_93, g238_96, g238_149, Option.toList, List.nil_append, List.cons_append, va_rf, nI_ltI, nI_leI, nI_eq, nI_add, nI_sub, nI_lt0, nI_e0, nI_m1, m1_nI, Nat.reduceEqDiff, Nat.reduceLT, Nat.reduceLeDiff, Nat.reduceAdd, Nat.reduceSub, Nat.reduceMul, ↓reduceIte, eq_self, e, Nat.le_refl]
  | succ q ih =>
    intro k ml stk g hq hk M e H
    have hk' : k < N.length := by omega
    have Sg := fr_S M.1 S
    have gk := List.getElem?_eq_getElem hk'
    have yN := List.getElem_mem hk'
    have y256 := hN _ yN
    have e398 := H k _ gk
    have e396 := M.2.2.1 _ y256
    have lm := MK_len M
    have ls := M.2.2.2.2.2.2.2
    by_cases c : N[k] ∈ ml
    · rw [if_pos c] at e396
      obtain ⟨g', ml', stk', M', u1, u2, u3, u4, u5, R'⟩ := ih (k + 1) ml stk g (by omega) (by omega) M e H
      refine ⟨g', ml', stk', M', u1, u2, u3, fun i y h1 h2 => ?_, u5, fun v1 Q => ?_⟩
      · by_cases ei : i = k
        · subst ei
          rw [gk] at h2
          rw [← Option.some.inj h2]; exact u1 _ c
        · exact u4 i y (by omega) h2
      · rw [← R' v1 Q, g238_91]
        generalize N[k] = y at y256 e398 e396
        simp (disch := first | with_reducible assumption | omega | exact Or.inl rfl | exact Or.inr rfl | exact bI_01 | exact c_cat | exact vt_ref | exact vt_null | rfl | with_reducible repeat (first | assumption | omega | apply S_I | apply S_L | apply S_D | apply ob_I | apply ob_L | apply ob_D | apply ob_R | apply ax_I | apply ax_L | apply ax_D | apply ax_R | apply o303 | apply o307 | apply o302 | apply o301 | apply ax304 | apply ax305 | apply ax306 | apply ax308 | apply ax309 | apply ax310 | apply lt_S | apply ar305 | apply ar308 | apply ar309)) only [g238_92, g238_93, g238_96, g238_99, g238_100, g238_103, g238_104, g238_107, g238_108, g238_109, g238_110, g238_113, g238_143, g238_146, Option.toList, List.nil_append, List.cons_append, va_rf, nI_ltI, nI_leI, nI_eq, nI_add, nI_sub, nI_lt0, nI_e0, nI_m1, m1_nI, Nat.reduceEqDiff, Nat.reduceLT, Nat.reduceLeDiff, Nat.reduceAdd, Nat.reduceSub, Nat.reduceMul, ↓reduceIte, eq_self, e, show ¬ N.length ≤ k by omega, e398, e396]
    · rw [if_neg c] at e396
      have rm := MK_room M y256 c
      obtain ⟨g', ml', stk', M', u1, u2, u3, u4, u5, R'⟩ := ih (k + 1) _ _ _ (by omega) (by omega) (MK_push M y256 c) (by rw [rI_a (by decide), rI_a (by decide)]; exact e) (fun i c hi => by rw [rI_a (by decide), rI_a (by decide)]; exact H i c hi)
      rw [List.length_append, List.length_append, List.length_cons, List.length_nil] at u5
      refine ⟨g', ml', stk', M', fun y hy => u1 y (List.mem_append.mpr (Or.inl hy)), fun y hy => u2 y (List.mem_append.mpr (Or.inl hy)), fun y hy => ?_, fun i y h1 h2 => ?_, by omega, fun v1 Q => ?_⟩
      · rcases u3 y hy with z | z
        · rcases List.mem_append.mp z with z | z
          · exact Or.inl z
          · have hz := List.mem_singleton.mp z
            exact Or.inr ⟨by rw [hz]; exact yN, u2 y (List.mem_append.mpr (Or.inr z))⟩
        · exact Or.inr z
      · by_cases ei : i = k
        · subst ei
          rw [gk] at h2
          rw [← Option.some.inj h2]; exact u1 _ (List.mem_append.mpr (Or.inr (List.mem_singleton.mpr rfl)))
        · exact u4 i y (by omega) h2
      · have R2 := R' v1 Q
        rw [List.length_append, List.length_cons, List.length_nil] at R2
        rw [← R2, g238_91]
        generalize N[k] = y at y256 e398 e396
        simp (disch := first | with_reducible assumption | omega | exact Or.inl rfl | exact Or.inr rfl | exact bI_01 | exact c_cat | exact vt_ref | exact vt_null | rfl | with_reducible repeat (first | assumption | omega | apply S_I | apply S_L | apply S_D | apply ob_I | apply ob_L | apply ob_D | apply ob_R | apply ax_I | apply ax_L | apply ax_D | apply ax_R | apply o303 | apply o307 | apply o302 | apply o301 | apply ax304 | apply ax305 | apply ax306 | apply ax308 | apply ax309 | apply ax310 | apply lt_S | apply ar305 | apply ar308 | apply ar309)) only [g238_92, g238_93, g238_96, g238_99, g238_100, g238_103, g238_104, g238_107, g238_108, g238_109, g238_110, g238_113, g238_116, g238_117, g238_120, g238_121, g238_124, g238_125, g238_126, g238_127, g238_128, g238_129, g238_132, g238_133, g238_134, g238_137, g238_138, g238_139, g238_140, g238_143, g238_146, Option.toList, List.nil_append, List.cons_append, va_rf, nI_ltI, nI_leI, nI_eq, nI_add, nI_sub, nI_lt0, nI_e0, nI_m1, m1_nI, Nat.reduceEqDiff, Nat.reduceLT, Nat.reduceLeDiff, Nat.reduceAdd, Nat.reduceSub, Nat.reduceMul, ↓reduceIte, eq_self, hI_I, hI_L, hI_D, hI_R, hL_I, hL_L, hL_D, hL_R, hD_I, hD_L, hD_D, hD_R, hR_I, hR_L, hR_D, ↓reduceIte, Nat.reduceEqDiff, e, show ¬ N.length ≤ k by omega, e398, e396, Nat.zero_add]
/-- the search: all that is marked is reached; what is marked and not on the stack is through -/
theorem m_mark3 (S : am_S h) (D : CDm h mb sl nl Gc nf) (hl : ∀ x y, y ∈ nl x → y < 256) : ∀ t ml stk g v3, stk.length + 2 * (256 - ml.length) ≤ t → MK h g ml stk → (∀ y, y ∈ ml → RT nl x y) → (∀ y, y ∈ nl x → y ∈ ml) → (∀ y, y ∈ ml → y ∈ stk ∨ ∀ z, z ∈ nl y → z ∈ ml) → ∃ g' ml', MK h g' ml' [] ∧ (∀ y, y ∈ ml' → RT nl x y) ∧ (∀ y, y ∈ nl x → y ∈ ml') ∧ (∀ y, y ∈ ml' → ∀ z, z ∈ nl y → z ∈ ml') ∧ ∀ v1 Q, am_J (d + 461) 238 72 [some (.ref 349), v1, some (.int (nI stk.length)), v3] [] g Q ↔ Q none g' := by
  intro t
  induction t with
  | zero =>
    intro ml stk g v3 ht M s1 s2 s3
    have : stk = [] := List.eq_nil_of_length_eq_zero (by omega)
    subst this
    have Sg := fr_S M.1 S
    refine ⟨g, ml, M, s1, s2, fun y hy => (s3 y hy).resolve_left (fun z => by cases z), fun v1 Q => ?_⟩
    rw [g238_72]
    simp (disch := first | with_reducible assumption | omega | exact Or.inl rfl | exact Or.inr rfl | exact bI_01 | exact c_cat | exact vt_ref | exact vt_null | rfl | with_reducible repeat (first | assumption | omega | apply S_I | apply S_L | apply S_D | apply ob_I | apply ob_L | apply ob_D | apply ob_R | apply ax_I | apply ax_L | apply ax_D | apply ax_R | apply o303 | apply o307 | apply o302 | apply o301 | apply ax304 | apply ax305 | apply ax306 | apply ax308 | apply ax309 | apply ax310 | apply lt_S | apply ar305 | apply ar308 | apply ar309)) only [g238_73, g238_152, Option.toList, List.nil_append, List.cons_append, va_rf, nI_ltI, nI_leI, nI_eq, nI_add, nI_sub, nI_lt0, nI_e0, nI_m1, m1_nI, Nat.reduceEqDiff, Nat.reduceLT, Nat.reduceLeDiff, Nat.reduceAdd, Nat.reduceSub, Nat.reduceMul, ↓reduceIte, eq_self, nI_le0z, List.length_nil]
  | succ t ih =>
    intro ml stk g v3 ht M s1 s2 s3
    have Sg := fr_S M.1 S
    by_cases e0 : stk = []
    · subst e0
      refine ⟨g, ml, M, s1, s2, fun y hy => (s3 y hy).resolve_left (fun z => by cases z), fun v1 Q => ?_⟩
      rw [g238_72]
      simp (disch := first | with_reducible assumption | omega | exact Or.inl rfl | exact Or.inr rfl | exact bI_01 | exact c_cat | exact vt_ref | exact vt_null | rfl | with_reducible repeat (first | assumption | omega | apply S_I | apply S_L | apply S_D | apply ob_I | apply ob_L | apply ob_D | apply ob_R | apply ax_I | apply ax_L | apply ax_D | apply ax_R | apply o303 | apply o307 | apply o302 | apply o301 | apply ax304 | apply ax305 | apply ax306 | apply ax308 | apply ax309 | apply ax310 | apply lt_S | apply ar305 | apply ar308 | apply ar309)) only [g238_73, g238_152, Option.toList, List.nil_append, List.cons_append, va_rf, nI_ltI, nI_leI, nI_eq, nI_add, nI_sub, nI_lt0, nI_e0, nI_m1, m1_nI, Nat.reduceEqDiff, Nat.reduceLT, Nat.reduceLeDiff, Nat.reduceAdd, Nat.reduceSub, Nat.reduceMul, ↓reduceIte, eq_self, nI_le0z, List.length_nil]
    · obtain ⟨s, c, rfl⟩ : ∃ s c, stk = s ++ [c] := ⟨stk.dropLast, stk.getLast e0, (List.dropLast_concat_getLast e0).symm⟩
      have cm := M.2.2.2.2.2.2.1 c (List.mem_append.mpr (Or.inr (List.mem_singleton.mpr rfl)))
      have c256 := M.2.2.2.2.2.1 c cm
      have e397 := M.2.2.2.1 s.length c (by rw [List.getElem?_append_right (Nat.le_refl _), Nat.sub_self]; rfl)
      have lm := MK_len M
      have ls := M.2.2.2.2.2.2.2
      rw [List.length_append, List.length_cons, List.length_nil] at ls ht
      have Mp := MK_pop M
      have D1 := CDm_fr M.1 (fun a ha => by omega) D
      obtain ⟨g1, R1, N1⟩ := m_listNeeds (d := d) Sg c256 (D1 c c256).1
      obtain ⟨n1, n2, n3, n4, n5, n6, n7⟩ := N1
      have M1 : MK h g1 ml s := by
        obtain ⟨m1, m2, m3, m4, m5, m6, m7, m8⟩ := Mp
        exact ⟨fr_trans m1 (fr_mono (fun a ha => by omega) n1), fun k hk => (n2 k hk).trans (m2 k hk), fun y hy => (fr_rdI n1 (by decide)).trans (m3 y hy), fun i z hz => (fr_rdI n1 (by decide)).trans (m4 i z hz), m5, m6, m7, m8⟩
      obtain ⟨g2, ml2, s2', M2, u1, u2, u3, u4, u5, R2⟩ := m_mark2 (d := d + 461) S (hl c) (nodup_le 256 _ n6 n7) (nl c).length 0 ml s g1 (Nat.sub_zero _) (Nat.zero_le _) M1 n3 n4
      obtain ⟨g', ml', M', a1, a2, a3, R'⟩ := ih ml2 s2' g2 (some (.int (nI (nl c).length))) (by omega) M2 (fun y hy => (u3 y hy).elim (s1 y) (fun z => RT_trans (s1 c cm) (RT_one z.1))) (fun y hy => u1 y (s2 y hy)) (fun y hy => by
        rcases u3 y hy with z | z
        · rcases s3 y z with z | z
          · rcases List.mem_append.mp z with z | z
            · exact Or.inl (u2 y z)
            · have := List.mem_singleton.mp z
              subst this
              refine Or.inr (fun w hw => ?_)
              obtain ⟨i, i1, i2⟩ := List.mem_iff_getElem.mp hw
              exact u4 i w (Nat.zero_le _) (by rw [List.getElem?_eq_getElem i1, i2])
          · exact Or.inr (fun w hw => u1 w (z w hw))
        · exact Or.inl z.2)
      refine ⟨g', ml', M', a1, a2, a3, fun v1 Q => ?_⟩
      have m1 : nI (s.length + 1) + (-1 : Int32) = nI s.length := by
        have := nI_sub (show 1 ≤ s.length + 1 by omega)
        rw [Nat.add_sub_cancel] at this
        rw [← this]
        show nI (s.length + 1) + (-1) = nI (s.length + 1) - 1
        rw [Int32.sub_eq_add_neg]
      rw [← R' v1 Q, ← R2 v1 Q, g238_72]
      simp (disch := first | with_reducible assumption | omega | exact Or.inl rfl | exact Or.inr rfl | exact bI_01 | exact c_cat | exact vt_ref | exact vt_null | rfl | with_reducible repeat (first | assumption | omega | apply S_I | apply S_L | apply S_D | apply ob_I | apply ob_L | apply ob_D | apply ob_R | apply ax_I | apply ax_L | apply ax_D | apply ax_R | apply o303 | apply o307 | apply o302 | apply o301 | apply ax304 | apply ax305 | apply ax306 | apply ax308 | apply ax309 | apply ax310 | apply lt_S | apply ar305 | apply ar308 | apply ar309)) only [g238_73, g238_76, g238_79, g238_80, g238_81, g238_84, g238_85, g238_86, g238_89, g238_90, Option.toList, List.nil_append, List.cons_append, va_rf, nI_ltI, nI_leI, nI_eq, nI_add, nI_sub, nI_lt0, nI_e0, nI_m1, m1_nI, Nat.reduceEqDiff, Nat.reduceLT, Nat.reduceLeDiff, Nat.reduceAdd, Nat.reduceSub, Nat.reduceMul, ↓reduceIte, eq_self, List.length_append, List.length_cons, List.length_nil, Nat.zero_add, nI_le0z, show ¬ s.length + 1 = 0 by omega, m1, e397, R1 _]
/-- mark as a whole -/
theorem m_markC (S : am_S h) (D : CDm h mb sl nl Gc nf) (hl : ∀ x y, y ∈ nl x → y < 256) (hx : x < 256) : ∃ g ml, am_run (d + 461) 238 [some (.ref 349), some (.int (nI x)), none, none] h none g ∧ MK h g ml [] ∧ ∀ y, y ∈ ml ↔ RT nl x y := by
  obtain ⟨g0, M0, R0⟩ := m_mark0 (d := d + 461) S 256 0 h rfl (Nat.zero_le _) fr_refl (fun _ _ => rfl) (fun y hy => absurd hy (Nat.not_lt_zero _))
  have S0 := fr_S M0.1 S
  have D0 := CDm_fr M0.1 (fun a ha => by omega) D
  obtain ⟨g1, R1, N1⟩ := m_listNeeds (d := d) S0 hx (D0 x hx).1
  obtain ⟨n1, n2, n3, n4, n5, n6, n7⟩ := N1
  have M1 : MK h g1 [] [] := by
    obtain ⟨m1, m2, m3, m4, m5, m6, m7, m8⟩ := M0
    exact ⟨fr_trans m1 (fr_mono (fun a ha => by omega) n1), fun k hk => (n2 k hk).trans (m2 k hk), fun y hy => (fr_rdI n1 (by decide)).trans (m3 y hy), fun i z hz => (fr_rdI n1 (by decide)).trans (m4 i z hz), m5, m6, m7, m8⟩
  obtain ⟨g2, M2, R2⟩ := m_mark1 (d := d + 461) S n6 n7 (nl x).length 0 g1 (Nat.sub_zero _) (Nat.zero_le _) M1 n3 n4
  obtain ⟨g', ml', M', a1, a2, a3, R'⟩ := m_mark3 (d := d) (x := x) S D hl _ (nl x) (nl x) g2 (some (.int (nI (nl x).length))) (Nat.le_refl _) M2 (fun y hy => RT_one hy) (fun y hy => hy) (fun y hy => Or.inl hy)
  refine ⟨g', ml', fun Q => ?_, M', fun y => ⟨a1 y, fun z => RT_fwd (S := fun y => y ∈ ml') a2 (fun y z hy hz => a3 y hy z hz) z⟩⟩
  rw [← R' (some (.int (nI x))) Q]
  simp (disch := first | with_reducible assumption | omega | exact Or.inl rfl | exact Or.inr rfl | exact bI_01 | exact c_cat | exact vt_ref | exact vt_null | rfl | with_reducible repeat (first | assumption | omega | apply S_I | apply S_L | apply S_D | apply ob_I | apply ob_L | apply ob_D | apply ob_R | apply ax_I | apply ax_L | apply ax_D | apply ax_R | apply o303 | apply o307 | apply o302 | apply o301 | apply ax304 | apply ax305 | apply ax306 | apply ax308 | apply ax309 | apply ax310 | apply lt_S | apply ar305 | apply ar308 | apply ar309)) only [g238_0, g238_1, R0 _ _ _, g238_22, g238_23, g238_24, g238_25, g238_26, g238_29, g238_30, R1 _, R2 _ _, Option.toList, List.nil_append, List.cons_append, va_rf]
end MMK

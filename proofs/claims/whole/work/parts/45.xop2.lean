/-! THE CLASS'S PARSER: steps with loops -/
theorem nI_dec {a : Nat} (h : 1 ≤ a) : nI a + (-1) = nI (a - 1) := by
  obtain ⟨b, rfl⟩ : ∃ b, a = b + 1 := ⟨a - 1, by omega⟩
  rw [Nat.add_sub_cancel, ← nI_add]
  apply Int32.toBitVec_inj.mp
  rw [Int32.toBitVec_add, Int32.toBitVec_add, BitVec.add_assoc, show (nI 1).toBitVec + (-1 : Int32).toBitVec = 0#32 by decide, BitVec.add_zero]
section XOQ
variable {d : Nat} {h g : am_H} {Q : Option Value → am_H → Prop} {v0 v1 v2 v3 v4 : Option Value} {t : Nat → Nat} {n : Nat} {md : Nat ⊕ (Nat × Nat)} {C : List (Int32 × Int64)} {P : List Int32} {N : List Nat} {F k o ln lp : Int32}
/-- places from p on moved up by one, down to place i -/
def mvI (h g : am_H) (b i s : Nat) : Prop := ∀ j, am_I g b j = if i < j ∧ j ≤ s then am_I h b (j - 1) else am_I h b j
def mvL (h g : am_H) (b i s : Nat) : Prop := ∀ j, am_L g b j = if i < j ∧ j ≤ s then am_L h b (j - 1) else am_L h b j
theorem mvI_step {b i s : Nat} (M : mvI h g b i s) (hi : 1 ≤ i) (hs : i ≤ s) : mvI h (am_setI g b i (am_I g b (i - 1))) b (i - 1) s := by
  intro j
  by_cases e : j = i
  · subst e
    rw [rI_eq, M (j - 1), if_neg (by omega), if_pos (by omega)]
  · rw [rI_k e, M j]
    by_cases c : i < j ∧ j ≤ s
    · rw [if_pos c, if_pos (by omega)]
    · rw [if_neg c, if_neg (by omega)]
theorem mvL_step {b i s : Nat} (M : mvL h g b i s) (hi : 1 ≤ i) (hs : i ≤ s) : mvL h (am_setL g b i (am_L g b (i - 1))) b (i - 1) s := by
  intro j
  by_cases e : j = i
  · subst e
    rw [rL_eq, M (j - 1), if_neg (by omega), if_pos (by omega)]
  · rw [rL_k e, M j]
    by_cases c : i < j ∧ j ≤ s
    · rw [if_pos c, if_pos (by omega)]
    · rw [if_neg c, if_neg (by omega)]
theorem x_insLoop {p s : Nat} (hs : s < 160) (S : am_S h) (hb8 : ∀ j, j < s → (am_I h 305 j).toInt8.toInt32 = am_I h 305 j) : ∀ m i g, i - p = m → p ≤ i → i ≤ s → am_fr (fun a => a = 305 ∨ a = 306) h g → mvI h g 305 i s → mvL h g 306 i s → ∃ g', (∀ Q, am_J d 17 30 [some (.ref 303), some (.int (nI p)), some (.int (nI i))] [] g Q ↔ am_J d 17 69 [some (.ref 303), some (.int (nI p)), some (.int (nI p))] [] g' Q) ∧ am_fr (fun a => a = 305 ∨ a = 306) h g' ∧ mvI h g' 305 p s ∧ mvL h g' 306 p s := by
  intro m
  induction m with
  | zero =>
    intro i g hm hp hi Fr M1 M2
    obtain rfl : i = p := by omega
    refine ⟨g, fun Q => ?_, Fr, M1, M2⟩
    rw [g17_30]
    simp (disch := first | with_reducible assumption | omega | exact Or.inl rfl | exact Or.inr rfl | exact bI_01 | exact c_cat | rfl | with_reducible repeat (first | assumption | omega | apply S_I | apply S_L | apply S_D | apply ob_I | apply ob_L | apply ob_D | apply ob_R | apply ax_I | apply ax_L | apply ax_D | apply ax_R | apply o303 | apply o307 | apply o302 | apply o301 | apply ax304 | apply ax305 | apply ax306 | apply ax308 | apply ax309 | apply ax310 | apply lt_S | apply ar305 | apply ar308 | apply ar309)) only [g17_31, g17_32, nI_ltI, nI_leI, nI_eq, nI_add, nI_sub, nI_lt0, nI_e0, nI_m1, m1_nI, Nat.reduceEqDiff, Nat.reduceLT, Nat.reduceLeDiff, Nat.reduceAdd, Nat.reduceSub, Nat.reduceMul, ↓reduceIte, eq_self, Nat.le_refl]
  | succ m ih =>
    intro i g hm hp hi Fr M1 M2
    have Sg := fr_S Fr S
    obtain ⟨R0, R1, R2, R3, R4, R5⟩ := S303r Sg
    have Fr' : am_fr (fun a => a = 305 ∨ a = 306) h (am_setL (am_setI g 305 i (am_I g 305 (i - 1))) 306 i (am_L g 306 (i - 1))) := fr_L (fr_I Fr (Or.inl rfl)) (Or.inr rfl)
    have hb : (am_I g 305 (i - 1)).toInt8.toInt32 = am_I g 305 (i - 1) := by rw [M1 (i - 1), if_neg (by omega)]; exact hb8 _ (by omega)
    obtain ⟨g', W, r⟩ := ih (i - 1) _ (by omega) (by omega) (by omega) Fr' (mvI_step M1 (by omega) hi) (mvL_step M2 (by omega) hi)
    refine ⟨g', fun Q => ?_, r⟩
    rw [← W, g17_30]
    simp (disch := first | with_reducible assumption | omega | exact Or.inl rfl | exact Or.inr rfl | exact bI_01 | exact c_cat | rfl | with_reducible repeat (first | assumption | omega | apply S_I | apply S_L | apply S_D | apply ob_I | apply ob_L | apply ob_D | apply ob_R | apply ax_I | apply ax_L | apply ax_D | apply ax_R | apply o303 | apply o307 | apply o302 | apply o301 | apply ax304 | apply ax305 | apply ax306 | apply ax308 | apply ax309 | apply ax310 | apply lt_S | apply ar305 | apply ar308 | apply ar309)) only [g17_31, g17_32, g17_35, g17_36, g17_39, g17_40, g17_41, g17_44, g17_45, g17_46, g17_47, g17_48, g17_49, g17_50, g17_53, g17_54, g17_55, g17_58, g17_59, g17_60, g17_61, g17_62, g17_63, g17_66, R0, R1, Option.toList, List.nil_append, List.cons_append, va_rf, nI_ltI, nI_leI, nI_eq, nI_add, nI_sub, nI_lt0, nI_e0, nI_m1, m1_nI, Nat.reduceEqDiff, Nat.reduceLT, Nat.reduceLeDiff, Nat.reduceAdd, Nat.reduceSub, Nat.reduceMul, ↓reduceIte, eq_self, show ¬ i ≤ p by omega, nI_dec, hb, hI_I, hI_L, hI_D, hI_R, hL_I, hL_L, hL_D, hL_R, hD_I, hD_L, hD_D, hD_R, hR_I, hR_L, hR_D, ↓reduceIte, Nat.reduceEqDiff]
theorem x_pinsLoop {p s : Nat} (hs : s < 400) (S : am_S h) (hb8 : ∀ j, j < s → (am_I h 308 j).toInt8.toInt32 = am_I h 308 j) : ∀ m i g, i - p = m → p ≤ i → i ≤ s → am_fr (fun a => a = 308) h g → mvI h g 308 i s → ∃ g', (∀ Q, am_J d 136 30 [some (.ref 307), some (.int (nI p)), v2, some (.int (nI i))] [] g Q ↔ am_J d 136 55 [some (.ref 307), some (.int (nI p)), v2, some (.int (nI p))] [] g' Q) ∧ am_fr (fun a => a = 308) h g' ∧ mvI h g' 308 p s := by
  intro m
  induction m with
  | zero =>
    intro i g hm hp hi Fr M1
    obtain rfl : i = p := by omega
    refine ⟨g, fun Q => ?_, Fr, M1⟩
    rw [g136_30]
    simp (disch := first | with_reducible assumption | omega | exact Or.inl rfl | exact Or.inr rfl | exact bI_01 | exact c_cat | rfl | with_reducible repeat (first | assumption | omega | apply S_I | apply S_L | apply S_D | apply ob_I | apply ob_L | apply ob_D | apply ob_R | apply ax_I | apply ax_L | apply ax_D | apply ax_R | apply o303 | apply o307 | apply o302 | apply o301 | apply ax304 | apply ax305 | apply ax306 | apply ax308 | apply ax309 | apply ax310 | apply lt_S | apply ar305 | apply ar308 | apply ar309)) only [g136_31, g136_32, nI_ltI, nI_leI, nI_eq, nI_add, nI_sub, nI_lt0, nI_e0, nI_m1, m1_nI, Nat.reduceEqDiff, Nat.reduceLT, Nat.reduceLeDiff, Nat.reduceAdd, Nat.reduceSub, Nat.reduceMul, ↓reduceIte, eq_self, Nat.le_refl]
  | succ m ih =>
    intro i g hm hp hi Fr M1
    have Sg := fr_S Fr S
    obtain ⟨R0, R1, R2, R3, R4, R5⟩ := S303r Sg
    have Fr' : am_fr (fun a => a = 308) h (am_setI g 308 i (am_I g 308 (i - 1))) := fr_I Fr rfl
    have hb : (am_I g 308 (i - 1)).toInt8.toInt32 = am_I g 308 (i - 1) := by rw [M1 (i - 1), if_neg (by omega)]; exact hb8 _ (by omega)
    obtain ⟨g', W, r⟩ := ih (i - 1) _ (by omega) (by omega) (by omega) Fr' (mvI_step M1 (by omega) hi)
    refine ⟨g', fun Q => ?_, r⟩
    rw [← W, g136_30]
    simp (disch := first | with_reducible assumption | omega | exact Or.inl rfl | exact Or.inr rfl | exact bI_01 | exact c_cat | rfl | with_reducible repeat (first | assumption | omega | apply S_I | apply S_L | apply S_D | apply ob_I | apply ob_L | apply ob_D | apply ob_R | apply ax_I | apply ax_L | apply ax_D | apply ax_R | apply o303 | apply o307 | apply o302 | apply o301 | apply ax304 | apply ax305 | apply ax306 | apply ax308 | apply ax309 | apply ax310 | apply lt_S | apply ar305 | apply ar308 | apply ar309)) only [g136_31, g136_32, g136_35, g136_36, g136_39, g136_40, g136_41, g136_44, g136_45, g136_46, g136_47, g136_48, g136_49, g136_52, R5, Option.toList, List.nil_append, List.cons_append, va_rf, nI_ltI, nI_leI, nI_eq, nI_add, nI_sub, nI_lt0, nI_e0, nI_m1, m1_nI, Nat.reduceEqDiff, Nat.reduceLT, Nat.reduceLeDiff, Nat.reduceAdd, Nat.reduceSub, Nat.reduceMul, ↓reduceIte, eq_self, show ¬ i ≤ p by omega, nI_dec, hb, hI_I, hI_L, hI_D, hI_R, hL_I, hL_L, hL_D, hL_R, hD_I, hD_L, hD_D, hD_R, hR_I, hR_L, hR_D, ↓reduceIte, Nat.reduceEqDiff]
theorem ins_get {α : Type} {A B : List α} {y : α} {i : Nat} {x : α} (hx : (A ++ y :: B)[i]? = some x) : (i < A.length ∧ (A ++ B)[i]? = some x) ∨ (i = A.length ∧ x = y) ∨ (A.length < i ∧ i ≤ (A ++ B).length ∧ (A ++ B)[i - 1]? = some x) := by
  by_cases h1 : i < A.length
  · rw [List.getElem?_append_left h1] at hx
    exact Or.inl ⟨h1, by rw [List.getElem?_append_left h1]; exact hx⟩
  · rw [List.getElem?_append_right (by omega)] at hx
    by_cases h2 : i = A.length
    · subst h2; rw [Nat.sub_self] at hx; exact Or.inr (Or.inl ⟨rfl, (Option.some.inj hx).symm⟩)
    · obtain ⟨m, hm⟩ : ∃ m, i - A.length = m + 1 := ⟨i - A.length - 1, by omega⟩
      rw [hm, List.getElem?_cons_succ] at hx
      have hl := (List.getElem?_eq_some_iff.mp hx).1
      refine Or.inr (Or.inr ⟨by omega, by rw [List.length_append]; omega, ?_⟩)
      rw [List.getElem?_append_right (by omega), show i - 1 - A.length = m by omega]
      exact hx
def xins (A B : List (Int32 × Int64)) : List (Int32 × Int64) := if (A ++ B).length < 160 then A ++ (nI 0, lN 0) :: B else A ++ B
theorem x_insStep {A B : List (Int32 × Int64)} (X : PX h t n md (A ++ B) P N F k o ln lp) : ∃ h', am_run d 17 [some (.ref 303), some (.int (nI A.length)), none] h none h' ∧ PX h' t n md (xins A B) P N F k o ln lp ∧ am_fr (fun a => 303 ≤ a ∧ a ≤ 309) h h' := by
  obtain ⟨S, T, L, hC, hP, hN, e1, e2, -⟩ := id X
  obtain ⟨R0, R1, R2, R3, R4, R5⟩ := S303r S
  have T5 := tg305 S
  obtain ⟨c1, c2, c3⟩ := hC
  have hAB : A.length ≤ (A ++ B).length := by rw [List.length_append]; omega
  by_cases hl : (A ++ B).length < 160
  · have ex : xins A B = A ++ (nI 0, lN 0) :: B := if_pos hl
    obtain ⟨g, W, Fg, M1, M2⟩ := x_insLoop (d := d) (p := A.length) hl S (fun j hj => by
      obtain ⟨x, hx⟩ : ∃ x, (A ++ B)[j]? = some x := ⟨_, List.getElem?_eq_getElem hj⟩
      rw [(c3 j x hx).1]; exact (c3 j x hx).2.2) _ (A ++ B).length h rfl hAB (Nat.le_refl _) fr_refl (fun j => by rw [if_neg (by omega)]) (fun j => by rw [if_neg (by omega)])
    have Sg := fr_S Fg S
    obtain ⟨r0, r1, r2, r3, r4, r5⟩ := S303r Sg
    have g3 : ∀ j, am_I g 303 j = am_I h 303 j := fun j => fr_rdI Fg (by decide)
    have Fr : am_fr (fun a => 303 ≤ a ∧ a ≤ 309) h (am_setI (am_setL (am_setI g 305 A.length (nI 0)) 306 A.length (lN 0)) 303 5 (nI ((A ++ B).length + 1))) := fr_I (fr_L (fr_I (fr_mono (by intro a e; omega) Fg) (by omega)) (by omega)) (by omega)
    refine ⟨_, fun Q => ?_, PX_of Fr X ⟨?_, ?_, ?_⟩ (XP_keep (by simp only [hI_I, hI_L, hI_D, hI_R, hL_I, hL_L, hL_D, hL_R, hD_I, hD_L, hD_D, hD_R, hR_I, hR_L, hR_D, ↓reduceIte, Nat.reduceEqDiff]; exact fr_rdI Fg (by decide)) (fun i => by simp only [hI_I, hI_L, hI_D, hI_R, hL_I, hL_L, hL_D, hL_R, hD_I, hD_L, hD_D, hD_R, hR_I, hR_L, hR_D, ↓reduceIte, Nat.reduceEqDiff]; exact fr_rdI Fg (by decide)) hP) (XN_keep (by simp only [hI_I, hI_L, hI_D, hI_R, hL_I, hL_L, hL_D, hL_R, hD_I, hD_L, hD_D, hD_R, hR_I, hR_L, hR_D, ↓reduceIte, Nat.reduceEqDiff, g3]) (fun i => by simp only [hI_I, hI_L, hI_D, hI_R, hL_I, hL_L, hL_D, hL_R, hD_I, hD_L, hD_D, hD_R, hR_I, hR_L, hR_D, ↓reduceIte, Nat.reduceEqDiff]; exact fr_rdI Fg (by decide)) (fun i => by simp only [hI_I, hI_L, hI_D, hI_R, hL_I, hL_L, hL_D, hL_R, hD_I, hD_L, hD_D, hD_R, hR_I, hR_L, hR_D, ↓reduceIte, Nat.reduceEqDiff]; exact fr_rdL Fg (by decide)) hN) (by simp only [hI_I, hI_L, hI_D, hI_R, hL_I, hL_L, hL_D, hL_R, hD_I, hD_L, hD_D, hD_R, hR_I, hR_L, hR_D, ↓reduceIte, Nat.reduceEqDiff, g3, e1]) (by simp only [hI_I, hI_L, hI_D, hI_R, hL_I, hL_L, hL_D, hL_R, hD_I, hD_L, hD_D, hD_R, hR_I, hR_L, hR_D, ↓reduceIte, Nat.reduceEqDiff, g3, e2]), Fr⟩
    · have W0 : am_J d 17 0 [some (.ref 303), some (.int (nI A.length)), none] [] h Q ↔ am_J d 17 30 [some (.ref 303), some (.int (nI A.length)), some (.int (nI (A ++ B).length))] [] h Q := by
        simp (disch := first | with_reducible assumption | omega | exact Or.inl rfl | exact Or.inr rfl | exact bI_01 | exact c_cat | rfl | with_reducible repeat (first | assumption | omega | apply S_I | apply S_L | apply S_D | apply ob_I | apply ob_L | apply ob_D | apply ob_R | apply ax_I | apply ax_L | apply ax_D | apply ax_R | apply o303 | apply o307 | apply o302 | apply o301 | apply ax304 | apply ax305 | apply ax306 | apply ax308 | apply ax309 | apply ax310 | apply lt_S | apply ar305 | apply ar308 | apply ar309)) only [g17_0, g17_1, g17_4, g17_5, g17_6, g17_9, g17_12, g17_13, g17_16, g17_17, g17_20, g17_21, g17_24, g17_25, g17_26, g17_29, R0, R1, Option.toList, List.nil_append, List.cons_append, va_rf, hI_I, hI_L, hI_D, hI_R, hL_I, hL_L, hL_D, hL_R, hD_I, hD_L, hD_D, hD_R, hR_I, hR_L, hR_D, ↓reduceIte, Nat.reduceEqDiff, c1, T5, nI_ltI, nI_leI, nI_eq, nI_add, nI_sub, nI_lt0, nI_e0, nI_m1, m1_nI, Nat.reduceEqDiff, Nat.reduceLT, Nat.reduceLeDiff, Nat.reduceAdd, Nat.reduceSub, Nat.reduceMul, ↓reduceIte, eq_self, show ¬ (A ++ B).length < A.length by omega, hl]
      rw [W0, W]
      simp (disch := first | with_reducible assumption | omega | exact Or.inl rfl | exact Or.inr rfl | exact bI_01 | exact c_cat | rfl | with_reducible repeat (first | assumption | omega | apply S_I | apply S_L | apply S_D | apply ob_I | apply ob_L | apply ob_D | apply ob_R | apply ax_I | apply ax_L | apply ax_D | apply ax_R | apply o303 | apply o307 | apply o302 | apply o301 | apply ax304 | apply ax305 | apply ax306 | apply ax308 | apply ax309 | apply ax310 | apply lt_S | apply ar305 | apply ar308 | apply ar309)) only [g17_69, g17_70, g17_73, g17_74, g17_75, g17_76, g17_77, g17_80, g17_81, g17_82, g17_83, g17_84, g17_85, g17_88, g17_89, g17_90, g17_93, r0, r1, Option.toList, List.nil_append, List.cons_append, va_rf, hI_I, hI_L, hI_D, hI_R, hL_I, hL_L, hL_D, hL_R, hD_I, hD_L, hD_D, hD_R, hR_I, hR_L, hR_D, ↓reduceIte, Nat.reduceEqDiff, g3, c1, nI_add, show (nI 0).toInt8.toInt32 = nI 0 by decide]
    · rw [ex]; simp only [hI_I, hI_L, hI_D, hI_R, hL_I, hL_L, hL_D, hL_R, hD_I, hD_L, hD_D, hD_R, hR_I, hR_L, hR_D, ↓reduceIte, Nat.reduceEqDiff, List.length_append, List.length_cons, Nat.add_assoc]
    · rw [ex, List.length_append, List.length_cons]; rw [List.length_append] at hl; omega
    · rw [ex]
      intro i x hx
      rcases ins_get hx with ⟨hi, hx⟩ | ⟨rfl, rfl⟩ | ⟨hi, hi2, hx⟩
      · simp only [hI_I, hI_L, hL_I, hL_L, ↓reduceIte, Nat.reduceEqDiff, if_neg (show ¬ i = A.length by omega)]
        rw [M1 i, M2 i, if_neg (by omega), if_neg (by omega)]
        exact c3 i x hx
      · simp only [hI_I, hI_L, hI_D, hI_R, hL_I, hL_L, hL_D, hL_R, hD_I, hD_L, hD_D, hD_R, hR_I, hR_L, hR_D, ↓reduceIte, Nat.reduceEqDiff, and_self, true_and]; decide
      · simp only [hI_I, hI_L, hL_I, hL_L, ↓reduceIte, Nat.reduceEqDiff, if_neg (show ¬ i = A.length by omega)]
        rw [M1 i, M2 i, if_pos ⟨hi, hi2⟩, if_pos ⟨hi, hi2⟩]
        exact c3 (i - 1) x hx
  · have ex : xins A B = A ++ B := if_neg hl
    rw [ex]
    refine ⟨h, fun Q => ?_, X, fr_refl⟩
    simp (disch := first | with_reducible assumption | omega | exact Or.inl rfl | exact Or.inr rfl | exact bI_01 | exact c_cat | rfl | with_reducible repeat (first | assumption | omega | apply S_I | apply S_L | apply S_D | apply ob_I | apply ob_L | apply ob_D | apply ob_R | apply ax_I | apply ax_L | apply ax_D | apply ax_R | apply o303 | apply o307 | apply o302 | apply o301 | apply ax304 | apply ax305 | apply ax306 | apply ax308 | apply ax309 | apply ax310 | apply lt_S | apply ar305 | apply ar308 | apply ar309)) only [g17_0, g17_1, g17_4, g17_5, g17_6, g17_9, g17_12, g17_13, g17_16, g17_17, g17_20, g17_21, g17_24, g17_25, g17_26, g17_29, R0, R1, Option.toList, List.nil_append, List.cons_append, va_rf, hI_I, hI_L, hI_D, hI_R, hL_I, hL_L, hL_D, hL_R, hD_I, hD_L, hD_D, hD_R, hR_I, hR_L, hR_D, ↓reduceIte, Nat.reduceEqDiff, c1, T5, nI_ltI, nI_leI, nI_eq, nI_add, nI_sub, nI_lt0, nI_e0, nI_m1, m1_nI, Nat.reduceEqDiff, Nat.reduceLT, Nat.reduceLeDiff, Nat.reduceAdd, Nat.reduceSub, Nat.reduceMul, ↓reduceIte, eq_self, show ¬ (A ++ B).length < A.length by omega, hl]
def xpin (A B : List Int32) (w : Int32) : List Int32 := if (A ++ B).length < 400 then A ++ w.toInt8.toInt32 :: B else A ++ B
theorem x_pinsert {A B : List Int32} (X : PX h t n md C (A ++ B) N F k o ln lp) {w : Int32} : ∃ h', am_run d 136 [some (.ref 307), some (.int (nI A.length)), some (.int w), none] h none h' ∧ PX h' t n md C (xpin A B w) N F k o ln lp ∧ am_fr (fun a => 303 ≤ a ∧ a ≤ 309) h h' := by
  obtain ⟨S, T, L, hC, hP, hN, e1, e2, -⟩ := id X
  obtain ⟨R0, R1, R2, R3, R4, R5⟩ := S303r S
  have T5 := tg308 S
  obtain ⟨c1, c2, c3⟩ := hP
  have hAB : A.length ≤ (A ++ B).length := by rw [List.length_append]; omega
  by_cases hl : (A ++ B).length < 400
  · have ex : xpin A B w = A ++ w.toInt8.toInt32 :: B := if_pos hl
    obtain ⟨g, W, Fg, M1⟩ := x_pinsLoop (d := d) (v2 := some (.int w)) (p := A.length) hl S (fun j hj => by
      obtain ⟨x, hx⟩ : ∃ x, (A ++ B)[j]? = some x := ⟨_, List.getElem?_eq_getElem hj⟩
      rw [(c3 j x hx).1]; exact (c3 j x hx).2) _ (A ++ B).length h rfl hAB (Nat.le_refl _) fr_refl (fun j => by rw [if_neg (by omega)])
    have Sg := fr_S Fg S
    obtain ⟨r0, r1, r2, r3, r4, r5⟩ := S303r Sg
    have g3 : ∀ j, am_I g 307 j = am_I h 307 j := fun j => fr_rdI Fg (by decide)
    have Fr : am_fr (fun a => 303 ≤ a ∧ a ≤ 309) h (am_setI (am_setI g 308 A.length w.toInt8.toInt32) 307 1 (nI ((A ++ B).length + 1))) := fr_I (fr_I (fr_mono (by intro a e; omega) Fg) (by omega)) (by omega)
    refine ⟨_, fun Q => ?_, PX_of Fr X (XC_keep (by simp only [hI_I, hI_L, hI_D, hI_R, hL_I, hL_L, hL_D, hL_R, hD_I, hD_L, hD_D, hD_R, hR_I, hR_L, hR_D, ↓reduceIte, Nat.reduceEqDiff]; exact fr_rdI Fg (by decide)) (fun i => by simp only [hI_I, hI_L, hI_D, hI_R, hL_I, hL_L, hL_D, hL_R, hD_I, hD_L, hD_D, hD_R, hR_I, hR_L, hR_D, ↓reduceIte, Nat.reduceEqDiff]; exact fr_rdI Fg (by decide)) (fun i => by simp only [hI_I, hI_L, hI_D, hI_R, hL_I, hL_L, hL_D, hL_R, hD_I, hD_L, hD_D, hD_R, hR_I, hR_L, hR_D, ↓reduceIte, Nat.reduceEqDiff]; exact fr_rdL Fg (by decide)) hC) ⟨?_, ?_, ?_⟩ (XN_keep (by simp only [hI_I, hI_L, hI_D, hI_R, hL_I, hL_L, hL_D, hL_R, hD_I, hD_L, hD_D, hD_R, hR_I, hR_L, hR_D, ↓reduceIte, Nat.reduceEqDiff]; exact fr_rdI Fg (by decide)) (fun i => by simp only [hI_I, hI_L, hI_D, hI_R, hL_I, hL_L, hL_D, hL_R, hD_I, hD_L, hD_D, hD_R, hR_I, hR_L, hR_D, ↓reduceIte, Nat.reduceEqDiff]; exact fr_rdI Fg (by decide)) (fun i => by simp only [hI_I, hI_L, hI_D, hI_R, hL_I, hL_L, hL_D, hL_R, hD_I, hD_L, hD_D, hD_R, hR_I, hR_L, hR_D, ↓reduceIte, Nat.reduceEqDiff]; exact fr_rdL Fg (by decide)) hN) (by simp only [hI_I, hI_L, hI_D, hI_R, hL_I, hL_L, hL_D, hL_R, hD_I, hD_L, hD_D, hD_R, hR_I, hR_L, hR_D, ↓reduceIte, Nat.reduceEqDiff]; exact (fr_rdI Fg (by decide)).trans e1) (by simp only [hI_I, hI_L, hI_D, hI_R, hL_I, hL_L, hL_D, hL_R, hD_I, hD_L, hD_D, hD_R, hR_I, hR_L, hR_D, ↓reduceIte, Nat.reduceEqDiff]; exact (fr_rdI Fg (by decide)).trans e2), Fr⟩
    · have W0 : am_J d 136 0 [some (.ref 307), some (.int (nI A.length)), some (.int w), none] [] h Q ↔ am_J d 136 30 [some (.ref 307), some (.int (nI A.length)), some (.int w), some (.int (nI (A ++ B).length))] [] h Q := by
        simp (disch := first | with_reducible assumption | omega | exact Or.inl rfl | exact Or.inr rfl | exact bI_01 | exact c_cat | rfl | with_reducible repeat (first | assumption | omega | apply S_I | apply S_L | apply S_D | apply ob_I | apply ob_L | apply ob_D | apply ob_R | apply ax_I | apply ax_L | apply ax_D | apply ax_R | apply o303 | apply o307 | apply o302 | apply o301 | apply ax304 | apply ax305 | apply ax306 | apply ax308 | apply ax309 | apply ax310 | apply lt_S | apply ar305 | apply ar308 | apply ar309)) only [g136_0, g136_1, g136_4, g136_5, g136_6, g136_9, g136_12, g136_13, g136_16, g136_17, g136_20, g136_21, g136_24, g136_25, g136_26, g136_29, R5, Option.toList, List.nil_append, List.cons_append, va_rf, hI_I, hI_L, hI_D, hI_R, hL_I, hL_L, hL_D, hL_R, hD_I, hD_L, hD_D, hD_R, hR_I, hR_L, hR_D, ↓reduceIte, Nat.reduceEqDiff, c1, T5, nI_ltI, nI_leI, nI_eq, nI_add, nI_sub, nI_lt0, nI_e0, nI_m1, m1_nI, Nat.reduceEqDiff, Nat.reduceLT, Nat.reduceLeDiff, Nat.reduceAdd, Nat.reduceSub, Nat.reduceMul, ↓reduceIte, eq_self, show ¬ (A ++ B).length < A.length by omega, hl]
      rw [W0, W]
      simp (disch := first | with_reducible assumption | omega | exact Or.inl rfl | exact Or.inr rfl | exact bI_01 | exact c_cat | rfl | with_reducible repeat (first | assumption | omega | apply S_I | apply S_L | apply S_D | apply ob_I | apply ob_L | apply ob_D | apply ob_R | apply ax_I | apply ax_L | apply ax_D | apply ax_R | apply o303 | apply o307 | apply o302 | apply o301 | apply ax304 | apply ax305 | apply ax306 | apply ax308 | apply ax309 | apply ax310 | apply lt_S | apply ar305 | apply ar308 | apply ar309)) only [g136_55, g136_56, g136_59, g136_60, g136_61, g136_62, g136_63, g136_64, g136_65, g136_68, g136_69, g136_70, g136_73, r5, Option.toList, List.nil_append, List.cons_append, va_rf, hI_I, hI_L, hI_D, hI_R, hL_I, hL_L, hL_D, hL_R, hD_I, hD_L, hD_D, hD_R, hR_I, hR_L, hR_D, ↓reduceIte, Nat.reduceEqDiff, g3, c1, nI_add, toInt8_idem]
    · rw [ex]; simp only [hI_I, hI_L, hI_D, hI_R, hL_I, hL_L, hL_D, hL_R, hD_I, hD_L, hD_D, hD_R, hR_I, hR_L, hR_D, ↓reduceIte, Nat.reduceEqDiff, List.length_append, List.length_cons, Nat.add_assoc]
    · rw [ex, List.length_append, List.length_cons]; rw [List.length_append] at hl; omega
    · rw [ex]
      intro i x hx
      rcases ins_get hx with ⟨hi, hx⟩ | ⟨rfl, rfl⟩ | ⟨hi, hi2, hx⟩
      · simp only [hI_I, ↓reduceIte, Nat.reduceEqDiff, if_neg (show ¬ i = A.length by omega)]
        rw [M1 i, if_neg (by omega)]
        exact c3 i x hx
      · simp only [hI_I, hI_L, hI_D, hI_R, hL_I, hL_L, hL_D, hL_R, hD_I, hD_L, hD_D, hD_R, hR_I, hR_L, hR_D, ↓reduceIte, Nat.reduceEqDiff, true_and, toInt8_idem]
      · simp only [hI_I, ↓reduceIte, Nat.reduceEqDiff, if_neg (show ¬ i = A.length by omega)]
        rw [M1 i, if_pos ⟨hi, hi2⟩]
        exact c3 (i - 1) x hx
  · have ex : xpin A B w = A ++ B := if_neg hl
    rw [ex]
    refine ⟨h, fun Q => ?_, X, fr_refl⟩
    simp (disch := first | with_reducible assumption | omega | exact Or.inl rfl | exact Or.inr rfl | exact bI_01 | exact c_cat | rfl | with_reducible repeat (first | assumption | omega | apply S_I | apply S_L | apply S_D | apply ob_I | apply ob_L | apply ob_D | apply ob_R | apply ax_I | apply ax_L | apply ax_D | apply ax_R | apply o303 | apply o307 | apply o302 | apply o301 | apply ax304 | apply ax305 | apply ax306 | apply ax308 | apply ax309 | apply ax310 | apply lt_S | apply ar305 | apply ar308 | apply ar309)) only [g136_0, g136_1, g136_4, g136_5, g136_6, g136_9, g136_12, g136_13, g136_16, g136_17, g136_20, g136_21, g136_24, g136_25, g136_26, g136_29, R5, Option.toList, List.nil_append, List.cons_append, va_rf, hI_I, hI_L, hI_D, hI_R, hL_I, hL_L, hL_D, hL_R, hD_I, hD_L, hD_D, hD_R, hR_I, hR_L, hR_D, ↓reduceIte, Nat.reduceEqDiff, c1, T5, nI_ltI, nI_leI, nI_eq, nI_add, nI_sub, nI_lt0, nI_e0, nI_m1, m1_nI, Nat.reduceEqDiff, Nat.reduceLT, Nat.reduceLeDiff, Nat.reduceAdd, Nat.reduceSub, Nat.reduceMul, ↓reduceIte, eq_self, show ¬ (A ++ B).length < A.length by omega, hl]
/-- aim -/
def xaim (C : List (Int32 × Int64)) (p : Nat) : List (Int32 × Int64) := match C[p]? with
  | some x => C.set p (x.1, lN (C.length - p - 1))
  | none => C
theorem x_aim (X : PX h t n md C P N F k o ln lp) {p : Nat} (hp : p < 1000) : ∃ h', am_run d 14 [some (.ref 303), some (.int (nI p))] h none h' ∧ PX h' t n md (xaim C p) P N F k o ln lp ∧ am_fr (fun a => 303 ≤ a ∧ a ≤ 309) h h' := by
  obtain ⟨S, T, L, hC, hP, hN, e1, e2, -⟩ := id X
  obtain ⟨R0, R1, R2, R3, R4, R5⟩ := S303r S
  obtain ⟨c1, c2, c3⟩ := hC
  by_cases hl : p < C.length
  · have hg : C[p]? = some C[p] := List.getElem?_eq_getElem hl
    have ex : xaim C p = C.set p (C[p].1, lN (C.length - p - 1)) := by unfold xaim; rw [hg]
    have Fr : am_fr (fun a => 303 ≤ a ∧ a ≤ 309) h (am_setL h 306 p (lN (C.length - p - 1))) := fr_L fr_refl (by omega)
    refine ⟨_, fun Q => ?_, PX_of Fr X ⟨?_, ?_, ?_⟩ (XP_keep (by simp only [hI_I, hI_L, hI_D, hI_R, hL_I, hL_L, hL_D, hL_R, hD_I, hD_L, hD_D, hD_R, hR_I, hR_L, hR_D, ↓reduceIte, Nat.reduceEqDiff]) (fun i => by simp only [hI_I, hI_L, hI_D, hI_R, hL_I, hL_L, hL_D, hL_R, hD_I, hD_L, hD_D, hD_R, hR_I, hR_L, hR_D, ↓reduceIte, Nat.reduceEqDiff]) hP) (XN_keep (by simp only [hI_I, hI_L, hI_D, hI_R, hL_I, hL_L, hL_D, hL_R, hD_I, hD_L, hD_D, hD_R, hR_I, hR_L, hR_D, ↓reduceIte, Nat.reduceEqDiff]) (fun i => by simp only [hI_I, hI_L, hI_D, hI_R, hL_I, hL_L, hL_D, hL_R, hD_I, hD_L, hD_D, hD_R, hR_I, hR_L, hR_D, ↓reduceIte, Nat.reduceEqDiff]) (fun i => by simp only [hI_I, hI_L, hI_D, hI_R, hL_I, hL_L, hL_D, hL_R, hD_I, hD_L, hD_D, hD_R, hR_I, hR_L, hR_D, ↓reduceIte, Nat.reduceEqDiff]) hN) (by simp only [hI_I, hI_L, hI_D, hI_R, hL_I, hL_L, hL_D, hL_R, hD_I, hD_L, hD_D, hD_R, hR_I, hR_L, hR_D, ↓reduceIte, Nat.reduceEqDiff, e1]) (by simp only [hI_I, hI_L, hI_D, hI_R, hL_I, hL_L, hL_D, hL_R, hD_I, hD_L, hD_D, hD_R, hR_I, hR_L, hR_D, ↓reduceIte, Nat.reduceEqDiff, e2]), Fr⟩
    · simp (disch := first | with_reducible assumption | omega | exact Or.inl rfl | exact Or.inr rfl | exact bI_01 | exact c_cat | rfl | with_reducible repeat (first | assumption | omega | apply S_I | apply S_L | apply S_D | apply ob_I | apply ob_L | apply ob_D | apply ob_R | apply ax_I | apply ax_L | apply ax_D | apply ax_R | apply o303 | apply o307 | apply o302 | apply o301 | apply ax304 | apply ax305 | apply ax306 | apply ax308 | apply ax309 | apply ax310 | apply lt_S | apply ar305 | apply ar308 | apply ar309)) only [g14_0, g14_1, g14_4, g14_5, g14_6, g14_9, g14_12, g14_13, g14_16, g14_17, g14_18, g14_21, g14_22, g14_23, g14_24, g14_25, g14_26, g14_27, R1, Option.toList, List.nil_append, List.cons_append, va_rf, hI_I, hI_L, hI_D, hI_R, hL_I, hL_L, hL_D, hL_R, hD_I, hD_L, hD_D, hD_R, hR_I, hR_L, hR_D, ↓reduceIte, Nat.reduceEqDiff, c1, nI_ltI, nI_leI, nI_eq, nI_add, nI_sub, nI_lt0, nI_e0, nI_m1, m1_nI, Nat.reduceEqDiff, Nat.reduceLT, Nat.reduceLeDiff, Nat.reduceAdd, Nat.reduceSub, Nat.reduceMul, ↓reduceIte, eq_self, show ¬ C.length ≤ p by omega, nI_l]
    · rw [ex, List.length_set]; exact c1
    · rw [ex, List.length_set]; exact c2
    · rw [ex]
      intro i x hx
      rw [List.getElem?_set] at hx
      by_cases e : p = i
      · subst e
        rw [if_pos rfl, if_pos hl] at hx
        cases hx
        simp only [hI_I, hI_L, hI_D, hI_R, hL_I, hL_L, hL_D, hL_R, hD_I, hD_L, hD_D, hD_R, hR_I, hR_L, hR_D, ↓reduceIte, Nat.reduceEqDiff, true_and]
        exact ⟨(c3 p _ hg).1, (c3 p _ hg).2.2⟩
      · rw [if_neg e] at hx
        simp only [hI_L, hL_L, ↓reduceIte, if_neg (show ¬ i = p by omega)]
        exact c3 i x hx
  · have ex : xaim C p = C := by unfold xaim; rw [List.getElem?_eq_none (by omega)]
    rw [ex]
    refine ⟨h, fun Q => ?_, X, fr_refl⟩
    simp (disch := first | with_reducible assumption | omega | exact Or.inl rfl | exact Or.inr rfl | exact bI_01 | exact c_cat | rfl | with_reducible repeat (first | assumption | omega | apply S_I | apply S_L | apply S_D | apply ob_I | apply ob_L | apply ob_D | apply ob_R | apply ax_I | apply ax_L | apply ax_D | apply ax_R | apply o303 | apply o307 | apply o302 | apply o301 | apply ax304 | apply ax305 | apply ax306 | apply ax308 | apply ax309 | apply ax310 | apply lt_S | apply ar305 | apply ar308 | apply ar309)) only [g14_0, g14_1, g14_4, g14_5, g14_6, g14_9, g14_12, g14_13, g14_16, g14_17, g14_18, g14_21, g14_22, g14_23, g14_24, g14_25, g14_26, g14_27, R1, Option.toList, List.nil_append, List.cons_append, va_rf, hI_I, hI_L, hI_D, hI_R, hL_I, hL_L, hL_D, hL_R, hD_I, hD_L, hD_D, hD_R, hR_I, hR_L, hR_D, ↓reduceIte, Nat.reduceEqDiff, c1, nI_ltI, nI_leI, nI_eq, nI_add, nI_sub, nI_lt0, nI_e0, nI_m1, m1_nI, Nat.reduceEqDiff, Nat.reduceLT, Nat.reduceLeDiff, Nat.reduceAdd, Nat.reduceSub, Nat.reduceMul, ↓reduceIte, eq_self, show C.length ≤ p by omega]
end XOQ

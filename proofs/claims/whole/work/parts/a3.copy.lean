/-! THE MODEL: copyTo -/
section MCP
variable {d : Nat} {h g : am_H} {Q : Option Value → am_H → Prop} {m s : Nat} {v3 v4 : Option Value}
/-- the tree in the temporary slot has come to slot s -/
def MC (h h' : am_H) (s m : Nat) : Prop := am_fr (fun a => (352 ≤ a ∧ a ≤ 357) ∨ a = 364) h h' ∧ (∀ i, i < m → tb h' (48 * s) i = tb h 3648 i) ∧ (∀ a i, 352 ≤ a → a ≤ 357 → a ≠ 356 → (i < 48 * s ∨ 48 * s + 48 ≤ i) → am_I h' a i = am_I h a i ∧ am_L h' a i = am_L h a i) ∧ am_I h' 356 s = am_I h 356 76 ∧ (∀ i, i ≠ s → am_I h' 356 i = am_I h 356 i) ∧ am_I h' 364 s = nI m ∧ (∀ i, i ≠ s → am_I h' 364 i = am_I h 364 i) ∧ ∀ i, am_L h' 356 i = am_L h 356 i ∧ am_L h' 364 i = am_L h 364 i ∧ am_D h' 364 i = am_D h 364 i
theorem m_copyTo (S : am_S h) (e27 : am_I h 349 27 = nI m) (hm : m ≤ 48) (hs : s < 76) : ∃ h', am_run d 223 [some (.ref 349), some (.int (nI s)), none, none, none] h none h' ∧ MC h h' s m := by
  have Lp : ∀ r i g (v3 v4 : Option Value), m - i = r → i ≤ m → am_fr (fun a => (352 ≤ a ∧ a ≤ 355) ∨ a = 357) h g → (∀ a j, 352 ≤ a → a ≤ 355 → am_I g a j = if 48 * s ≤ j ∧ j < 48 * s + i then am_I h a (3648 + (j - 48 * s)) else am_I h a j) → (∀ j, am_L g 357 j = if 48 * s ≤ j ∧ j < 48 * s + i then am_L h 357 (3648 + (j - 48 * s)) else am_L h 357 j) → (∀ j, am_I g 357 j = am_I h 357 j) → (∀ a j, 352 ≤ a → a ≤ 355 → am_L g a j = am_L h a j) → ∃ g', ∃ (w3 w4 : Option Value), (∀ Q, am_J d 223 2 [some (.ref 349), some (.int (nI s)), some (.int (nI i)), v3, v4] [] g Q ↔ am_J d 223 95 [some (.ref 349), some (.int (nI s)), some (.int (nI m)), w3, w4] [] g' Q) ∧ am_fr (fun a => (352 ≤ a ∧ a ≤ 355) ∨ a = 357) h g' ∧ (∀ a j, 352 ≤ a → a ≤ 355 → am_I g' a j = if 48 * s ≤ j ∧ j < 48 * s + m then am_I h a (3648 + (j - 48 * s)) else am_I h a j) ∧ (∀ j, am_L g' 357 j = if 48 * s ≤ j ∧ j < 48 * s + m then am_L h 357 (3648 + (j - 48 * s)) else am_L h 357 j) ∧ (∀ j, am_I g' 357 j = am_I h 357 j) ∧ (∀ a j, 352 ≤ a → a ≤ 355 → am_L g' a j = am_L h a j) := by
    intro r
    induction r with
    | zero =>
      intro i g v3 v4 hr hi Fr e1 e2 e3 e4
      obtain rfl : i = m := by omega
      have Sg := fr_S Fr S
      have e27' : am_I g 349 27 = nI i := by rw [fr_rdI Fr (by omega)]; exact e27
      refine ⟨g, v3, v4, fun Q => ?_, Fr, e1, e2, e3, e4⟩
      rw [g223_2]
      simp (disch := first | with_reducible assumption | omega | exact Or.inl rfl | exact Or.inr rfl | exact bI_01 | exact c_cat | exact vt_ref | exact vt_null | rfl | with_reducible repeat (first | assumption | omega | apply S_I | apply S_L | apply S_D | apply ob_I | apply ob_L | apply ob_D | apply ob_R | apply ax_I | apply ax_L | apply ax_D | apply ax_R | apply o303 | apply o307 | apply o302 | apply o301 | apply ax304 | apply ax305 | apply ax306 | apply ax308 | apply ax309 | apply ax310 | apply lt_S | apply ar305 | apply ar308 | apply ar309)) only [g223_3, g223_4, g223_7, g223_10, g223_12, g223_13, g223_14, g223_15, g223_16, g223_17, g223_20, g223_21, g223_22, g223_24, g223_25, g223_28, g223_29, g223_30, g223_33, g223_35, g223_36, g223_37, g223_38, g223_41, g223_42, g223_43, g223_46, g223_48, g223_49, g223_50, g223_51, g223_54, g223_55, g223_56, g223_59, g223_61, g223_62, g223_63, g223_64, g223_67, g223_68, g223_69, g223_72, g223_74, g223_75, g223_76, g223_77, g223_80, g223_81, g223_82, g223_85, g223_87, g223_88, g223_89, g223_92, Option.toList, List.nil_append, List.cons_append, va_rf, nI_ltI, nI_leI, nI_eq, nI_add, nI_sub, nI_lt0, nI_e0, nI_m1, m1_nI, Nat.reduceEqDiff, Nat.reduceLT, Nat.reduceLeDiff, Nat.reduceAdd, Nat.reduceSub, Nat.reduceMul, ↓reduceIte, eq_self, e27', Nat.le_refl]
    | succ r ih =>
      intro i g v3 v4 hr hi Fr e1 e2 e3 e4
      have Sg := fr_S Fr S
      have e27' : am_I g 349 27 = nI m := by rw [fr_rdI Fr (by omega)]; exact e27
      have sI : ∀ a, 352 ≤ a → a ≤ 355 → am_I g a (3648 + i) = am_I h a (3648 + i) := fun a h1 h2 => by rw [e1 a _ h1 h2, if_neg (by omega)]
      have sL : am_L g 357 (3648 + i) = am_L h 357 (3648 + i) := by rw [e2, if_neg (by omega)]
      have s2 := sI 352 (by decide) (by decide)
      have s3 := sI 353 (by decide) (by decide)
      have s4 := sI 354 (by decide) (by decide)
      have s5 := sI 355 (by decide) (by decide)
      have Fr' : am_fr (fun a => (352 ≤ a ∧ a ≤ 355) ∨ a = 357) h (am_setL (am_setI (am_setI (am_setI (am_setI g 352 (48 * s + i) (am_I h 352 (3648 + i))) 353 (48 * s + i) (am_I h 353 (3648 + i))) 354 (48 * s + i) (am_I h 354 (3648 + i))) 355 (48 * s + i) (am_I h 355 (3648 + i))) 357 (48 * s + i) (am_L h 357 (3648 + i))) := fr_L (fr_I (fr_I (fr_I (fr_I Fr (by omega)) (by omega)) (by omega)) (by omega)) (by omega)
      obtain ⟨g', w3, w4, r', rest⟩ := ih (i + 1) (am_setL (am_setI (am_setI (am_setI (am_setI g 352 (48 * s + i) (am_I h 352 (3648 + i))) 353 (48 * s + i) (am_I h 353 (3648 + i))) 354 (48 * s + i) (am_I h 354 (3648 + i))) 355 (48 * s + i) (am_I h 355 (3648 + i))) 357 (48 * s + i) (am_L h 357 (3648 + i))) (some (.int (nI (48 * s + i)))) (some (.int (nI (3648 + i)))) (by omega) (by omega) Fr' (by
          intro a j h1 h2
          have key : am_I (am_setL (am_setI (am_setI (am_setI (am_setI g 352 (48 * s + i) (am_I h 352 (3648 + i))) 353 (48 * s + i) (am_I h 353 (3648 + i))) 354 (48 * s + i) (am_I h 354 (3648 + i))) 355 (48 * s + i) (am_I h 355 (3648 + i))) 357 (48 * s + i) (am_L h 357 (3648 + i))) a j = if j = 48 * s + i then am_I h a (3648 + i) else am_I g a j := by
            rcases (show a = 352 ∨ a = 353 ∨ a = 354 ∨ a = 355 by omega) with rfl | rfl | rfl | rfl <;> simp only [hI_I, hI_L, hI_D, hI_R, hL_I, hL_L, hL_D, hL_R, hD_I, hD_L, hD_D, hD_R, hR_I, hR_L, hR_D, ↓reduceIte, Nat.reduceEqDiff]
          rw [key]
          by_cases c : j = 48 * s + i
          · rw [if_pos c, if_pos (by omega), c, show 48 * s + i - 48 * s = i by omega]
          · rw [if_neg c, e1 a j h1 h2]
            by_cases c2 : 48 * s ≤ j ∧ j < 48 * s + i
            · rw [if_pos c2, if_pos (by omega)]
            · rw [if_neg c2, if_neg (by omega)]) (by
          intro j
          have key : am_L (am_setL (am_setI (am_setI (am_setI (am_setI g 352 (48 * s + i) (am_I h 352 (3648 + i))) 353 (48 * s + i) (am_I h 353 (3648 + i))) 354 (48 * s + i) (am_I h 354 (3648 + i))) 355 (48 * s + i) (am_I h 355 (3648 + i))) 357 (48 * s + i) (am_L h 357 (3648 + i))) 357 j = if j = 48 * s + i then am_L h 357 (3648 + i) else am_L g 357 j := by
            simp only [hI_I, hI_L, hI_D, hI_R, hL_I, hL_L, hL_D, hL_R, hD_I, hD_L, hD_D, hD_R, hR_I, hR_L, hR_D, ↓reduceIte, Nat.reduceEqDiff]
          rw [key]
          by_cases c : j = 48 * s + i
          · rw [if_pos c, if_pos (by omega), c, show 48 * s + i - 48 * s = i by omega]
          · rw [if_neg c, e2 j]
            by_cases c2 : 48 * s ≤ j ∧ j < 48 * s + i
            · rw [if_pos c2, if_pos (by omega)]
            · rw [if_neg c2, if_neg (by omega)]) (fun j => by simp only [hI_I, hI_L, hI_D, hI_R, hL_I, hL_L, hL_D, hL_R, hD_I, hD_L, hD_D, hD_R, hR_I, hR_L, hR_D, ↓reduceIte, Nat.reduceEqDiff]; exact e3 j) (fun a j h1 h2 => by rw [rL_a (by omega)]; exact e4 a j h1 h2)
      refine ⟨g', w3, w4, fun Q => ?_, rest⟩
      rw [← r' Q, g223_2]
      simp (disch := first | with_reducible assumption | omega | exact Or.inl rfl | exact Or.inr rfl | exact bI_01 | exact c_cat | exact vt_ref | exact vt_null | rfl | with_reducible repeat (first | assumption | omega | apply S_I | apply S_L | apply S_D | apply ob_I | apply ob_L | apply ob_D | apply ob_R | apply ax_I | apply ax_L | apply ax_D | apply ax_R | apply o303 | apply o307 | apply o302 | apply o301 | apply ax304 | apply ax305 | apply ax306 | apply ax308 | apply ax309 | apply ax310 | apply lt_S | apply ar305 | apply ar308 | apply ar309)) only [g223_3, g223_4, g223_7, g223_10, g223_12, g223_13, g223_14, g223_15, g223_16, g223_17, g223_20, g223_21, g223_22, g223_24, g223_25, g223_28, g223_29, g223_30, g223_33, g223_35, g223_36, g223_37, g223_38, g223_41, g223_42, g223_43, g223_46, g223_48, g223_49, g223_50, g223_51, g223_54, g223_55, g223_56, g223_59, g223_61, g223_62, g223_63, g223_64, g223_67, g223_68, g223_69, g223_72, g223_74, g223_75, g223_76, g223_77, g223_80, g223_81, g223_82, g223_85, g223_87, g223_88, g223_89, g223_92, Option.toList, List.nil_append, List.cons_append, va_rf, nI_ltI, nI_leI, nI_eq, nI_add, nI_sub, nI_lt0, nI_e0, nI_m1, m1_nI, Nat.reduceEqDiff, Nat.reduceLT, Nat.reduceLeDiff, Nat.reduceAdd, Nat.reduceSub, Nat.reduceMul, ↓reduceIte, eq_self, hI_I, hI_L, hI_D, hI_R, hL_I, hL_L, hL_D, hL_R, hD_I, hD_L, hD_D, hD_R, hR_I, hR_L, hR_D, ↓reduceIte, Nat.reduceEqDiff, nI_mul, e27', show ¬ m ≤ i by omega, s2, s3, s4, s5, sL]
  obtain ⟨g, w3, w4, r1, Fr, e1, e2, e3, e4⟩ := Lp m 0 h none none (by omega) (by omega) fr_refl (fun a j _ _ => by rw [if_neg (by omega)]) (fun j => by rw [if_neg (by omega)]) (fun _ => rfl) (fun _ _ _ _ => rfl)
  have Sg := fr_S Fr S
  have e27' : am_I g 349 27 = nI m := by rw [fr_rdI Fr (by omega)]; exact e27
  have e76 : am_I g 356 76 = am_I h 356 76 := fr_rdI Fr (by omega)
  refine ⟨am_setI (am_setI g 356 s (am_I h 356 76)) 364 s (nI m), fun Q => ?_, fr_I (fr_I (fr_mono (fun a q => by omega) Fr) (by omega)) (by omega), fun i hi => ?_, fun a i h1 h2 h3 hi => ?_, ?_, fun i hi => ?_, ?_, fun i hi => ?_, fun i => ⟨?_, ?_, ?_⟩⟩
  · rw [g223_0, g223_1, r1]
    simp (disch := first | with_reducible assumption | omega | exact Or.inl rfl | exact Or.inr rfl | exact bI_01 | exact c_cat | exact vt_ref | exact vt_null | rfl | with_reducible repeat (first | assumption | omega | apply S_I | apply S_L | apply S_D | apply ob_I | apply ob_L | apply ob_D | apply ob_R | apply ax_I | apply ax_L | apply ax_D | apply ax_R | apply o303 | apply o307 | apply o302 | apply o301 | apply ax304 | apply ax305 | apply ax306 | apply ax308 | apply ax309 | apply ax310 | apply lt_S | apply ar305 | apply ar308 | apply ar309)) only [g223_95, g223_96, g223_99, g223_100, g223_101, g223_104, g223_106, g223_107, g223_108, g223_109, g223_112, g223_113, g223_114, g223_117, g223_118, Option.toList, List.nil_append, List.cons_append, va_rf, nI_ltI, nI_leI, nI_eq, nI_add, nI_sub, nI_lt0, nI_e0, nI_m1, m1_nI, Nat.reduceEqDiff, Nat.reduceLT, Nat.reduceLeDiff, Nat.reduceAdd, Nat.reduceSub, Nat.reduceMul, ↓reduceIte, eq_self, hI_I, hI_L, hI_D, hI_R, hL_I, hL_L, hL_D, hL_R, hD_I, hD_L, hD_D, hD_R, hR_I, hR_L, hR_D, ↓reduceIte, Nat.reduceEqDiff, e27', e76]
  · unfold tb
    have k : ∀ a, 352 ≤ a → a ≤ 355 → am_I (am_setI (am_setI g 356 s (am_I h 356 76)) 364 s (nI m)) a (48 * s + i) = am_I h a (3648 + i) := fun a h1 h2 => by
      rw [rI_a (by omega), rI_a (by omega), e1 a _ h1 h2, if_pos (by omega), show 48 * s + i - 48 * s = i by omega]
    have kL : am_L (am_setI (am_setI g 356 s (am_I h 356 76)) 364 s (nI m)) 357 (48 * s + i) = am_L h 357 (3648 + i) := by
      rw [hL_I, hL_I, e2, if_pos (by omega), show 48 * s + i - 48 * s = i by omega]
    rw [k 352 (by decide) (by decide), k 353 (by decide) (by decide), k 354 (by decide) (by decide), k 355 (by decide) (by decide), kL]
  · rw [rI_a (by omega), rI_a (by omega), hL_I, hL_I]
    by_cases c : a = 357
    · subst c
      exact ⟨e3 i, by rw [e2, if_neg (by omega)]⟩
    · exact ⟨by rw [e1 a i h1 (by omega), if_neg (by omega)], e4 a i h1 (by omega)⟩
  · rw [rI_a (by decide), rI_eq]
  · rw [rI_a (by decide), rI_k hi]; exact fr_rdI Fr (by omega)
  · rw [rI_eq]
  · rw [rI_k hi, rI_a (by decide)]; exact fr_rdI Fr (by omega)
  · rw [hL_I, hL_I]; exact fr_rdL Fr (by omega)
  · rw [hL_I, hL_I]; exact fr_rdL Fr (by omega)
  · rw [hD_I, hD_I]; exact fr_rdD Fr (by omega)
end MCP

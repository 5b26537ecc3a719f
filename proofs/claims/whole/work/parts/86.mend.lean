/-! THE MODEL: how reading a text ends -/
/-- what the end of the model's reading leaves -/
def ME (h h' : am_H) (m : Nat) : Prop := am_fr (fun a => a = 349 ∨ (352 ≤ a ∧ a ≤ 357)) h h' ∧ (∀ k, ¬ (k = 4 ∨ (17 ≤ k ∧ k ≤ 20) ∨ (22 ≤ k ∧ k ≤ 27)) → am_I h' 349 k = am_I h 349 k) ∧ (∀ k, am_L h' 349 k = am_L h 349 k) ∧ ∀ a i, 352 ≤ a → a ≤ 357 → (i < 3648 + m ∨ 3696 ≤ i) → (¬ (a = 356 ∧ i = 76) → am_I h' a i = am_I h a i) ∧ am_L h' a i = am_L h a i
section EN2
variable {d : Nat} {h g : am_H} {Q : Option Value → am_H → Prop} {v0 v1 v2 v3 v4 : Option Value} {t : Nat → Nat} {n m : Nat} {md : Nat ⊕ (Nat × Nat)} {k o wn wp r : Int32} {W : Option (Nat × Nat)}
theorem ME_of {h1 : am_H} (F : MF h h1 m) : ME h (am_setI h1 356 76 r) m := ⟨fr_I F.1 (Or.inr (by decide)), fun k hk => by rw [rI_a (by decide)]; exact F.2.1 k hk, F.2.2.1, fun a i h1 h2 hi => ⟨fun c => by
  by_cases e : a = 356
  · subst e; rw [rI_k (by omega)]; exact (F.2.2.2 _ i h1 h2 hi).1
  · rw [rI_a e]; exact (F.2.2.2 a i h1 h2 hi).1, (F.2.2.2 a i h1 h2 hi).2⟩⟩
theorem ME_I {h1 : am_H} {j : Nat} {x : Int32} (F : ME h h1 m) (hj : j = 4 ∨ (17 ≤ j ∧ j ≤ 20) ∨ (22 ≤ j ∧ j ≤ 27)) : ME h (am_setI h1 349 j x) m := ⟨fr_I F.1 (Or.inl rfl), fun k hk => by rw [rI_k (by omega)]; exact F.2.1 k hk, F.2.2.1, fun a i h1 h2 hi => ⟨fun c => by rw [rI_a (by omega)]; exact (F.2.2.2 a i h1 h2 hi).1 c, (F.2.2.2 a i h1 h2 hi).2⟩⟩
theorem m_end (Y : MX h t n md k o m wn wp) (L : ∀ q, md = .inl q → LT wn wp W) (hW : ∀ z, W = some z → z.2 ≤ 240) : ∃ h', (∀ Q, am_J (d + 3) 192 73 [some (.ref 349), some (.int r)] [] h Q ↔ Q (some (.int (foI (fin t n md W)))) h') ∧ ME h h' m ∧ am_I h' 349 22 = foI (fin t n md W) ∧ am_I h' 349 4 = fpI (fin t n md W) ∧ am_I h' 349 25 = k ∧ am_I h' 349 27 = nI m ∧ am_I h' 356 76 = r := by
  have S := Y.1
  have fail : ∀ y h1, fin t n md W = some y → MX h1 t n (.inr y) k o m wn wp → MF h h1 m → (∀ Q, am_J (d + 3) 192 73 [some (.ref 349), some (.int r)] [] h Q ↔ am_J (d + 3) 192 89 [some (.ref 349), some (.int r)] [] h1 Q) → ∃ h', (∀ Q, am_J (d + 3) 192 73 [some (.ref 349), some (.int r)] [] h Q ↔ Q (some (.int (foI (fin t n md W)))) h') ∧ ME h h' m ∧ am_I h' 349 22 = foI (fin t n md W) ∧ am_I h' 349 4 = fpI (fin t n md W) ∧ am_I h' 349 25 = k ∧ am_I h' 349 27 = nI m ∧ am_I h' 356 76 = r := by
    intro y h1 ef Y1 F1 W0
    have S1 := Y1.1
    obtain ⟨⟨b1, b2, b3⟩, y0, y1, y2⟩ := Y1.2.2.2.1
    have k1 := Y1.2.2.2.2.1
    have k2 := Y1.2.2.2.2.2.2.1
    rw [ef]
    refine ⟨am_setI h1 356 76 r, fun Q => ?_, ME_of F1, ?_, ?_, ?_, ?_, ?_⟩
    · rw [W0]
      simp (disch := first | with_reducible assumption | omega | exact Or.inl rfl | exact Or.inr rfl | exact bI_01 | exact c_cat | exact vt_ref | exact vt_null | rfl | with_reducible repeat (first | assumption | omega | apply S_I | apply S_L | apply S_D | apply ob_I | apply ob_L | apply ob_D | apply ob_R | apply ax_I | apply ax_L | apply ax_D | apply ax_R | apply o303 | apply o307 | apply o302 | apply o301 | apply ax304 | apply ax305 | apply ax306 | apply ax308 | apply ax309 | apply ax310 | apply lt_S | apply ar305 | apply ar308 | apply ar309)) only [g192_89, g192_90, g192_93, g192_95, g192_96, g192_97, g192_98, g192_101, g192_104, g192_105, g192_108, g192_109, g192_112, g192_113, g192_114, g192_117, g192_118, g192_121, g192_124, g192_125, g192_128, Option.toList, List.nil_append, List.cons_append, va_rf, nI_ltI, nI_leI, nI_eq, nI_add, nI_sub, nI_lt0, nI_e0, nI_m1, m1_nI, Nat.reduceEqDiff, Nat.reduceLT, Nat.reduceLeDiff, Nat.reduceAdd, Nat.reduceSub, Nat.reduceMul, ↓reduceIte, eq_self, hI_I, hI_L, hI_D, hI_R, hL_I, hL_L, hL_D, hL_R, hD_I, hD_L, hD_D, hD_R, hR_I, hR_L, hR_D, ↓reduceIte, Nat.reduceEqDiff, b1, y0, foI]
    · simp only [hI_I, hI_L, hI_D, hI_R, hL_I, hL_L, hL_D, hL_R, hD_I, hD_L, hD_D, hD_R, hR_I, hR_L, hR_D, ↓reduceIte, Nat.reduceEqDiff]; exact b1
    · simp only [hI_I, hI_L, hI_D, hI_R, hL_I, hL_L, hL_D, hL_R, hD_I, hD_L, hD_D, hD_R, hR_I, hR_L, hR_D, ↓reduceIte, Nat.reduceEqDiff]; exact b2
    · simp only [hI_I, hI_L, hI_D, hI_R, hL_I, hL_L, hL_D, hL_R, hD_I, hD_L, hD_D, hD_R, hR_I, hR_L, hR_D, ↓reduceIte, Nat.reduceEqDiff]; exact k1
    · simp only [hI_I, hI_L, hI_D, hI_R, hL_I, hL_L, hL_D, hL_R, hD_I, hD_L, hD_D, hD_R, hR_I, hR_L, hR_D, ↓reduceIte, Nat.reduceEqDiff]; exact k2
    · simp only [hI_I, hI_L, hI_D, hI_R, hL_I, hL_L, hL_D, hL_R, hD_I, hD_L, hD_D, hD_R, hR_I, hR_L, hR_D, ↓reduceIte, Nat.reduceEqDiff]
  match md, Y, fail, L with
  | .inr y, Y, fail, L =>
    obtain ⟨⟨b1, b2, q', e', k', z1, z2, z3, z4, z5, z6, z7, z8⟩, y0, y1, y2⟩ := Y.2.2.2.1
    by_cases c : k' = 0
    · subst c
      have nT := fun Q => m_needT (d := d + 2) (Q := Q) S
      rw [bI_t] at nT
      refine fail y h rfl Y MF_refl (fun Q => ?_)
      simp (disch := first | with_reducible assumption | omega | exact Or.inl rfl | exact Or.inr rfl | exact bI_01 | exact c_cat | exact vt_ref | exact vt_null | rfl | with_reducible repeat (first | assumption | omega | apply S_I | apply S_L | apply S_D | apply ob_I | apply ob_L | apply ob_D | apply ob_R | apply ax_I | apply ax_L | apply ax_D | apply ax_R | apply o303 | apply o307 | apply o302 | apply o301 | apply ax304 | apply ax305 | apply ax306 | apply ax308 | apply ax309 | apply ax310 | apply lt_S | apply ar305 | apply ar308 | apply ar309)) only [g192_73, g192_74, g192_75, g192_78, g192_81, g192_82, g192_85, g192_86, Option.toList, List.nil_append, List.cons_append, va_rf, nI_ltI, nI_leI, nI_eq, nI_add, nI_sub, nI_lt0, nI_e0, nI_m1, m1_nI, Nat.reduceEqDiff, Nat.reduceLT, Nat.reduceLeDiff, Nat.reduceAdd, Nat.reduceSub, Nat.reduceMul, ↓reduceIte, eq_self, z7, nT _]
    · obtain ⟨h1, r1, Y1, F1⟩ := m_needF (d := d + 1) Y
      rw [bI_f] at r1
      refine fail y h1 rfl Y1 F1 (fun Q => ?_)
      simp (disch := first | with_reducible assumption | omega | exact Or.inl rfl | exact Or.inr rfl | exact bI_01 | exact c_cat | exact vt_ref | exact vt_null | rfl | with_reducible repeat (first | assumption | omega | apply S_I | apply S_L | apply S_D | apply ob_I | apply ob_L | apply ob_D | apply ob_R | apply ax_I | apply ax_L | apply ax_D | apply ax_R | apply o303 | apply o307 | apply o302 | apply o301 | apply ax304 | apply ax305 | apply ax306 | apply ax308 | apply ax309 | apply ax310 | apply lt_S | apply ar305 | apply ar308 | apply ar309)) only [g192_73, g192_74, g192_75, g192_78, g192_81, g192_82, g192_85, g192_86, Option.toList, List.nil_append, List.cons_append, va_rf, nI_ltI, nI_leI, nI_eq, nI_add, nI_sub, nI_lt0, nI_e0, nI_m1, m1_nI, Nat.reduceEqDiff, Nat.reduceLT, Nat.reduceLeDiff, Nat.reduceAdd, Nat.reduceSub, Nat.reduceMul, ↓reduceIte, eq_self, z7, c, r1 _]
  | .inl q, Y, fail, L =>
    obtain ⟨e1, e2⟩ := LT_baseM (L q rfl) hW
    obtain ⟨⟨l1, l2, l3, l4⟩, lk, lq, f22, f4⟩ := Y.2.2.2.1
    by_cases c : lx_K t n q = 262
    · rw [c, show mtok 262 = 0 by decide] at l2
      have nT := fun Q => m_needT (d := d + 2) (Q := Q) S
      rw [bI_t] at nT
      have k1 := Y.2.2.2.2.1
      have k2 := Y.2.2.2.2.2.2.1
      have w1 := Y.2.2.2.2.2.2.2.2.1
      have w2 := Y.2.2.2.2.2.2.2.2.2
      rw [show fin t n (.inl q) W = W from if_pos c]
      cases W with
      | none =>
        have e1 : wp = -1 := e1
        rw [e1] at w2
        refine ⟨am_setI h 356 76 r, fun Q => ?_, ME_of MF_refl, ?_, ?_, ?_, ?_, ?_⟩
        · simp (disch := first | with_reducible assumption | omega | exact Or.inl rfl | exact Or.inr rfl | exact bI_01 | exact c_cat | exact vt_ref | exact vt_null | rfl | with_reducible repeat (first | assumption | omega | apply S_I | apply S_L | apply S_D | apply ob_I | apply ob_L | apply ob_D | apply ob_R | apply ax_I | apply ax_L | apply ax_D | apply ax_R | apply o303 | apply o307 | apply o302 | apply o301 | apply ax304 | apply ax305 | apply ax306 | apply ax308 | apply ax309 | apply ax310 | apply lt_S | apply ar305 | apply ar308 | apply ar309)) only [g192_73, g192_74, g192_75, g192_78, g192_81, g192_82, g192_85, g192_86, g192_89, g192_90, g192_93, g192_95, g192_96, g192_97, g192_98, g192_101, g192_104, g192_105, g192_108, g192_109, g192_112, g192_113, g192_114, g192_117, g192_118, g192_121, g192_124, g192_125, g192_128, Option.toList, List.nil_append, List.cons_append, va_rf, nI_ltI, nI_leI, nI_eq, nI_add, nI_sub, nI_lt0, nI_e0, nI_m1, m1_nI, Nat.reduceEqDiff, Nat.reduceLT, Nat.reduceLeDiff, Nat.reduceAdd, Nat.reduceSub, Nat.reduceMul, ↓reduceIte, eq_self, hI_I, hI_L, hI_D, hI_R, hL_I, hL_L, hL_D, hL_R, hD_I, hD_L, hD_D, hD_R, hR_I, hR_L, hR_D, ↓reduceIte, Nat.reduceEqDiff, l2, nT _, f22, w2, foI]
        · simp only [hI_I, hI_L, hI_D, hI_R, hL_I, hL_L, hL_D, hL_R, hD_I, hD_L, hD_D, hD_R, hR_I, hR_L, hR_D, ↓reduceIte, Nat.reduceEqDiff]; exact f22
        · simp only [hI_I, hI_L, hI_D, hI_R, hL_I, hL_L, hL_D, hL_R, hD_I, hD_L, hD_D, hD_R, hR_I, hR_L, hR_D, ↓reduceIte, Nat.reduceEqDiff]; exact f4
        · simp only [hI_I, hI_L, hI_D, hI_R, hL_I, hL_L, hL_D, hL_R, hD_I, hD_L, hD_D, hD_R, hR_I, hR_L, hR_D, ↓reduceIte, Nat.reduceEqDiff]; exact k1
        · simp only [hI_I, hI_L, hI_D, hI_R, hL_I, hL_L, hL_D, hL_R, hD_I, hD_L, hD_D, hD_R, hR_I, hR_L, hR_D, ↓reduceIte, Nat.reduceEqDiff]; exact k2
        · simp only [hI_I, hI_L, hI_D, hI_R, hL_I, hL_L, hL_D, hL_R, hD_I, hD_L, hD_D, hD_R, hR_I, hR_L, hR_D, ↓reduceIte, Nat.reduceEqDiff]
      | some z =>
        have e1 : wp = nI z.2 := e1
        obtain ⟨e3, e4, e5⟩ := e2 z rfl
        have hz := hW z rfl
        rw [e1] at w2
        rw [e3] at w1
        refine ⟨am_setI (am_setI (am_setI h 356 76 r) 349 22 (nI z.1)) 349 4 (nI z.2), fun Q => ?_, ME_I (ME_I (ME_of MF_refl) (by omega)) (by omega), ?_, ?_, ?_, ?_, ?_⟩
        · simp (disch := first | with_reducible assumption | omega | exact Or.inl rfl | exact Or.inr rfl | exact bI_01 | exact c_cat | exact vt_ref | exact vt_null | rfl | with_reducible repeat (first | assumption | omega | apply S_I | apply S_L | apply S_D | apply ob_I | apply ob_L | apply ob_D | apply ob_R | apply ax_I | apply ax_L | apply ax_D | apply ax_R | apply o303 | apply o307 | apply o302 | apply o301 | apply ax304 | apply ax305 | apply ax306 | apply ax308 | apply ax309 | apply ax310 | apply lt_S | apply ar305 | apply ar308 | apply ar309)) only [g192_73, g192_74, g192_75, g192_78, g192_81, g192_82, g192_85, g192_86, g192_89, g192_90, g192_93, g192_95, g192_96, g192_97, g192_98, g192_101, g192_104, g192_105, g192_108, g192_109, g192_112, g192_113, g192_114, g192_117, g192_118, g192_121, g192_124, g192_125, g192_128, g196_0, g196_1, g196_4, g196_7, g196_8, g196_9, g196_10, g196_13, g196_14, g196_15, g196_18, Option.toList, List.nil_append, List.cons_append, va_rf, nI_ltI, nI_leI, nI_eq, nI_add, nI_sub, nI_lt0, nI_e0, nI_m1, m1_nI, Nat.reduceEqDiff, Nat.reduceLT, Nat.reduceLeDiff, Nat.reduceAdd, Nat.reduceSub, Nat.reduceMul, ↓reduceIte, eq_self, hI_I, hI_L, hI_D, hI_R, hL_I, hL_L, hL_D, hL_R, hD_I, hD_L, hD_D, hD_R, hR_I, hR_L, hR_D, ↓reduceIte, Nat.reduceEqDiff, l2, nT _, f22, w1, w2, foI]
        · simp only [hI_I, hI_L, hI_D, hI_R, hL_I, hL_L, hL_D, hL_R, hD_I, hD_L, hD_D, hD_R, hR_I, hR_L, hR_D, ↓reduceIte, Nat.reduceEqDiff, foI]
        · simp only [hI_I, hI_L, hI_D, hI_R, hL_I, hL_L, hL_D, hL_R, hD_I, hD_L, hD_D, hD_R, hR_I, hR_L, hR_D, ↓reduceIte, Nat.reduceEqDiff, fpI]
        · simp only [hI_I, hI_L, hI_D, hI_R, hL_I, hL_L, hL_D, hL_R, hD_I, hD_L, hD_D, hD_R, hR_I, hR_L, hR_D, ↓reduceIte, Nat.reduceEqDiff]; exact k1
        · simp only [hI_I, hI_L, hI_D, hI_R, hL_I, hL_L, hL_D, hL_R, hD_I, hD_L, hD_D, hD_R, hR_I, hR_L, hR_D, ↓reduceIte, Nat.reduceEqDiff]; exact k2
        · simp only [hI_I, hI_L, hI_D, hI_R, hL_I, hL_L, hL_D, hL_R, hD_I, hD_L, hD_D, hD_R, hR_I, hR_L, hR_D, ↓reduceIte, Nat.reduceEqDiff]
    · have hm0 : mtok (lx_K t n q) ≠ 0 := by
        unfold mtok
        rw [if_neg c]
        repeat' split
        all_goals omega
      have hm5 : mtok (lx_K t n q) ≤ 5 := by
        unfold mtok
        repeat' split
        all_goals omega
      obtain ⟨h1, r1, Y1, F1⟩ := m_needF (d := d + 1) Y
      rw [bI_f] at r1
      refine fail (2, q) h1 (if_neg c) Y1 F1 (fun Q => ?_)
      simp (disch := first | with_reducible assumption | omega | exact Or.inl rfl | exact Or.inr rfl | exact bI_01 | exact c_cat | exact vt_ref | exact vt_null | rfl | with_reducible repeat (first | assumption | omega | apply S_I | apply S_L | apply S_D | apply ob_I | apply ob_L | apply ob_D | apply ob_R | apply ax_I | apply ax_L | apply ax_D | apply ax_R | apply o303 | apply o307 | apply o302 | apply o301 | apply ax304 | apply ax305 | apply ax306 | apply ax308 | apply ax309 | apply ax310 | apply lt_S | apply ar305 | apply ar308 | apply ar309)) only [g192_73, g192_74, g192_75, g192_78, g192_81, g192_82, g192_85, g192_86, Option.toList, List.nil_append, List.cons_append, va_rf, nI_ltI, nI_leI, nI_eq, nI_add, nI_sub, nI_lt0, nI_e0, nI_m1, m1_nI, Nat.reduceEqDiff, Nat.reduceLT, Nat.reduceLeDiff, Nat.reduceAdd, Nat.reduceSub, Nat.reduceMul, ↓reduceIte, eq_self, l2, hm0, r1 _]
end EN2

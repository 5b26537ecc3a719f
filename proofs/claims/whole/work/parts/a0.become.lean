/-! THE CLASS: Text.become; heaps that grow -/
/-- nothing that stood in h has changed -/
def am_ex (h g : am_H) : Prop := h.1 ≤ g.1 ∧ ∀ a, a < h.1 → am_tg g a = am_tg h a ∧ ∀ k, am_I g a k = am_I h a k ∧ am_L g a k = am_L h a k ∧ am_D g a k = am_D h a k ∧ am_R g a k = am_R h a k
section EXS
variable {h g g' : am_H} {a b k j n m : Nat}
theorem ex_refl : am_ex h h := ⟨Nat.le_refl _, fun _ _ => ⟨rfl, fun _ => ⟨rfl, rfl, rfl, rfl⟩⟩⟩
theorem ex_trans (F : am_ex h g) (G : am_ex g g') : am_ex h g' := ⟨Nat.le_trans F.1 G.1, fun a ha => ⟨(G.2 a (Nat.lt_of_lt_of_le ha F.1)).1.trans (F.2 a ha).1, fun k => ⟨((G.2 a (Nat.lt_of_lt_of_le ha F.1)).2 k).1.trans ((F.2 a ha).2 k).1, ((G.2 a (Nat.lt_of_lt_of_le ha F.1)).2 k).2.1.trans ((F.2 a ha).2 k).2.1, ((G.2 a (Nat.lt_of_lt_of_le ha F.1)).2 k).2.2.1.trans ((F.2 a ha).2 k).2.2.1, ((G.2 a (Nat.lt_of_lt_of_le ha F.1)).2 k).2.2.2.trans ((F.2 a ha).2 k).2.2.2⟩⟩⟩
theorem ex_new {t : Nat × Nat} (F : am_ex h g) : am_ex h (am_new g t n) := ⟨Nat.le_succ_of_le F.1, fun a ha => by
  have ne : a ≠ g.1 := Nat.ne_of_lt (Nat.lt_of_lt_of_le ha F.1)
  refine ⟨(if_neg ne).trans (F.2 a ha).1, fun k => ⟨(if_neg ne).trans ((F.2 a ha).2 k).1, (if_neg ne).trans ((F.2 a ha).2 k).2.1, (if_neg ne).trans ((F.2 a ha).2 k).2.2.1, (if_neg ne).trans ((F.2 a ha).2 k).2.2.2⟩⟩⟩
theorem ex_I {x : Int32} (F : am_ex h g) (hb : h.1 ≤ b) : am_ex h (am_setI g b j x) := ⟨F.1, fun a ha => ⟨(F.2 a ha).1, fun k => ⟨by rw [hI_I, if_neg (by omega)]; exact ((F.2 a ha).2 k).1, ((F.2 a ha).2 k).2⟩⟩⟩
theorem ex_L {x : Int64} (F : am_ex h g) (hb : h.1 ≤ b) : am_ex h (am_setL g b j x) := ⟨F.1, fun a ha => ⟨(F.2 a ha).1, fun k => ⟨((F.2 a ha).2 k).1, by rw [hL_L, if_neg (by omega)]; exact ((F.2 a ha).2 k).2.1, ((F.2 a ha).2 k).2.2⟩⟩⟩
theorem ex_R {x : Option Nat} (F : am_ex h g) (hb : h.1 ≤ b) : am_ex h (am_setR g b j x) := ⟨F.1, fun a ha => ⟨(F.2 a ha).1, fun k => ⟨((F.2 a ha).2 k).1, ((F.2 a ha).2 k).2.1, ((F.2 a ha).2 k).2.2.1, by rw [hR_R, if_neg (by omega)]; exact ((F.2 a ha).2 k).2.2.2⟩⟩⟩
theorem ex_cpI {sp dp : Nat} (F : am_ex h g) (hb : h.1 ≤ b) : am_ex h (am_cpI g a sp b dp n) := ⟨F.1, fun x hx => ⟨(F.2 x hx).1, fun k => ⟨(if_neg (show ¬ x = b by omega)).trans ((F.2 x hx).2 k).1, ((F.2 x hx).2 k).2⟩⟩⟩
theorem ex_cpL {sp dp : Nat} (F : am_ex h g) (hb : h.1 ≤ b) : am_ex h (am_cpL g a sp b dp n) := ⟨F.1, fun x hx => ⟨(F.2 x hx).1, fun k => ⟨((F.2 x hx).2 k).1, (if_neg (show ¬ x = b by omega)).trans ((F.2 x hx).2 k).2.1, ((F.2 x hx).2 k).2.2⟩⟩⟩
theorem ex_fr {P : Nat → Prop} (F : am_ex h g) (G : am_fr P g g') (hP : ∀ a, a < h.1 → ¬ P a) : am_ex h g' := ⟨by rw [G.1]; exact F.1, fun a ha => ⟨(fr_tg G).trans (F.2 a ha).1, fun k => ⟨(fr_rdI G (hP a ha)).trans ((F.2 a ha).2 k).1, (fr_rdL G (hP a ha)).trans ((F.2 a ha).2 k).2.1, (fr_rdD G (hP a ha)).trans ((F.2 a ha).2 k).2.2.1, (fr_rdR G).trans ((F.2 a ha).2 k).2.2.2⟩⟩⟩
theorem ax_of {kd q : Nat} (h1 : a < h.1) (h2 : am_tg h a = (kd, n)) (h3 : q < n) (h4 : q < 2 ^ 31) : am_ax h a kd q := ⟨h1, by rw [h2], by rw [h2]; exact h3, h4⟩
end EXS
theorem by_and (v : Int32) : (v &&& nI 255).toInt8 = v.toInt8 := by
  apply Int8.toBitVec_inj.mp
  apply BitVec.eq_of_getLsbD_eq
  intro i hi
  have h8 : i < 8 := hi
  rcases (show i = 0 ∨ i = 1 ∨ i = 2 ∨ i = 3 ∨ i = 4 ∨ i = 5 ∨ i = 6 ∨ i = 7 by omega) with rfl | rfl | rfl | rfl | rfl | rfl | rfl | rfl <;> simp [nI]
section BEC
variable {d : Nat} {h : am_H} {a a1 b b1 n1 n2 m : Nat}
theorem x_become (Oa : am_ob h a 10) (h4 : 4 ≤ a) (Ra : am_R h a 0 = some a1) (h41 : 4 ≤ a1) (Ta : am_tg h a1 = (103, n1)) (La : a1 < h.1) (Ob : am_ob h b 10) (Rb : am_R h b 0 = some b1) (Tb : am_tg h b1 = (103, n2)) (Lb : b1 < h.1) (hm1 : m ≤ n1) (hm2 : m ≤ n2) (hn1 : n1 < 2 ^ 31) (hn2 : n2 < 2 ^ 31) (d1 : a ≠ b) (d2 : a1 ≠ b1) (d3 : a ≠ a1) (d4 : a ≠ b1) (d5 : b ≠ a1) (Sb : am_I h b 1 = nI m) (By : ∀ i, i < m → (am_I h b1 i).toInt8.toInt32 = am_I h b1 i) :
    ∃ h', am_run (d + 1) 137 [some (.ref a), some (.ref b), none] h none h' ∧ am_fr (fun x => x = a ∨ x = a1) h h' ∧ am_I h' a 1 = nI m ∧ (∀ j, j ≠ 1 → am_I h' a j = am_I h a j) ∧ (∀ i, am_I h' a1 i = if i < m then am_I h b1 i else am_I h a1 i) ∧ (∀ x k, am_L h' x k = am_L h x k) ∧ ∀ x k, am_D h' x k = am_D h x k := by
  have Lp : ∀ r i g, m - i = r → i ≤ m → am_fr (fun x => x = a ∨ x = a1) h g → am_I g a 1 = nI i → (∀ j, j ≠ 1 → am_I g a j = am_I h a j) → (∀ j, am_I g a1 j = if j < i then am_I h b1 j else am_I h a1 j) → (∀ x k, am_L g x k = am_L h x k) → (∀ x k, am_D g x k = am_D h x k) → ∃ h', (∀ Q, am_J (d + 1) 137 7 [some (.ref a), some (.ref b), some (.int (nI i))] [] g Q ↔ Q none h') ∧ am_fr (fun x => x = a ∨ x = a1) h h' ∧ am_I h' a 1 = nI m ∧ (∀ j, j ≠ 1 → am_I h' a j = am_I h a j) ∧ (∀ i, am_I h' a1 i = if i < m then am_I h b1 i else am_I h a1 i) ∧ (∀ x k, am_L h' x k = am_L h x k) ∧ ∀ x k, am_D h' x k = am_D h x k := by
    intro r
    induction r with
    | zero =>
      intro i g hr hi Fr e1 e2 e3 e4 e5
      obtain rfl : i = m := by omega
      have Og := fr_ob Fr Ob
      have Sg : am_I g b 1 = nI i := by rw [fr_rdI Fr (by omega)]; exact Sb
      refine ⟨g, fun Q => ?_, Fr, e1, e2, e3, e4, e5⟩
      rw [g137_7]
      simp (disch := first | with_reducible assumption | omega | exact Or.inl rfl | exact Or.inr rfl | exact bI_01 | exact c_cat | exact vt_ref | exact vt_null | rfl | with_reducible repeat (first | assumption | omega | apply S_I | apply S_L | apply S_D | apply ob_I | apply ob_L | apply ob_D | apply ob_R | apply ax_I | apply ax_L | apply ax_D | apply ax_R | apply o303 | apply o307 | apply o302 | apply o301 | apply ax304 | apply ax305 | apply ax306 | apply ax308 | apply ax309 | apply ax310 | apply lt_S | apply ar305 | apply ar308 | apply ar309)) only [g137_8, g137_9, g137_12, g137_15, g137_16, g137_17, g137_18, g137_21, g137_24, g137_27, g137_30, Option.toList, List.nil_append, List.cons_append, va_rf, nI_ltI, nI_leI, nI_eq, nI_add, nI_sub, nI_lt0, nI_e0, nI_m1, m1_nI, Nat.reduceEqDiff, Nat.reduceLT, Nat.reduceLeDiff, Nat.reduceAdd, Nat.reduceSub, Nat.reduceMul, ↓reduceIte, eq_self, Sg, Nat.le_refl]
    | succ r ih =>
      intro i g hr hi Fr e1 e2 e3 e4 e5
      have Oga := fr_ob Fr Oa
      have Ogb := fr_ob Fr Ob
      have Rga : am_R g a 0 = some a1 := by rw [fr_rdR Fr]; exact Ra
      have Rgb : am_R g b 0 = some b1 := by rw [fr_rdR Fr]; exact Rb
      have Tga : am_tg g a1 = (103, n1) := by rw [fr_tg Fr]; exact Ta
      have Tgb : am_tg g b1 = (103, n2) := by rw [fr_tg Fr]; exact Tb
      have Lga : a1 < g.1 := by rw [Fr.1]; exact La
      have Lgb : b1 < g.1 := by rw [Fr.1]; exact Lb
      have Sg : am_I g b 1 = nI m := by rw [fr_rdI Fr (by omega)]; exact Sb
      have Bg : am_I g b1 i = am_I h b1 i := fr_rdI Fr (by omega)
      have Xa : am_ax g a1 103 i := ax_of Lga Tga (by omega) (by omega)
      have Xb : am_ax g b1 103 i := ax_of Lgb Tgb (by omega) (by omega)
      have Tk : 100 ≤ (am_tg g a1).1 := by rw [Tga]; show 100 ≤ 103; omega
      have Bi := By i (by omega)
      have ej : ∀ j, am_I (am_setI (am_setI g a1 i (am_I h b1 i)) a 1 (nI (i + 1))) a1 j = if j < i + 1 then am_I h b1 j else am_I h a1 j := by
        intro j
        rw [rI_a (Ne.symm d3)]
        by_cases c : j = i
        · subst c; rw [rI_eq, if_pos (Nat.lt_succ_self _)]
        · rw [rI_k c, e3 j]
          by_cases c2 : j < i
          · rw [if_pos c2, if_pos (by omega)]
          · rw [if_neg c2, if_neg (by omega)]
      obtain ⟨h', r', rest⟩ := ih (i + 1) (am_setI (am_setI g a1 i (am_I h b1 i)) a 1 (nI (i + 1))) (by omega) (by omega) (fr_I (fr_I Fr (Or.inr rfl)) (Or.inl rfl)) rI_eq (fun j hj => by rw [rI_k hj, rI_a d3]; exact e2 j hj) ej e4 e5
      refine ⟨h', fun Q => ?_, rest⟩
      rw [← r' Q, g137_7]
      simp (disch := first | with_reducible assumption | omega | exact Or.inl rfl | exact Or.inr rfl | exact bI_01 | exact c_cat | exact vt_ref | exact vt_null | rfl | with_reducible repeat (first | assumption | omega | apply S_I | apply S_L | apply S_D | apply ob_I | apply ob_L | apply ob_D | apply ob_R | apply ax_I | apply ax_L | apply ax_D | apply ax_R | apply o303 | apply o307 | apply o302 | apply o301 | apply ax304 | apply ax305 | apply ax306 | apply ax308 | apply ax309 | apply ax310 | apply lt_S | apply ar305 | apply ar308 | apply ar309)) only [g137_8, g137_9, g137_12, g137_15, g137_16, g137_17, g137_18, g137_21, g137_24, g137_27, g134_0, g134_1, g134_4, g134_5, g134_8, g134_9, g134_12, g134_13, g134_16, g134_17, g134_20, g134_21, g134_22, g134_23, g134_24, g134_25, g134_28, g134_29, g134_30, g134_33, g135_0, g135_1, g135_4, g135_5, g135_6, g135_9, g135_12, g135_13, g135_16, g135_17, g135_18, g135_21, g135_22, g135_25, g135_26, Option.toList, List.nil_append, List.cons_append, va_rf, nI_ltI, nI_leI, nI_eq, nI_add, nI_sub, nI_lt0, nI_e0, nI_m1, m1_nI, Nat.reduceEqDiff, Nat.reduceLT, Nat.reduceLeDiff, Nat.reduceAdd, Nat.reduceSub, Nat.reduceMul, ↓reduceIte, eq_self, hI_I, hI_L, hI_D, hI_R, hL_I, hL_L, hL_D, hL_R, hD_I, hD_L, hD_D, hD_R, hR_I, hR_L, hR_D, ↓reduceIte, Nat.reduceEqDiff, Sg, Rga, Rgb, Tga, Bg, e1, by_and, Bi, show ¬ m ≤ i by omega, show ¬ n1 ≤ i by omega, d3]
  obtain ⟨h', r', F', e1, e2, e3, e4, e5⟩ := Lp m 0 (am_setI h a 1 (nI 0)) (by omega) (by omega) (fr_I fr_refl (Or.inl rfl)) rI_eq (fun j hj => rI_k hj) (fun j => by rw [rI_a (Ne.symm d3), if_neg (Nat.not_lt_zero _)]) (fun _ _ => rfl) (fun _ _ => rfl)
  refine ⟨h', fun Q => ?_, F', e1, e2, e3, e4, e5⟩
  rw [← r' Q]
  simp (disch := first | with_reducible assumption | omega | exact Or.inl rfl | exact Or.inr rfl | exact bI_01 | exact c_cat | exact vt_ref | exact vt_null | rfl | with_reducible repeat (first | assumption | omega | apply S_I | apply S_L | apply S_D | apply ob_I | apply ob_L | apply ob_D | apply ob_R | apply ax_I | apply ax_L | apply ax_D | apply ax_R | apply o303 | apply o307 | apply o302 | apply o301 | apply ax304 | apply ax305 | apply ax306 | apply ax308 | apply ax309 | apply ax310 | apply lt_S | apply ar305 | apply ar308 | apply ar309)) only [g137_0, g137_1, g137_2, g137_5, g137_6, Option.toList, List.nil_append, List.cons_append, va_rf, nI_ltI, nI_leI, nI_eq, nI_add, nI_sub, nI_lt0, nI_e0, nI_m1, m1_nI, Nat.reduceEqDiff, Nat.reduceLT, Nat.reduceLeDiff, Nat.reduceAdd, Nat.reduceSub, Nat.reduceMul, ↓reduceIte, eq_self]
end BEC

/-! THE CLASS: an E is worked out -/
abbrev bg1 (h : am_H) (o : Nat) : am_H := am_setI (am_setR h 9 15 (some o)) o 9 (nI 0)
abbrev bg2 (h : am_H) (o sa : Nat) : am_H := am_setI (am_setI (am_setI (am_setI (am_setI (am_setR (bg1 h o) 9 16 (some sa)) 12 3 (nI 0)) 9 9 (nI 0)) 9 10 (nI 0)) 9 11 (nI 1000)) 9 13 (nI 0)
abbrev bg3 (h : am_H) (o sa : Nat) : am_H := am_setI (am_setR (bg2 h o sa) 9 14 none) 9 12 (nI 1)
abbrev bgH (h : am_H) (o sa e : Nat) : am_H := am_setI (am_setI (am_setR (bg3 h o sa) 278 0 (some e)) 278 1 (nI 0)) 278 2 (nI 0)
/-- what a cell or a constant may have changed in -/
def woP (o : Nat) (rr : Option Nat) (a k : Nat) : Prop := xmP o rr a k ∨ (a = o ∧ k ≠ 3 ∧ k ≤ 6)
/-- what is held after it was worked out -/
def WOx (h g : am_H) (o : Nat) (rr : Option Nat) (nb : Int32) (r : FO) : Prop := kp (woP o rr) h g ∧ am_S g ∧ RDx g o rr r.2.2 ∧ (rr = none → am_I g o 9 = nI 0) ∧ match r.1 with
  | .inl (.inl x) => am_I g o 0 = nI 1 ∧ am_L g o 1 = x
  | .inl (.inr y) => am_I g o 0 = nI 2 ∧ am_D g o 2 = y ∧ am_L g o 1 = y.toInt64 ∧ okD y
  | .inr (.inl k) => am_I g o 0 = nI 3 ∧ am_I g o 4 = nI k ∧ am_I g o 5 = nb ∧ am_I g o 6 = nI 0 ∧ 1 ≤ k ∧ k ≤ 11
  | .inr (.inr c) => c < 256 ∧ am_I g o 0 = nI 5 ∧ am_I g o 4 = am_I h (22 + c) 4 ∧ am_I g o 5 = am_I h (22 + c) 5 ∧ am_I g o 6 = am_I h (22 + c) 6
section XOU
variable {h g g' : am_H} {o sa dp d e : Nat} {rr : Option Nat} {ts : List (Nat × Nat × Nat)} {σ : SR} {v : VL} {nb : Int32}
theorem x_wbegin (S : am_S h) (ho : o < 278 ∨ 299 < o) (h22 : 22 ≤ o) (O : am_ob h o 0) (ec : am_R h o 3 = some e) : am_run d 33 [some (.ref 9), some (.ref o), some (.ref sa)] h none (bgH h o sa e) := fun Q => by
  have h4 : 4 ≤ o := by omega
  have S1 : am_S (bg1 h o) := S_Rg (x := some o) (k := 15) S (Or.inr (Or.inr (Or.inl ⟨rfl, by decide⟩)))
  have S0 : am_S (am_setR h 9 15 (some o)) := S_Rg (x := some o) (k := 15) S (Or.inr (Or.inr (Or.inl ⟨rfl, by decide⟩)))
  have S2a : am_S (am_setR (bg1 h o) 9 16 (some sa)) := S_Rg (x := some sa) (k := 16) S1 (Or.inr (Or.inr (Or.inl ⟨rfl, by decide⟩)))
  have S2 : am_S (bg2 h o sa) := S2a
  have S3a : am_S (am_setR (bg2 h o sa) 9 14 none) := S_Rg (x := none) (k := 14) S2 (Or.inr (Or.inr (Or.inl ⟨rfl, by decide⟩)))
  have S3 : am_S (bg3 h o sa) := S3a
  have S4 : am_S (am_setR (bg3 h o sa) 278 0 (some e)) := S_Rg (x := some e) (k := 0) S3 (Or.inl ⟨by decide, by decide⟩)
  have O0 : am_ob (am_setR h 9 15 (some o)) o 0 := O
  have O3 : am_ob (bg3 h o sa) o 0 := O
  have F3 := o278 S3 (show 0 < 22 by decide)
  have F4 := o278 S4 (show 0 < 22 by decide)
  have h278 : 4 ≤ 278 + 0 := by decide
  have r15 : am_R (am_setR h 9 15 (some o)) 9 15 = some o := by rw [hR_R, if_pos rfl, if_pos rfl]
  have rc : am_R (bg3 h o sa) o 3 = some e := by
    show am_R (am_setR (bg2 h o sa) 9 14 none) o 3 = _
    rw [hR_R, if_neg (by omega)]
    show am_R (am_setR (bg1 h o) 9 16 (some sa)) o 3 = _
    rw [hR_R, if_neg (by omega)]
    show am_R (am_setR h 9 15 (some o)) o 3 = _
    rw [hR_R, if_neg (by omega)]; exact ec
  simp (disch := first | with_reducible assumption | omega | exact Or.inl rfl | exact Or.inr rfl | exact bI_01 | exact c_cat | exact vt_ref | exact vt_null | rfl | with_reducible repeat (first | assumption | omega | apply S_I | apply S_L | apply S_D | apply ob_I | apply ob_L | apply ob_D | apply ob_R | apply ax_I | apply ax_L | apply ax_D | apply ax_R | apply o303 | apply o307 | apply o302 | apply o301 | apply ax304 | apply ax305 | apply ax306 | apply ax308 | apply ax309 | apply ax310 | apply lt_S | apply ar305 | apply ar308 | apply ar309)) only [g33_0, g33_1, g33_2, g33_2r, g33_2n, g33_5, g33_6, g33_9, g33_10, g33_13, g33_14, g33_15, g33_15r, g33_15n, g33_18, g33_19, g33_22, g33_23, g33_26, g33_27, g33_28, g33_31, g33_32, g33_33, g33_36, g33_37, g33_40, g33_43, g33_44, g33_45, g33_48, g33_49, g33_50, g33_50r, g33_50n, g33_53, g33_54, g33_55, g33_58, g33_59, g33_62, g33_63, g33_64, g33_65, g33_68, g33_68r, g33_68n, g33_71, g33_72, g33_75, g33_76, g33_77, g33_78, g33_81, g33_82, g33_85, g33_86, g33_87, g33_88, g33_91, Option.toList, List.nil_append, List.cons_append, va_rf, r15, rc, Nat.add_zero]
theorem bg_I {a k : Nat} (h9 : a ≠ 9) (h1 : a ≠ 12) (h2 : a ≠ 278) (h3 : a = o → k ≠ 9) : am_I (bgH h o sa e) a k = am_I h a k := by
  show am_I (am_setI (am_setI (bg3 h o sa) 278 1 (nI 0)) 278 2 (nI 0)) a k = _
  rw [rI_a h2, rI_a h2]
  show am_I (am_setI (bg2 h o sa) 9 12 (nI 1)) a k = _
  rw [rI_a h9]
  show am_I (am_setI (am_setI (am_setI (am_setI (am_setI (bg1 h o) 12 3 (nI 0)) 9 9 (nI 0)) 9 10 (nI 0)) 9 11 (nI 1000)) 9 13 (nI 0)) a k = _
  rw [rI_a h9, rI_a h9, rI_a h9, rI_a h9, rI_a h1]
  show am_I (am_setI h o 9 (nI 0)) a k = _
  by_cases c : a = o
  · rw [c, rI_k (h3 c)]
  · exact rI_a c
theorem bg_R {a k : Nat} (h9 : a ≠ 9) (h2 : a ≠ 278) : am_R (bgH h o sa e) a k = am_R h a k := by
  show am_R (am_setR (bg3 h o sa) 278 0 (some e)) a k = _
  rw [hR_R, if_neg h2]
  show am_R (am_setR (bg2 h o sa) 9 14 none) a k = _
  rw [hR_R, if_neg h9]
  show am_R (am_setR (bg1 h o) 9 16 (some sa)) a k = _
  rw [hR_R, if_neg h9]
  show am_R (am_setR h 9 15 (some o)) a k = _
  rw [hR_R, if_neg h9]
theorem XS_bg (S : am_S h) (ho : o < 278 ∨ 299 < o) (h22 : 22 ≤ o) (h349 : o < 349) (O : am_ob h o 0) (er : am_R h o 8 = rr) (hrr : ∀ a, rr = some a → 402 ≤ a ∧ a < h.1 ∧ am_tg h a = (100, 24)) : XS h (bgH h o sa e) o rr sa 0 [] (1000, []) ∧ KZ (bgH h o sa e) ∧ NS (bgH h o sa e) [] ∧ FRx (bgH h o sa e) 0 e 0 0 ∧ am_I (bgH h o sa e) o 9 = nI 0 := by
  have i9 : am_I (bgH h o sa e) o 9 = nI 0 := by
    show am_I (am_setI (am_setI (bg3 h o sa) 278 1 (nI 0)) 278 2 (nI 0)) o 9 = _
    rw [rI_a (by omega), rI_a (by omega)]
    show am_I (am_setI (bg2 h o sa) 9 12 (nI 1)) o 9 = _
    rw [rI_a (by omega)]
    show am_I (am_setI (am_setI (am_setI (am_setI (am_setI (bg1 h o) 12 3 (nI 0)) 9 9 (nI 0)) 9 10 (nI 0)) 9 11 (nI 1000)) 9 13 (nI 0)) o 9 = _
    rw [rI_a (by omega), rI_a (by omega), rI_a (by omega), rI_a (by omega), rI_a (by omega), rI_eq]
  have K : kp (xmP o rr) h (bgH h o sa e) := by
    have p9 : ∀ k, 9 ≤ k → xmP o rr 9 k := fun k hk => Or.inl ⟨rfl, hk⟩
    have p278 : ∀ k, xmP o rr 278 k := fun k => Or.inr (Or.inr (Or.inr (Or.inl ⟨by decide, by decide⟩)))
    have p12 : ∀ k, xmP o rr 12 k := fun k => Or.inr (Or.inl ⟨by decide, by decide⟩)
    exact kp_I (kp_I (kp_R (kp_I (kp_R (kp_I (kp_I (kp_I (kp_I (kp_I (kp_R (kp_I (kp_R kp_refl (p9 15 (by decide))) (Or.inr (Or.inr (Or.inr (Or.inr (Or.inl ⟨rfl, rfl⟩)))))) (p9 16 (by decide))) (p12 3)) (p9 9 (by decide))) (p9 10 (by decide))) (p9 11 (by decide))) (p9 13 (by decide))) (p9 14 (by decide))) (p9 12 (by decide))) (p278 0)) (p278 1)) (p278 2)
  have S1 : am_S (bg1 h o) := S_Rg (x := some o) (k := 15) S (Or.inr (Or.inr (Or.inl ⟨rfl, by decide⟩)))
  have S2 : am_S (bg2 h o sa) := S_Rg (x := some sa) (k := 16) S1 (Or.inr (Or.inr (Or.inl ⟨rfl, by decide⟩)))
  have S3 : am_S (bg3 h o sa) := S_Rg (x := none) (k := 14) S2 (Or.inr (Or.inr (Or.inl ⟨rfl, by decide⟩)))
  have S4 : am_S (bgH h o sa e) := S_Rg (x := some e) (k := 0) S3 (Or.inl ⟨by decide, by decide⟩)
  have n9 : ∀ k, am_I (bgH h o sa e) 9 k = am_I (bg3 h o sa) 9 k := fun k => by
    show am_I (am_setI (am_setI (bg3 h o sa) 278 1 (nI 0)) 278 2 (nI 0)) 9 k = _
    rw [rI_a (by decide), rI_a (by decide)]
  have m9 : ∀ k, k ≠ 12 → am_I (bg3 h o sa) 9 k = am_I (bg2 h o sa) 9 k := fun k hk => by
    show am_I (am_setI (bg2 h o sa) 9 12 (nI 1)) 9 k = _
    rw [rI_k hk]
  refine ⟨⟨K, S4, ⟨?_, fun i q hq => by cases hq⟩, ?_, ?_, by decide, ?_, ?_, ?_, ?_⟩, ⟨?_, ?_⟩, ⟨?_, fun i v hv => by cases hv⟩, ⟨?_, ?_, ?_⟩, i9⟩
  · rw [n9, m9 9 (by decide)]
    rw [rI_k (by decide), rI_k (by decide), rI_k (by decide), rI_eq]; rfl
  · rw [n9, m9 10 (by decide)]
    rw [rI_k (by decide), rI_k (by decide), rI_eq]
  · rw [n9, m9 11 (by decide)]
    rw [rI_k (by decide), rI_eq]
  · rw [n9]; exact rI_eq
  · show am_R (am_setR (bg3 h o sa) 278 0 (some e)) 9 15 = _
    rw [hR_R, if_neg (by decide)]
    show am_R (am_setR (bg2 h o sa) 9 14 none) 9 15 = _
    rw [hR_R, if_pos rfl, if_neg (by decide)]
    show am_R (am_setR (bg1 h o) 9 16 (some sa)) 9 15 = _
    rw [hR_R, if_pos rfl, if_neg (by decide)]
    show am_R (am_setR h 9 15 (some o)) 9 15 = _
    rw [hR_R, if_pos rfl, if_pos rfl]
  · show am_R (am_setR (bg3 h o sa) 278 0 (some e)) 9 16 = _
    rw [hR_R, if_neg (by decide)]
    show am_R (am_setR (bg2 h o sa) 9 14 none) 9 16 = _
    rw [hR_R, if_pos rfl, if_neg (by decide)]
    show am_R (am_setR (bg1 h o) 9 16 (some sa)) 9 16 = _
    rw [hR_R, if_pos rfl, if_pos rfl]
  · refine ⟨(bg_R (by omega) (by omega)).trans er, kp_ob K O, h22, h349, fun a q => ?_⟩
    obtain ⟨b1, b2, b3⟩ := hrr a q
    exact ⟨b1, Nat.lt_of_lt_of_le b2 K.1, (K.2.1 a b2).trans b3, i9, fun i h1 h2 => absurd h2 (Nat.not_lt_zero _)⟩
  · rw [n9, m9 13 (by decide)]
    rw [rI_eq]
  · show am_R (am_setR (bg3 h o sa) 278 0 (some e)) 9 14 = _
    rw [hR_R, if_neg (by decide)]
    show am_R (am_setR (bg2 h o sa) 9 14 none) 9 14 = _
    rw [hR_R, if_pos rfl, if_pos rfl]
  · show am_I (am_setI (am_setI (bg3 h o sa) 278 1 (nI 0)) 278 2 (nI 0)) 12 3 = _
    rw [rI_a (by decide), rI_a (by decide)]
    show am_I (am_setI (bg2 h o sa) 9 12 (nI 1)) 12 3 = _
    rw [rI_a (by decide), rI_a (by decide), rI_a (by decide), rI_a (by decide), rI_a (by decide), rI_eq]; rfl
  · show am_R (am_setR (bg3 h o sa) 278 0 (some e)) 278 0 = _
    rw [hR_R, if_pos rfl, if_pos rfl]
  · show am_I (am_setI (am_setI (bg3 h o sa) 278 1 (nI 0)) 278 2 (nI 0)) 278 1 = _
    rw [rI_k (by decide), rI_eq]
  · show am_I (am_setI (am_setI (bg3 h o sa) 278 1 (nI 0)) 278 2 (nI 0)) 278 2 = _
    rw [rI_eq]
end XOU

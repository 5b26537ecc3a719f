/-! BOTH PARSERS: how reading a text begins and ends -/
section BE2
variable {d : Nat} {h g : am_H} {Q : Option Value → am_H → Prop} {v0 v1 v2 v3 v4 : Option Value} {t : Nat → Nat} {n : Nat} {md : Nat ⊕ (Nat × Nat)} {C : List (Int32 × Int64)} {P : List Int32} {N : List Nat} {F k o ln lp : Int32}
theorem fr_setR {Pr : Nat → Prop} {a j : Nat} {x : Option Nat} (Fr : am_fr Pr h g) : am_fr Pr (am_setR h a j x) (am_setR g a j x) := by
  refine ⟨Fr.1, Fr.2.1, Fr.2.2.1, ?_, fun b hb i => Fr.2.2.2.2 b hb i⟩
  funext b i
  rw [hR_R, hR_R, fr_rdR Fr]
theorem x_begin (S : am_S h) (T : tX h t n) {cc : Nat} (hcc : cc < 256) (h7 : am_I h 302 7 = nI cc) {so : Nat} : ∃ h', am_run (d + 4) 76 [some (.ref 301), some (.ref 5), some (.int (nI so))] h none h' ∧ am_fr rX (am_setR h 302 0 (some 5)) h' ∧ PX h' t n (md1 t n) [] [] [] (nI 0) (nI 0) (nI 0) (nI 0) (-1) ∧ am_I h' 301 5 = nI so ∧ am_I h' 301 4 = nI 0 ∧ am_L h' 301 8 = lN 0 ∧ am_I h' 301 9 = -1 := by
  obtain ⟨ga, hga⟩ : ∃ ga, ga = am_setI (am_setI (am_setI (am_setI (am_setL (am_setI (am_setI h 301 5 (nI so)) 301 4 (nI 0)) 301 8 (lN 0)) 301 9 (-1)) 301 10 (nI 0)) 301 11 (nI 0)) 301 12 (-1) := ⟨_, rfl⟩
  have Sa : am_S ga := by rw [hga]; exact S_I (S_I (S_I (S_I (S_L (S_I (S_I S))))))
  have r1 := x_restart (d := d + 3) Sa
  obtain ⟨gb, hgb⟩ : ∃ gb, gb = am_setL (am_setL (am_setL (am_setL (am_setI (am_setI (am_setI (am_setI (am_setI ga 303 5 (nI 0)) 303 6 (nI 0)) 303 7 (nI 0)) 303 8 (nI 0)) 307 1 (nI 0)) 304 0 (lN 0)) 304 1 (lN 0)) 304 2 (lN 0)) 304 3 (lN 0) := ⟨_, rfl⟩
  rw [← hgb] at r1
  have Sb : am_S gb := by rw [hgb]; exact S_L (S_L (S_L (S_L (S_I (S_I (S_I (S_I (S_I Sa))))))))
  have Tb : tX gb t n := by
    rw [hgb, hga]
    refine ⟨by simp only [hI_I, hI_L, hI_D, hI_R, hL_I, hL_L, hL_D, hL_R, hD_I, hD_L, hD_D, hD_R, hR_I, hR_L, hR_D, ↓reduceIte, Nat.reduceEqDiff]; exact T.1, T.2.1, fun j hj => ?_⟩
    obtain ⟨a, b, c⟩ := T.2.2 j hj
    exact ⟨a, b, by simp only [hI_I, hI_L, hI_D, hI_R, hL_I, hL_L, hL_D, hL_R, hD_I, hD_L, hD_D, hD_R, hR_I, hR_L, hR_D, ↓reduceIte, Nat.reduceEqDiff]; exact c⟩
  obtain ⟨h', r2, Fr, L, Tx⟩ := x_lbegin (d := d) Sb Tb hcc (by rw [hgb, hga]; simp only [hI_I, hI_L, hI_D, hI_R, hL_I, hL_L, hL_D, hL_R, hD_I, hD_L, hD_D, hD_R, hR_I, hR_L, hR_D, ↓reduceIte, Nat.reduceEqDiff]; exact h7)
  have Fb : am_fr rX (am_setR h 302 0 (some 5)) (am_setR gb 302 0 (some 5)) := by
    apply fr_setR
    rw [hgb, hga]
    have e1 : rX 301 := by unfold rX; omega
    have e3 : rX 303 := by unfold rX; omega
    have e4 : rX 304 := by unfold rX; omega
    have e7 : rX 307 := by unfold rX; omega
    exact fr_L (fr_L (fr_L (fr_L (fr_I (fr_I (fr_I (fr_I (fr_I (fr_I (fr_I (fr_I (fr_I (fr_L (fr_I (fr_I fr_refl e1) e1) e1) e1) e1) e1) e1) e3) e3) e3) e3) e7) e4) e4) e4) e4
  have z : ∀ j, j < 4 → am_L h' 304 j = lN 0 := fun j hj => by
    rw [fr_rdL Fr (by decide), hL_R, hgb]
    rcases (show j = 0 ∨ j = 1 ∨ j = 2 ∨ j = 3 by omega) with rfl | rfl | rfl | rfl <;> simp only [hI_I, hI_L, hI_D, hI_R, hL_I, hL_L, hL_D, hL_R, hD_I, hD_L, hD_D, hD_R, hR_I, hR_L, hR_D, ↓reduceIte, Nat.reduceEqDiff]
  refine ⟨h', fun Q => ?_, fr_trans Fb (fr_mono (fun a e => by unfold rX; omega) Fr), ⟨fr_S Fr (S_R Sb (Or.inl ⟨rfl, rfl⟩)), Tx, L, ⟨?_, by decide, fun i x hx => by simp at hx⟩, ⟨?_, by decide, fun i x hx => by simp at hx⟩, ⟨?_, fun i x hx => by simp at hx, List.nodup_nil, fun c hc => by simp at hc, fun c hc => ?_⟩, ?_, ?_, ?_, ?_, ?_⟩, ?_, ?_, ?_, ?_⟩
  · have e : ∀ Q, am_J (d + 3) 10 0 [some (.ref 303), none] [] (am_setI (am_setI (am_setI (am_setI (am_setL (am_setI (am_setI h 301 5 (nI so)) 301 4 (nI 0)) 301 8 (lN 0)) 301 9 (-1)) 301 10 (nI 0)) 301 11 (nI 0)) 301 12 (-1)) Q ↔ Q none gb := by rw [← hga]; exact r1
    simp (disch := first | with_reducible assumption | omega | exact Or.inl rfl | exact Or.inr rfl | exact bI_01 | exact c_cat | exact vt_ref | exact vt_null | rfl | with_reducible repeat (first | assumption | omega | apply S_I | apply S_L | apply S_D | apply ob_I | apply ob_L | apply ob_D | apply ob_R | apply ax_I | apply ax_L | apply ax_D | apply ax_R | apply o303 | apply o307 | apply o302 | apply o301 | apply ax304 | apply ax305 | apply ax306 | apply ax308 | apply ax309 | apply ax310 | apply lt_S | apply ar305 | apply ar308 | apply ar309)) only [g76_0, g76_1, g76_2, g76_5, g76_6, g76_7, g76_10, g76_11, g76_12, g76_15, g76_16, g76_17, g76_20, g76_21, g76_22, g76_25, g76_26, g76_27, g76_30, g76_31, g76_32, g76_35, g76_36, g76_39, g76_42, g76_43, g76_46, g76_47, g76_50, Option.toList, List.nil_append, List.cons_append, va_rf, e _, r2 _]
  · rw [fr_rdI Fr (by decide), hI_R, hgb]; simp only [hI_I, hI_L, hI_D, hI_R, hL_I, hL_L, hL_D, hL_R, hD_I, hD_L, hD_D, hD_R, hR_I, hR_L, hR_D, ↓reduceIte, Nat.reduceEqDiff]; rfl
  · rw [fr_rdI Fr (by decide), hI_R, hgb]; simp only [hI_I, hI_L, hI_D, hI_R, hL_I, hL_L, hL_D, hL_R, hD_I, hD_L, hD_D, hD_R, hR_I, hR_L, hR_D, ↓reduceIte, Nat.reduceEqDiff]; rfl
  · rw [fr_rdI Fr (by decide), hI_R, hgb]; simp only [hI_I, hI_L, hI_D, hI_R, hL_I, hL_L, hL_D, hL_R, hD_I, hD_L, hD_D, hD_R, hR_I, hR_L, hR_D, ↓reduceIte, Nat.reduceEqDiff]; rfl
  · rw [z (c / 64) (by omega)]; simp [lN]
  · rw [fr_rdI Fr (by decide), hI_R, hgb]; simp only [hI_I, hI_L, hI_D, hI_R, hL_I, hL_L, hL_D, hL_R, hD_I, hD_L, hD_D, hD_R, hR_I, hR_L, hR_D, ↓reduceIte, Nat.reduceEqDiff]
  · rw [fr_rdI Fr (by decide), hI_R, hgb]; simp only [hI_I, hI_L, hI_D, hI_R, hL_I, hL_L, hL_D, hL_R, hD_I, hD_L, hD_D, hD_R, hR_I, hR_L, hR_D, ↓reduceIte, Nat.reduceEqDiff]
  · rw [fr_rdI Fr (by decide), hI_R, hgb, hga]; simp only [hI_I, hI_L, hI_D, hI_R, hL_I, hL_L, hL_D, hL_R, hD_I, hD_L, hD_D, hD_R, hR_I, hR_L, hR_D, ↓reduceIte, Nat.reduceEqDiff]
  · rw [fr_rdI Fr (by decide), hI_R, hgb, hga]; simp only [hI_I, hI_L, hI_D, hI_R, hL_I, hL_L, hL_D, hL_R, hD_I, hD_L, hD_D, hD_R, hR_I, hR_L, hR_D, ↓reduceIte, Nat.reduceEqDiff]
  · rw [fr_rdI Fr (by decide), hI_R, hgb, hga]; simp only [hI_I, hI_L, hI_D, hI_R, hL_I, hL_L, hL_D, hL_R, hD_I, hD_L, hD_D, hD_R, hR_I, hR_L, hR_D, ↓reduceIte, Nat.reduceEqDiff]
  · rw [fr_rdI Fr (by decide), hI_R, hgb, hga]; simp only [hI_I, hI_L, hI_D, hI_R, hL_I, hL_L, hL_D, hL_R, hD_I, hD_L, hD_D, hD_R, hR_I, hR_L, hR_D, ↓reduceIte, Nat.reduceEqDiff]
  · rw [fr_rdI Fr (by decide), hI_R, hgb, hga]; simp only [hI_I, hI_L, hI_D, hI_R, hL_I, hL_L, hL_D, hL_R, hD_I, hD_L, hD_D, hD_R, hR_I, hR_L, hR_D, ↓reduceIte, Nat.reduceEqDiff]
  · rw [fr_rdL Fr (by decide), hL_R, hgb, hga]; simp only [hI_I, hI_L, hI_D, hI_R, hL_I, hL_L, hL_D, hL_R, hD_I, hD_L, hD_D, hD_R, hR_I, hR_L, hR_D, ↓reduceIte, Nat.reduceEqDiff]
  · rw [fr_rdI Fr (by decide), hI_R, hgb, hga]; simp only [hI_I, hI_L, hI_D, hI_R, hL_I, hL_L, hL_D, hL_R, hD_I, hD_L, hD_D, hD_R, hR_I, hR_L, hR_D, ↓reduceIte, Nat.reduceEqDiff]
/-- what reading comes to: a fault and its place, or none -/
def fin (t : Nat → Nat) (n : Nat) (md : Nat ⊕ (Nat × Nat)) (W : Option (Nat × Nat)) : Option (Nat × Nat) := match md with
  | .inr y => some y
  | .inl q => if lx_K t n q = 262 then W else some (2, q)
def foI : Option (Nat × Nat) → Int32
  | none => nI 0
  | some y => nI y.1
def fpI : Option (Nat × Nat) → Int32
  | none => -1
  | some y => nI y.2
/-- the model begins -/
theorem m_begin (S : am_S h) (G : am_Gv h) (h2 : am_I h 349 2 = nI n) (hn : n ≤ 240) (T : ∀ j, j < n → 1 ≤ t j ∧ t j ≤ 255 ∧ am_I h 350 j = nI (t j)) : ∃ h', (∀ Q, am_J (d + 4) 192 0 [some (.ref 349), none] [] h Q ↔ am_J (d + 4) 192 57 [some (.ref 349), none] [] h' Q) ∧ am_fr (fun a => a = 349) h h' ∧ MX h' t n (md1 t n) (nI 0) (nI 0) 0 (am_I h 349 24) (-1) ∧ (∀ k, k ∉ [2, 4, 17, 18, 19, 20, 21, 22, 23, 25, 26, 27, 31] → am_I h' 349 k = am_I h 349 k) ∧ (∀ k, am_L h' 349 k = am_L h 349 k) ∧ am_I h' 349 31 = nI 0 ∧ am_I h' 349 2 = nI 0 := by
  obtain ⟨g, hg⟩ : ∃ g, g = am_setI (am_setI (am_setI (am_setI (am_setI (am_setI (am_setI (am_setI (am_setI (am_setI h 349 21 (nI n)) 349 2 (nI 0)) 349 17 (nI 0)) 349 22 (nI 0)) 349 4 (-1)) 349 23 (-1)) 349 25 (nI 0)) 349 26 (nI 0)) 349 27 (nI 0)) 349 31 (nI 0) := ⟨_, rfl⟩
  have Sg : am_S g := by rw [hg]; exact S_I (S_I (S_I (S_I (S_I (S_I (S_I (S_I (S_I (S_I S)))))))))
  have Fg : am_fr (fun a => a = 349) h g := by rw [hg]; exact fr_I (fr_I (fr_I (fr_I (fr_I (fr_I (fr_I (fr_I (fr_I (fr_I fr_refl rfl) rfl) rfl) rfl) rfl) rfl) rfl) rfl) rfl) rfl
  have Tg : mT g t n := ⟨by rw [hg]; simp only [hI_I, hI_L, hI_D, hI_R, hL_I, hL_L, hL_D, hL_R, hD_I, hD_L, hD_D, hD_R, hR_I, hR_L, hR_D, ↓reduceIte, Nat.reduceEqDiff], hn, fun j hj => by
    obtain ⟨a, b, c⟩ := T j hj
    exact ⟨a, b, by rw [fr_rdI Fg (by decide)]; exact c⟩⟩
  have e17 : am_I g 349 17 = nI 0 := by rw [hg]; simp only [hI_I, hI_L, hI_D, hI_R, hL_I, hL_L, hL_D, hL_R, hD_I, hD_L, hD_D, hD_R, hR_I, hR_L, hR_D, ↓reduceIte, Nat.reduceEqDiff]
  have e22 : am_I g 349 22 = nI 0 := by rw [hg]; simp only [hI_I, hI_L, hI_D, hI_R, hL_I, hL_L, hL_D, hL_R, hD_I, hD_L, hD_D, hD_R, hR_I, hR_L, hR_D, ↓reduceIte, Nat.reduceEqDiff]
  have e4 : am_I g 349 4 = -1 := by rw [hg]; simp only [hI_I, hI_L, hI_D, hI_R, hL_I, hL_L, hL_D, hL_R, hD_I, hD_L, hD_D, hD_R, hR_I, hR_L, hR_D, ↓reduceIte, Nat.reduceEqDiff]
  obtain ⟨h', R, Fr, A1, A2, A3, A4⟩ := m_next (d := d) (v1 := none) Sg Tg e17 (Nat.zero_le _) e22
  have hq : lx_q t n 0 ≤ n := scan_le (Nat.zero_le _)
  have F0 : MF g h' 0 := MF_349 Fr A3 A4
  refine ⟨h', fun Q => ?_, fr_trans Fg Fr, ⟨MF_S F0 Sg, MF_G F0 (Gv_fr Fg (by omega) (by omega) (by omega) G), MF_T0 F0 Tg, ?_, ?_, ?_, ?_, by decide, ?_, ?_⟩, fun k hk => ?_, fun k => ?_, ?_, ?_⟩
  · subst hg
    simp (disch := first | with_reducible assumption | omega | exact Or.inl rfl | exact Or.inr rfl | exact bI_01 | exact c_cat | exact vt_ref | exact vt_null | rfl | with_reducible repeat (first | assumption | omega | apply S_I | apply S_L | apply S_D | apply ob_I | apply ob_L | apply ob_D | apply ob_R | apply ax_I | apply ax_L | apply ax_D | apply ax_R | apply o303 | apply o307 | apply o302 | apply o301 | apply ax304 | apply ax305 | apply ax306 | apply ax308 | apply ax309 | apply ax310 | apply lt_S | apply ar305 | apply ar308 | apply ar309)) only [g192_0, g192_1, g192_2, g192_5, g192_8, g192_9, g192_10, g192_13, g192_14, g192_15, g192_18, g192_19, g192_20, g192_23, g192_24, g192_25, g192_28, g192_29, g192_30, g192_33, g192_34, g192_35, g192_38, g192_39, g192_40, g192_43, g192_44, g192_45, g192_48, g192_49, g192_50, g192_53, g192_54, Option.toList, List.nil_append, List.cons_append, va_rf, h2, R _]
  · unfold md1
    by_cases c : lx_K t n (lx_q t n 0) = 263
    · simp only [c, ↓reduceIte]
      exact ⟨A2 c, Nat.one_ne_zero, show 1 < 100 by decide, hq⟩
    · simp only [c, ↓reduceIte]
      obtain ⟨a1, a2, a3⟩ := A1 c
      exact ⟨a1, c, hq, a2.trans e22, a3.trans e4⟩
  · rw [A3 25 (by decide) (by decide) (by decide), hg]; simp only [hI_I, hI_L, hI_D, hI_R, hL_I, hL_L, hL_D, hL_R, hD_I, hD_L, hD_D, hD_R, hR_I, hR_L, hR_D, ↓reduceIte, Nat.reduceEqDiff]
  · rw [A3 26 (by decide) (by decide) (by decide), hg]; simp only [hI_I, hI_L, hI_D, hI_R, hL_I, hL_L, hL_D, hL_R, hD_I, hD_L, hD_D, hD_R, hR_I, hR_L, hR_D, ↓reduceIte, Nat.reduceEqDiff]
  · rw [A3 27 (by decide) (by decide) (by decide), hg]; simp only [hI_I, hI_L, hI_D, hI_R, hL_I, hL_L, hL_D, hL_R, hD_I, hD_L, hD_D, hD_R, hR_I, hR_L, hR_D, ↓reduceIte, Nat.reduceEqDiff]
  · rw [A3 24 (by decide) (by decide) (by decide), hg]; simp only [hI_I, hI_L, hI_D, hI_R, hL_I, hL_L, hL_D, hL_R, hD_I, hD_L, hD_D, hD_R, hR_I, hR_L, hR_D, ↓reduceIte, Nat.reduceEqDiff]
  · rw [A3 23 (by decide) (by decide) (by decide), hg]; simp only [hI_I, hI_L, hI_D, hI_R, hL_I, hL_L, hL_D, hL_R, hD_I, hD_L, hD_D, hD_R, hR_I, hR_L, hR_D, ↓reduceIte, Nat.reduceEqDiff]
  · simp only [List.mem_cons, List.not_mem_nil, or_false, not_or] at hk
    rw [A3 k (by omega) (by omega) (by omega), hg, rI_k (by omega), rI_k (by omega), rI_k (by omega), rI_k (by omega), rI_k (by omega), rI_k (by omega), rI_k (by omega), rI_k (by omega), rI_k (by omega), rI_k (by omega)]
  · rw [A4 k, hg]; simp only [hI_I, hI_L, hI_D, hI_R, hL_I, hL_L, hL_D, hL_R, hD_I, hD_L, hD_D, hD_R, hR_I, hR_L, hR_D, ↓reduceIte, Nat.reduceEqDiff]
  · rw [A3 31 (by decide) (by decide) (by decide), hg]; simp only [hI_I, hI_L, hI_D, hI_R, hL_I, hL_L, hL_D, hL_R, hD_I, hD_L, hD_D, hD_R, hR_I, hR_L, hR_D, ↓reduceIte, Nat.reduceEqDiff]
  · rw [A3 2 (by decide) (by decide) (by decide), hg]; simp only [hI_I, hI_L, hI_D, hI_R, hL_I, hL_L, hL_D, hL_R, hD_I, hD_L, hD_D, hD_R, hR_I, hR_L, hR_D, ↓reduceIte, Nat.reduceEqDiff]
end BE2

/-! BOTH PARSERS: how reading a text begins -/
theorem rfL_free : ∀ q ∈ am_rfL, ¬ (q.1 = 302 ∧ q.2.1 = 0) ∧ ¬ (q.1 = 301 ∧ q.2.1 = 6) := by decide +kernel
theorem S_R {h : am_H} {a k : Nat} {x : Option Nat} (S : am_S h) (hak : (a = 302 ∧ k = 0) ∨ (a = 301 ∧ k = 6)) : am_S (am_setR h a k x) := by
  obtain ⟨s1, s2, s3, s4, s5, s6⟩ := S
  refine ⟨s1, s2, fun q hq => ?_, fun c hc => ?_, fun i hi => ?_, fun s hs => ⟨?_, ?_, fun i hi => ?_⟩⟩
  · rw [hR_R]
    have := rfL_free q hq
    by_cases e : q.1 = a
    · rw [if_pos e, if_neg (by omega)]; exact s3 q hq
    · rw [if_neg e]; exact s3 q hq
  · rw [hR_R, if_neg (by omega)]; exact s4 c hc
  · rw [hR_R, if_neg (by omega)]; exact s5 i hi
  · rw [hR_R, if_neg (by omega)]; exact (s6 s hs).1
  · rw [hR_R]
    by_cases e : 321 + 7 * s = a
    · omega
    · rw [if_neg e]; exact (s6 s hs).2.1
  · rw [hR_R, if_neg (by omega)]; exact (s6 s hs).2.2 i hi
/-- the first token -/
def md1 (t : Nat → Nat) (n : Nat) : Nat ⊕ (Nat × Nat) := if lx_K t n (lx_q t n 0) = 263 then .inr (1, lx_q t n 0) else .inl (lx_q t n 0)
/-- the text, as the class holds it -/
def tX (h : am_H) (t : Nat → Nat) (n : Nat) : Prop := am_I h 5 1 = nI n ∧ n ≤ 240 ∧ ∀ j, j < n → 1 ≤ t j ∧ t j ≤ 255 ∧ am_I h 6 j = by8 (t j)
section BEG
variable {d : Nat} {h g : am_H} {Q : Option Value → am_H → Prop} {v0 v1 v2 v3 v4 : Option Value} {t : Nat → Nat} {n : Nat}
theorem x_restart (S : am_S h) : am_run d 10 [some (.ref 303), none] h none (am_setL (am_setL (am_setL (am_setL (am_setI (am_setI (am_setI (am_setI (am_setI h 303 5 (nI 0)) 303 6 (nI 0)) 303 7 (nI 0)) 303 8 (nI 0)) 307 1 (nI 0)) 304 0 (lN 0)) 304 1 (lN 0)) 304 2 (lN 0)) 304 3 (lN 0)) := by
  intro Q
  obtain ⟨R0, R1, R2, R3, R4, R5⟩ := S303r S
  have O3 := o303 S
  have O7 := o307 S
  have A0 := ax304 S (q := 0) (by decide)
  have A1 := ax304 S (q := 1) (by decide)
  have A2 := ax304 S (q := 2) (by decide)
  have A3 := ax304 S (q := 3) (by decide)
  simp (disch := first | with_reducible assumption | omega | exact Or.inl rfl | exact Or.inr rfl | exact bI_01 | exact c_cat | exact vt_ref | exact vt_null | rfl | with_reducible repeat (first | assumption | omega | apply S_I | apply S_L | apply S_D | apply ob_I | apply ob_L | apply ob_D | apply ob_R | apply ax_I | apply ax_L | apply ax_D | apply ax_R | apply o303 | apply o307 | apply o302 | apply o301 | apply ax304 | apply ax305 | apply ax306 | apply ax308 | apply ax309 | apply ax310 | apply lt_S | apply ar305 | apply ar308 | apply ar309)) only [g10_0, g10_1, g10_2, g10_5, g10_6, g10_7, g10_10, g10_11, g10_12, g10_15, g10_16, g10_17, g10_20, g10_21, g10_24, g10_25, g10_28, g10_29, g10_30, g10_31, g10_32, g10_35, g10_36, g10_39, g10_40, g10_41, g10_42, g10_45, g10_48, Option.toList, List.nil_append, List.cons_append, va_rf, nI_ltI, nI_leI, nI_eq, nI_add, nI_sub, nI_lt0, nI_e0, nI_m1, m1_nI, Nat.reduceEqDiff, Nat.reduceLT, Nat.reduceLeDiff, Nat.reduceAdd, Nat.reduceSub, Nat.reduceMul, ↓reduceIte, eq_self, hI_I, hI_L, hI_D, hI_R, hL_I, hL_L, hL_D, hL_R, hD_I, hD_L, hD_D, hD_R, hR_I, hR_L, hR_D, ↓reduceIte, Nat.reduceEqDiff, R2, R4]
theorem x_lbegin (S : am_S h) (T : tX h t n) {cc : Nat} (hcc : cc < 256) (h7 : am_I h 302 7 = nI cc) : ∃ h', am_run (d + 3) 21 [some (.ref 302), some (.ref 5)] h none h' ∧ am_fr (fun a => a = 302) (am_setR h 302 0 (some 5)) h' ∧ lxS h' t n (md1 t n) ∧ xT h' t n := by
  have S1 : am_S (am_setR h 302 0 (some 5)) := S_R S (Or.inl ⟨rfl, rfl⟩)
  have O2 := o302 S1
  have hg : ∃ g, g = am_setI (am_setI (am_setI (am_setI (am_setR h 302 0 (some 5)) 302 1 (nI 0)) 302 2 (nI 262)) 302 8 (nI 0)) 302 9 (-1) := ⟨_, rfl⟩
  obtain ⟨g, hg⟩ := hg
  have Sg : am_S g := by rw [hg]; exact S_I (S_I (S_I (S_I S1)))
  have Tg : xT g t n := by
    rw [hg]
    refine ⟨by simp only [hI_I, hI_L, hI_D, hI_R, hL_I, hL_L, hL_D, hL_R, hD_I, hD_L, hD_D, hD_R, hR_I, hR_L, hR_D, ↓reduceIte, Nat.reduceEqDiff, hR_R], by simp only [hI_I, hI_L, hI_D, hI_R, hL_I, hL_L, hL_D, hL_R, hD_I, hD_L, hD_D, hD_R, hR_I, hR_L, hR_D, ↓reduceIte, Nat.reduceEqDiff]; exact T.1, T.2.1, fun j hj => ?_⟩
    obtain ⟨a, b, c⟩ := T.2.2 j hj
    exact ⟨a, b, by simp only [hI_I, hI_L, hI_D, hI_R, hL_I, hL_L, hL_D, hL_R, hD_I, hD_L, hD_D, hD_R, hR_I, hR_L, hR_D, ↓reduceIte, Nat.reduceEqDiff]; exact c⟩
  have e1 : am_I g 302 1 = nI 0 := by rw [hg]; simp only [hI_I, hI_L, hI_D, hI_R, hL_I, hL_L, hL_D, hL_R, hD_I, hD_L, hD_D, hD_R, hR_I, hR_L, hR_D, ↓reduceIte, Nat.reduceEqDiff]
  have e2 : am_I g 302 2 = nI 262 := by rw [hg]; simp only [hI_I, hI_L, hI_D, hI_R, hL_I, hL_L, hL_D, hL_R, hD_I, hD_L, hD_D, hD_R, hR_I, hR_L, hR_D, ↓reduceIte, Nat.reduceEqDiff]
  have e8 : am_I g 302 8 = nI 0 := by rw [hg]; simp only [hI_I, hI_L, hI_D, hI_R, hL_I, hL_L, hL_D, hL_R, hD_I, hD_L, hD_D, hD_R, hR_I, hR_L, hR_D, ↓reduceIte, Nat.reduceEqDiff]
  have e9 : am_I g 302 9 = -1 := by rw [hg]; simp only [hI_I, hI_L, hI_D, hI_R, hL_I, hL_L, hL_D, hL_R, hD_I, hD_L, hD_D, hD_R, hR_I, hR_L, hR_D, ↓reduceIte, Nat.reduceEqDiff]
  have e7 : am_I g 302 7 = nI cc := by rw [hg]; simp only [hI_I, hI_L, hI_D, hI_R, hL_I, hL_L, hL_D, hL_R, hD_I, hD_L, hD_D, hD_R, hR_I, hR_L, hR_D, ↓reduceIte, Nat.reduceEqDiff]; exact h7
  obtain ⟨h', R, Fr, A1, A2, A3⟩ := x_advance (d := d) (v1 := none) Sg Tg e1 (Nat.zero_le _) e2 (by decide) e8
  have hq : lx_q t n 0 ≤ n := scan_le (Nat.zero_le _)
  refine ⟨h', fun Q => ?_, ?_, ?_, xT_fr Fr (by decide) (by decide) Tg⟩
  · subst hg
    simp (disch := first | with_reducible assumption | omega | exact Or.inl rfl | exact Or.inr rfl | exact bI_01 | exact c_cat | exact vt_ref | exact vt_null | rfl | with_reducible repeat (first | assumption | omega | apply S_I | apply S_L | apply S_D | apply ob_I | apply ob_L | apply ob_D | apply ob_R | apply ax_I | apply ax_L | apply ax_D | apply ax_R | apply o303 | apply o307 | apply o302 | apply o301 | apply ax304 | apply ax305 | apply ax306 | apply ax308 | apply ax309 | apply ax310 | apply lt_S | apply ar305 | apply ar308 | apply ar309)) only [g21_0, g21_1, g21_2, g21_2r, g21_2n, g21_5, g21_6, g21_7, g21_10, g21_11, g21_14, g21_17, g21_18, g21_19, g21_22, g21_23, g21_24, g21_27, g21_28, g21_31, g21_2r, Option.toList, List.nil_append, List.cons_append, va_rf, R _]
  · refine fr_trans ?_ Fr
    rw [hg]
    exact fr_I (fr_I (fr_I (fr_I fr_refl rfl) rfl) rfl) rfl
  · unfold md1
    by_cases c : lx_K t n (lx_q t n 0) = 263
    · simp only [c, ↓reduceIte]
      exact ⟨A2 c, Nat.one_ne_zero, show 1 < 100 by decide, hq, cc, hcc, (A3 (by rw [c]; decide)).trans e7⟩
    · simp only [c, ↓reduceIte]
      obtain ⟨a1, a2, a3⟩ := A1 c
      refine ⟨a1, c, hq, a2.trans e8, a3.trans e9, ?_⟩
      by_cases c9 : lx_K t n (lx_q t n 0) = 259
      · exact ⟨_, lx_c_lt c9, a1.2.2.2.2.2 c9⟩
      · exact ⟨cc, hcc, (A3 c9).trans e7⟩
end BEG

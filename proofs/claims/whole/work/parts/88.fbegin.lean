/-! THE CLASS: readFormula, up to its E -/
section FBG
variable {d : Nat} {h g : am_H} {t : Nat → Nat} {n : Nat} {md : Nat ⊕ (Nat × Nat)} {C : List (Int32 × Int64)} {P : List Int32} {N : List Nat} {F k o ln lp : Int32}
theorem PX_R {x : Option Nat} (X : PX h t n md C P N F k o ln lp) : PX (am_setR h 301 6 x) t n md C P N F k o ln lp := by
  obtain ⟨S, T, L, hC, hP, hN, e1, e2, e3, e4, e5⟩ := X
  refine ⟨S_R S (Or.inr ⟨rfl, rfl⟩), ⟨by rw [hR_R, if_neg (by decide)]; exact T.1, T.2⟩, ?_, hC, hP, hN, e1, e2, e3, e4, e5⟩
  match md, L with
  | .inl q, L => exact L
  | .inr y, L => exact L
theorem PX_fr301 (Fr : am_fr (fun a => a = 301) h g) (X : PX h t n md C P N F k o ln lp) (h10 : am_I g 301 10 = o) (h11 : am_I g 301 11 = ln) (h12 : am_I g 301 12 = lp) : PX g t n md C P N F k o ln lp := by
  obtain ⟨S, T, L, ⟨c1, c2, c3⟩, ⟨p1, p2, p3⟩, ⟨n1, n2, n3, n4, n5⟩, e1, e2, e3, e4, e5⟩ := X
  refine ⟨fr_S Fr S, xT_fr Fr (by decide) (by decide) T, ?_, ⟨?_, c2, fun i x hx => ?_⟩, ⟨?_, p2, fun i x hx => ?_⟩, ⟨?_, fun i c hc => ?_, n3, n4, fun c hc => ?_⟩, ?_, ?_, h10, h11, h12⟩
  · match md, L with
    | .inl q, L =>
      simp only [lxS, LX, fr_rdI Fr (show ¬ (302 = 301) by decide), fr_rdL Fr (show ¬ (302 = 301) by decide)] at L ⊢
      exact L
    | .inr y, L =>
      simp only [lxS, LB, fr_rdI Fr (show ¬ (302 = 301) by decide), fr_rdL Fr (show ¬ (302 = 301) by decide)] at L ⊢
      exact L
  all_goals simp only [fr_rdI Fr (show ¬ (303 = 301) by decide), fr_rdI Fr (show ¬ (305 = 301) by decide), fr_rdL Fr (show ¬ (306 = 301) by decide), fr_rdI Fr (show ¬ (307 = 301) by decide), fr_rdI Fr (show ¬ (308 = 301) by decide), fr_rdI Fr (show ¬ (309 = 301) by decide), fr_rdL Fr (show ¬ (304 = 301) by decide)]
  · exact c1
  · exact c3 i x hx
  · exact p1
  · exact p3 i x hx
  · exact n1
  · exact n2 i c hc
  · exact n5 c hc
  · exact e1
  · exact e2
theorem x_fbegin (S : am_S h) (T : tX h t n) {cc : Nat} (hcc : cc < 256) (h7 : am_I h 302 7 = nI cc) {s nc : Nat} (hs : s < 4) (hnc : am_I h (321 + 7 * s) 1 = nI nc) : ∃ h2, (∀ Q, am_J (d + 5) 75 0 [some (.ref 301), some (.ref 5), some (.ref (321 + 7 * s))] [] h Q ↔ am_J (d + 5) 75 19 [some (.ref 301), some (.ref 5), some (.ref (321 + 7 * s))] [] h2 Q) ∧ am_fr rX (am_setR (am_setR h 302 0 (some 5)) 301 6 (some (321 + 7 * s))) h2 ∧ PX h2 t n (md1 t n) [] [] [] (nI 0) (nI 0) (nI 0) (nI 0) (-1) ∧ am_I h2 301 5 = nI 0 ∧ am_I h2 301 7 = nI nc := by
  obtain ⟨h1, r1, Fr, X, e5, e4, e8, e9⟩ := x_begin (d := d) S T hcc h7 (so := 0)
  have S1 := X.1
  have X2 := PX_R (x := some (321 + 7 * s)) X
  have S2 := X2.1
  have O : am_ob (am_setR h1 301 6 (some (321 + 7 * s))) (321 + 7 * s) 9 := by
    rcases (show s = 0 ∨ s = 1 ∨ s = 2 ∨ s = 3 by omega) with rfl | rfl | rfl | rfl <;> exact am_S_ob S2 (by decide +kernel)
  have e1 : am_I (am_setR h1 301 6 (some (321 + 7 * s))) (321 + 7 * s) 1 = nI nc := by
    rw [hI_R, fr_rdI Fr (by unfold rX; omega), hI_R]; exact hnc
  have Fr3 : am_fr (fun a => a = 301) (am_setR h1 301 6 (some (321 + 7 * s))) (am_setI (am_setR h1 301 6 (some (321 + 7 * s))) 301 7 (nI nc)) := fr_I fr_refl rfl
  refine ⟨am_setI (am_setR h1 301 6 (some (321 + 7 * s))) 301 7 (nI nc), fun Q => ?_, fr_trans (fr_setR Fr) (fr_mono (fun a e => by unfold rX; omega) Fr3), PX_fr301 Fr3 X2 ?_ ?_ ?_, ?_, ?_⟩
  · simp (disch := first | with_reducible assumption | omega | exact Or.inl rfl | exact Or.inr rfl | exact bI_01 | exact c_cat | exact vt_ref | exact vt_null | rfl | with_reducible repeat (first | assumption | omega | apply S_I | apply S_L | apply S_D | apply ob_I | apply ob_L | apply ob_D | apply ob_R | apply ax_I | apply ax_L | apply ax_D | apply ax_R | apply o303 | apply o307 | apply o302 | apply o301 | apply ax304 | apply ax305 | apply ax306 | apply ax308 | apply ax309 | apply ax310 | apply lt_S | apply ar305 | apply ar308 | apply ar309)) only [g75_0, g75_1, g75_2, g75_3, g75_6, g75_7, g75_8, g75_8r, g75_8n, g75_11, g75_12, g75_13, g75_16, g75_8r, Option.toList, List.nil_append, List.cons_append, va_rf, r1 _, e1]
  · rw [rI_k (by decide)]; exact X2.2.2.2.2.2.2.2.2.1
  · rw [rI_k (by decide)]; exact X2.2.2.2.2.2.2.2.2.2.1
  · rw [rI_k (by decide)]; exact X2.2.2.2.2.2.2.2.2.2.2
  · rw [rI_k (by decide)]; exact e5
  · simp only [hI_I, hI_L, hI_D, hI_R, hL_I, hL_L, hL_D, hL_R, hD_I, hD_L, hD_D, hD_R, hR_I, hR_L, hR_D, ↓reduceIte, Nat.reduceEqDiff]
end FBG

/-! BOTH PARSERS: a name, a word, or a call -/
theorem wd_text {t : Nat → Nat} {n q : Nat} (hK : lx_K t n q = 258) (hw : lx_wd t n q < 12) : tx t q (lx_E t n q - q) = wdN (lx_wd t n q) := by
  obtain ⟨a1, a2, a3, a4, a5⟩ := lx_name hK
  generalize ew : lx_wd t n q = w at *
  obtain ⟨w1, w2, w3⟩ := wl_1 w hw
  have w4 := wl_2 w hw
  have e0 : am_wdl.getD w 0 = lN (lx_w 256 0 t q (lx_E t n q - q)) := by
    have := fdI_at (f := fun i => am_wdl.getD i 0) (x := lN (lx_w 256 0 t q (lx_E t n q - q))) (n := 12) (by show lx_wd t n q < 12; omega)
    rw [show fdI (fun i => am_wdl.getD i 0) (lN (lx_w 256 0 t q (lx_E t n q - q))) 12 = w from ew] at this
    exact this
  have p1 : ∀ k, k ≤ 8 → 256 ^ k ≤ 2 ^ 64 := by decide
  have hl : ∀ i, i < lx_E t n q - q → isL (t (q + i)) = true := fun i hi => a5 _ (by omega) (by omega)
  have b1 := lx_w_lt (B := 256) (o := 0) (t := t) (q := q) (by decide) (lx_E t n q - q) (fun i hi => by have := isL_of (hl i hi); omega)
  have hw' : ∀ i, i < wl w → 97 ≤ txN (6 * w + (0 + i)) ∧ txN (6 * w + (0 + i)) ≤ 122 := fun i hi => by rw [Nat.zero_add]; exact isL_of ((w4 i (by omega)).1 hi)
  have b2 := lx_w_lt (B := 256) (o := 0) (t := fun j => txN (6 * w + j)) (q := 0) (by decide) (wl w) (fun i hi => by have := hw' i hi; omega)
  rw [w3, lN_inj64 (Nat.lt_of_lt_of_le b2 (p1 _ (by omega))) (Nat.lt_of_lt_of_le b1 (p1 _ a4))] at e0
  obtain ⟨e1, e2⟩ := lx_inj (by decide) (wl w) (lx_E t n q - q) (fun i hi => by have := hw' i hi; omega) (fun i hi => by have := isL_of (hl i hi); omega) e0
  unfold tx wdN
  rw [← e1]
  refine List.map_congr_left (fun i hi => ?_)
  have := e2 i (List.mem_range.mp hi)
  rw [Nat.zero_add] at this
  omega
/-- a name that is found, and how it is printed -/
theorem nmF_some {so na vis : Nat} {agM cnM : Nat → Int64} {y : Int64} (h1 : na ≤ 3) (h2 : vis ≤ 5) (h : nmF so na vis agM cnM y ≠ -1) : ∃ g, g < knO so na vis % 1000 ∧ nmF so na vis agM cnM y = nI g ∧ pNm so agM cnM g = ltM y := by
  unfold nmF at h ⊢
  unfold pNm xI at *
  unfold knO
  by_cases c : so = 2
  · simp only [c, ↓reduceIte] at h ⊢
    by_cases c2 : fdI agM y na < na
    · rw [if_pos c2]; exact ⟨_, by omega, rfl, by rw [fdI_at c2]⟩
    · rw [if_neg c2] at h; exact absurd rfl h
  · simp only [c, ↓reduceIte] at h ⊢
    by_cases c2 : fdI cnM y vis < vis
    · rw [if_pos c2]
      refine ⟨_, ?_, rfl, by rw [fdI_at c2]⟩
      split <;> omega
    · rw [if_neg c2] at h; exact absurd rfl h
/-- behind the token -/
def phN (t : Nat → Nat) (n : Nat) (hm : am_H) (q : Nat) (C : List (Int32 × Int64)) (P : List Int32) (N : List Nat) (F : Int32) (k m : Nat) : phT := fun hm' q' C' P' N' F' k' m' W => lx_E t n q ≤ q' ∧ C' = C ++ [ST] ∧ P' = P ++ (tx t q (lx_E t n q - q)).map nI ∧ N' = N ∧ F' = F ∧ k' = k + 1 ∧ m' = m ∧ W = none
section NOC
variable {so s vis on na nc nf : Nat} {oX oM : Int64} {agX agM cnX cnM fnX fnM : Nat → Int64} {fnA : Nat → Nat} {t : Nat → Nat} {n : Nat} {D f : Nat} {d e : Nat}
variable {hx1 hm1 : am_H} {o : Nat} {ltx ltm : Option (Nat × Nat)} {v1 v2 v3 v4 v5 v6 v7 : Option Value}
variable {hx hm : am_H} {q q2 k m : Nat} {C C2 : List (Int32 × Int64)} {P P2 : List Int32} {N : List Nat} {F : Int32}
/-- up to the token behind the name: the class, and the two ways of the model -/
theorem st_noc (hK : lx_K t n q = 258) (J : JS t n so s vis on na nc nf oX oM agX agM cnX cnM fnX fnM fnA hx hm q C P N F k o m ltx ltm) : ∃ hx1 hm1, (∀ Q, am_J (e + 13) 89 0 [some (.ref 301), none, none, none, none] [] hx Q ↔ am_J (e + 13) 89 38 [some (.ref 301), some (.long (lN (lx_w 256 0 t q (lx_E t n q - q)))), none, some (.int (nI q)), some (.int (xI 12 (lx_wd t n q)))] [] hx1 Q) ∧ (∀ Q, am_J (e + 11) 219 0 [some (.ref 349), none, none, none, none, none, none, none, none, none] [] hm Q ↔ am_J (e + 11) 219 22 [some (.ref 349), some (.long (lN (lx_w 32 96 t q (lx_E t n q - q)))), none, some (.int (nI q)), none, none, none, none, none, none] [] hm1 Q) ∧ (∀ w Q, am_J (e + 11) 221 0 [some (.ref 349), some (.int (nI w)), none, none, none, none, none, none] [] hm Q ↔ am_J (e + 11) 221 12 [some (.ref 349), some (.int (nI w)), none, none, none, none, none, none] [] hm1 Q) ∧ SX t n o ltx ltm hx hm m (phN t n hm q C P N F k m) hx1 hm1 := by
  obtain ⟨⟨lnx, lpx, X, LX0⟩, ⟨lnm, lpm, Y, LM0⟩, Gv, KX, KM, KR, hC, hP, hmk, hk, ho, hq, hn⟩ := J
  have S := X.1
  have SM := Y.1
  obtain ⟨a1, a2, a3, a4, a5⟩ := lx_name hK
  obtain ⟨⟨l1, l2, l3, l4, l5⟩, lk, lq, f8, f9, cc, hcc, f7⟩ := X.2.2.1
  obtain ⟨⟨m1', m2', m3', m4'⟩, mk, mq, f22, f4⟩ := Y.2.2.2.1
  have l4' := l4 hK
  have w0 : ∀ Q, am_J (e + 12) 90 0 [some (.long (lN (lx_w 256 0 t q (lx_E t n q - q)))), none, none] [] hx Q ↔ Q (some (.int (xI 12 (lx_wd t n q)))) hx := fun Q => by
    rw [x_wordOf S Gv]; rfl
  have nh := fun Q => m_nameHere (d := e + 10) (Q := Q) (v1 := none) (v2 := none) (v3 := none) Y (fun j h1 h2 => (isL_of (a5 j h1 h2)).1) (Nat.le_of_lt a2)
  obtain ⟨h1, r1, X1, G1⟩ := x_tellStep (d := e + 10) X
  have S1 := X1.1
  obtain ⟨m1, p1, Y1, H1⟩ := m_part (d := e + 9) Y (p := nI q) (fun q' e => by cases e; rfl)
  have T1 := Y1.1
  obtain ⟨m2, p2, Y2, H2⟩ := m_nx (d := e + 7) (v1 := none) Y1
  by_cases ck : k < 40
  · rw [xpart_good ck] at X1
    rw [mpart_good ck, nI_add] at Y1 Y2
    have l1' : am_I h1 302 1 = nI (lx_E t n q) := X1.2.2.1.1.1
    obtain ⟨h2, r2, X2, G2⟩ := x_copy (d := e + 11) (e := lx_E t n q) (a := q) (by omega) (by omega) X1 l1'
    have S2 := X2.1
    obtain ⟨h3, r3, X3, G3⟩ := x_adv (d := e + 10) (v1 := none) X2
    rw [xcop_eq _ _ _ (by omega) (by omega) (fun i hi => by have := isL_of (a5 (q + i) (by omega) (by omega)); omega), xadd_eq (by omega)] at X3
    refine ⟨h3, m2, fun Q => ?_, fun Q => ?_, fun w Q => ?_, XF_trans G1 (XF_trans (XF_303 G2) G3), MF_trans H1 H2 (Nat.le_refl _), ?_⟩
    · simp (disch := first | with_reducible assumption | omega | exact Or.inl rfl | exact Or.inr rfl | exact bI_01 | exact c_cat | exact vt_ref | exact vt_null | rfl | with_reducible repeat (first | assumption | omega | apply S_I | apply S_L | apply S_D | apply ob_I | apply ob_L | apply ob_D | apply ob_R | apply ax_I | apply ax_L | apply ax_D | apply ax_R | apply o303 | apply o307 | apply o302 | apply o301 | apply ax304 | apply ax305 | apply ax306 | apply ax308 | apply ax309 | apply ax310 | apply lt_S | apply ar305 | apply ar308 | apply ar309)) only [g89_0, g89_1, g89_4, g89_7, g89_8, g89_9, g89_12, g89_15, g89_16, g89_17, g89_20, g89_22, g89_23, g89_26, g89_27, g89_28, g89_31, g89_32, g89_35, Option.toList, List.nil_append, List.cons_append, va_rf, l4', l3, w0 _, r1 _, r2 _, r3 _]
    · simp (disch := first | with_reducible assumption | omega | exact Or.inl rfl | exact Or.inr rfl | exact bI_01 | exact c_cat | exact vt_ref | exact vt_null | rfl | with_reducible repeat (first | assumption | omega | apply S_I | apply S_L | apply S_D | apply ob_I | apply ob_L | apply ob_D | apply ob_R | apply ax_I | apply ax_L | apply ax_D | apply ax_R | apply o303 | apply o307 | apply o302 | apply o301 | apply ax304 | apply ax305 | apply ax306 | apply ax308 | apply ax309 | apply ax310 | apply lt_S | apply ar305 | apply ar308 | apply ar309)) only [g219_0, g219_1, g219_4, g219_5, g219_6, g219_9, g219_10, g219_11, g219_12, g219_15, g219_18, g219_19, Option.toList, List.nil_append, List.cons_append, va_rf, m3', nh _, p1 _, p2 _]
    · simp (disch := first | with_reducible assumption | omega | exact Or.inl rfl | exact Or.inr rfl | exact bI_01 | exact c_cat | exact vt_ref | exact vt_null | rfl | with_reducible repeat (first | assumption | omega | apply S_I | apply S_L | apply S_D | apply ob_I | apply ob_L | apply ob_D | apply ob_R | apply ax_I | apply ax_L | apply ax_D | apply ax_R | apply o303 | apply o307 | apply o302 | apply o301 | apply ax304 | apply ax305 | apply ax306 | apply ax308 | apply ax309 | apply ax310 | apply lt_S | apply ar305 | apply ar308 | apply ar309)) only [g221_0, g221_1, g221_2, g221_5, g221_8, g221_9, Option.toList, List.nil_append, List.cons_append, va_rf, m3', p1 _, p2 _]
    · match hA : mdA t n (.inl q) with
      | .inr y =>
        rw [hA] at X3 Y2
        exact Or.inl ⟨y, BX_of X3, BM_of Y2 (Nat.le_refl _)⟩
      | .inl q' =>
        rw [hA] at X3 Y2
        obtain ⟨g1, g2, g3⟩ := mdA_gt a1 hA
        exact Or.inr ⟨q', _, _, N, F, k + 1, m, none, lnx, lpx, lnm, lpm, X3, LX0, Y2, LM0, by omega, by omega, Nat.le_refl _, g1, rfl, rfl, rfl, rfl, rfl, rfl, rfl⟩
  · obtain rfl : k = 40 := by omega
    rw [xpart_bad] at X1
    rw [mpart_bad] at Y1 Y2
    have B1 := BX_of X1
    obtain ⟨h2, r2, B2, G2⟩ := bx_copy (d := e + 11) B1 (a := q) (by omega)
    have S2 := bx_S B2
    obtain ⟨h3, r3, B3, G3⟩ := bx_adv (d := e + 10) (v1 := none) B2
    refine ⟨h3, m2, fun Q => ?_, fun Q => ?_, fun w Q => ?_, XF_trans G1 (XF_trans G2 G3), MF_trans H1 H2 (Nat.le_refl _), Or.inl ⟨(3, q), B3, BM_of Y2 (Nat.le_refl _)⟩⟩
    · simp (disch := first | with_reducible assumption | omega | exact Or.inl rfl | exact Or.inr rfl | exact bI_01 | exact c_cat | exact vt_ref | exact vt_null | rfl | with_reducible repeat (first | assumption | omega | apply S_I | apply S_L | apply S_D | apply ob_I | apply ob_L | apply ob_D | apply ob_R | apply ax_I | apply ax_L | apply ax_D | apply ax_R | apply o303 | apply o307 | apply o302 | apply o301 | apply ax304 | apply ax305 | apply ax306 | apply ax308 | apply ax309 | apply ax310 | apply lt_S | apply ar305 | apply ar308 | apply ar309)) only [g89_0, g89_1, g89_4, g89_7, g89_8, g89_9, g89_12, g89_15, g89_16, g89_17, g89_20, g89_22, g89_23, g89_26, g89_27, g89_28, g89_31, g89_32, g89_35, Option.toList, List.nil_append, List.cons_append, va_rf, l4', l3, w0 _, r1 _, r2 _, r3 _]
    · simp (disch := first | with_reducible assumption | omega | exact Or.inl rfl | exact Or.inr rfl | exact bI_01 | exact c_cat | exact vt_ref | exact vt_null | rfl | with_reducible repeat (first | assumption | omega | apply S_I | apply S_L | apply S_D | apply ob_I | apply ob_L | apply ob_D | apply ob_R | apply ax_I | apply ax_L | apply ax_D | apply ax_R | apply o303 | apply o307 | apply o302 | apply o301 | apply ax304 | apply ax305 | apply ax306 | apply ax308 | apply ax309 | apply ax310 | apply lt_S | apply ar305 | apply ar308 | apply ar309)) only [g219_0, g219_1, g219_4, g219_5, g219_6, g219_9, g219_10, g219_11, g219_12, g219_15, g219_18, g219_19, Option.toList, List.nil_append, List.cons_append, va_rf, m3', nh _, p1 _, p2 _]
    · simp (disch := first | with_reducible assumption | omega | exact Or.inl rfl | exact Or.inr rfl | exact bI_01 | exact c_cat | exact vt_ref | exact vt_null | rfl | with_reducible repeat (first | assumption | omega | apply S_I | apply S_L | apply S_D | apply ob_I | apply ob_L | apply ob_D | apply ob_R | apply ax_I | apply ax_L | apply ax_D | apply ax_R | apply o303 | apply o307 | apply o302 | apply o301 | apply ax304 | apply ax305 | apply ax306 | apply ax308 | apply ax309 | apply ax310 | apply lt_S | apply ar305 | apply ar308 | apply ar309)) only [g221_0, g221_1, g221_2, g221_5, g221_8, g221_9, Option.toList, List.nil_append, List.cons_append, va_rf, m3', p1 _, p2 _]
/-- the bracket -/
theorem st_open {lnx lpx lnm lpm : Int32} {k' : Nat} (X : PX hx t n (.inl q) C P N F (nI k') (nI o) lnx lpx) (Y : MX hm t n (.inl q) (nI k') (nI o) m lnm lpm) (ho : o ≤ 10) (hK : lx_K t n q = 40) : ∃ hxa hxb hma hmb, am_run (e + 12) 82 [some (.ref 301)] hx none hxa ∧ am_run (e + 12) 93 [some (.ref 301), some (.int (nI 40))] hxa none hxb ∧ am_run (e + 10) 206 [some (.ref 349)] hm none hma ∧ am_run (e + 10) 193 [some (.ref 349), none] hma none hmb ∧ am_S hxa ∧ am_S hma ∧ XF hx hxb ∧ MF hm hmb m ∧ ((∃ y, BX hxb t n y ∧ BM hmb t n y m) ∨ (o < 10 ∧ ∃ q2, q < q2 ∧ PX hxb t n (.inl q2) C (xpad P (nI 40)) N F (nI k') (nI (o + 1)) lnx lpx ∧ MX hmb t n (.inl q2) (nI k') (nI (o + 1)) m lnm lpm)) := by
  obtain ⟨h1, r1, X1, G1⟩ := x_tellOpen (d := e + 11) X
  obtain ⟨h2, r2, X2, G2⟩ := x_pass (d := e + 9) X1 (c := 40) (by decide)
  obtain ⟨m1, p1, Y1, H1⟩ := m_opens (d := e + 9) Y
  obtain ⟨m2, p2, Y2, H2⟩ := m_nx (d := e + 7) (v1 := none) Y1
  refine ⟨h1, h2, m1, m2, r1, r2, p1, p2, X1.1, Y1.1, XF_trans G1 G2, MF_trans H1 H2 (Nat.le_refl _), ?_⟩
  by_cases co : o < 10
  · rw [xopen_good co, show mpass t n (.inl q) 40 = mdA t n (.inl q) from if_pos (show mdK t n (.inl q) = 40 from hK), if_pos (show mdK t n (.inl q) = 40 from hK)] at X2
    rw [mopen_good co, nI_add] at Y2
    match hA : mdA t n (.inl q) with
    | .inr y =>
      rw [hA] at X2 Y2
      exact Or.inl ⟨y, BX_of X2, BM_of Y2 (Nat.le_refl _)⟩
    | .inl q' =>
      rw [hA] at X2 Y2
      obtain ⟨g1, g2, g3⟩ := mdA_gt (lx_K_lt (show lx_K t n q ≠ 262 by omega)) hA
      exact Or.inr ⟨co, q', g2, X2, Y2⟩
  · obtain rfl : o = 10 := by omega
    rw [xopen_bad, show mpass t n (.inr (3, q)) 40 = .inr (3, q) from if_neg (show ¬ 263 = 40 by decide)] at X2
    rw [mopen_bad] at Y2
    exact Or.inl ⟨(3, q), BX_of X2, BM_of Y2 (Nat.le_refl _)⟩
end NOC

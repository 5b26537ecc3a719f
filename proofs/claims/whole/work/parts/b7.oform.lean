/-! THE OPERATION formula -/
/-- what the class's reading may touch; with a count; with a cell -/
def Px1 (a k : Nat) : Prop := rX a ∨ a = 5 ∨ (a = 4 ∧ k = 13)
def Px2 (a k : Nat) : Prop := rX a ∨ a = 5 ∨ (a = 4 ∧ (k = 13 ∨ k = 11))
def Px3 (c a k : Nat) : Prop := rX a ∨ a = 5 ∨ (a = 4 ∧ (k = 13 ∨ k = 11)) ∨ a = 22 + c
set_option maxRecDepth 8000 in
theorem roomB {a b c q : Nat} (h1 : a ≤ b + 1100) (h2 : b = c) (h3 : c ≤ 80000 + 1300 * q) : a ≤ 80000 + 1300 * (q + 1) := by omega
theorem roomA {a b c q : Nat} (h1 : a ≤ b + 8) (h2 : b = c) (h3 : c ≤ 402 + 9 * q) : a ≤ 402 + 9 * (q + 1) := by omega
section OFO
variable {q : Nat} {h : am_H} {x : Int32}
theorem x_endText {d : Nat} (S : am_S h) : am_run d 147 [some (.ref 4)] h none (am_setI (am_setI h 5 1 (nI 0)) 4 13 (am_I h 302 9)) := fun Q => by
  have O5 : am_ob h 5 10 := am_S_ob S (by decide +kernel)
  simp (disch := first | with_reducible assumption | omega | exact Or.inl rfl | exact Or.inr rfl | exact bI_01 | exact c_cat | exact vt_ref | exact vt_null | rfl | with_reducible repeat (first | assumption | omega | apply S_I | apply S_L | apply S_D | apply ob_I | apply ob_L | apply ob_D | apply ob_R | apply ax_I | apply ax_L | apply ax_D | apply ax_R | apply o303 | apply o307 | apply o302 | apply o301 | apply ax304 | apply ax305 | apply ax306 | apply ax308 | apply ax309 | apply ax310 | apply lt_S | apply ar305 | apply ar308 | apply ar309)) only [g147_0, g147_1, g147_4, g147_5, g147_8, g147_9, g147_10, g147_13, g147_16, g147_19, g147_22, Option.toList, List.nil_append, List.cons_append, va_rf, hI_I, hI_L, hI_D, hI_R, hL_I, hL_L, hL_D, hL_R, hD_I, hD_L, hD_D, hD_R, hR_I, hR_L, hR_D, ↓reduceIte, Nat.reduceEqDiff]
theorem o_formula (I : Inv q h) : ∃ r h1 h2, am_run 104 146 [some (.ref 4), some (.int x), none, none] h (some (.int r)) h1 ∧ am_run 104 191 [some (.ref 349), some (.int x), none] h1 (some (.int r)) h2 ∧ Inv (q + 1) h2 := by
  have upM : ∀ g : am_H, iM q g → iM (q + 1) g := fun g M => ⟨by have := M.1; omega, by have := M.2; omega⟩
  have up : ∀ g, Inv q g → Inv (q + 1) g := fun g J => by
    obtain ⟨a1, a2, a3, a4, a5, a6, a7⟩ := Inv_iff.mp J
    exact Inv_iff.mpr ⟨a1, a2, a3, a4, a5, upM g a6, iK_up a7⟩
  by_cases hx : isCl x
  · obtain ⟨c, hc, rfl⟩ := hx
    obtain ⟨S, G, ⟨t, n, T, hm2, TM⟩, -, ⟨-, cc, hcc, h7⟩, -, -, -, M, nf, fe, fX, fM, fA, nc, ce, cX, cM, cd, lab, GG⟩ := id I
    obtain ⟨g1, g2, g3, g4, g5⟩ := id GG
    have hs : c / 64 < 4 := by omega
    have h4 := S.1
    obtain ⟨ft, hx', r1, XR, e9, ⟨cc', hcc', c7⟩, z7, MR⟩ := rd_formula S G T hm2 TM hcc h7 hs g1 (g2 (c / 64) hs)
    obtain ⟨KX, SX', GX', zx1, zx2⟩ := XR
    have Fe : am_fr (fun a => a = 5 ∨ a = 4) hx' (am_setI (am_setI hx' 5 1 (nI 0)) 4 13 (am_I hx' 302 9)) := fr_I (fr_I fr_refl (Or.inl rfl)) (Or.inr rfl)
    have re := x_endText (d := 103) SX'
    have SE := fr_S Fe SX'
    have GE := Gv_fr Fe (by omega) (by omega) (by omega) GX'
    have KE : kp Px1 h (am_setI (am_setI hx' 5 1 (nI 0)) 4 13 (am_I hx' 302 9)) := kp_I (kp_I (kp_mono (fun a k q => Or.inl q) KX) (Or.inr (Or.inl rfl))) (Or.inr (Or.inr ⟨rfl, rfl⟩))
    have E5 : am_I (am_setI (am_setI hx' 5 1 (nI 0)) 4 13 (am_I hx' 302 9)) 5 1 = nI 0 := by simp only [hI_I, hI_L, hI_D, hI_R, hL_I, hL_L, hL_D, hL_R, hD_I, hD_L, hD_D, hD_R, hR_I, hR_L, hR_D, ↓reduceIte, Nat.reduceEqDiff]
    have E4 : am_I (am_setI (am_setI hx' 5 1 (nI 0)) 4 13 (am_I hx' 302 9)) 4 13 = fpI ft := by rw [rI_eq]; exact e9
    have E3 : am_I (am_setI (am_setI hx' 5 1 (nI 0)) 4 13 (am_I hx' 302 9)) 302 7 = nI cc' := by rw [fr_rdI Fe (by omega)]; exact c7
    have ZE1 : (am_setI (am_setI hx' 5 1 (nI 0)) 4 13 (am_I hx' 302 9)).1 = h.1 := zx1
    have ZE2 : (am_setI (am_setI hx' 5 1 (nI 0)) 4 13 (am_I hx' 302 9)).2.1 = h.2.1 := zx2
    have PE : ∀ D P N F k, PXd hx' D P N F k → PXd (am_setI (am_setI hx' 5 1 (nI 0)) 4 13 (am_I hx' 302 9)) D P N F k := by
      intro D P N F k ⟨⟨c1, c2, c3⟩, ⟨p1, p2, p3⟩, ⟨n1, n2, n3, n4, n5⟩, e8, e7⟩
      have R := fun a k (ha : 303 ≤ a) => fr_rdI Fe (b := a) (j := k) (by omega)
      exact ⟨⟨(R 303 5 (by decide)).trans c1, c2, fun i x hx => ⟨(R 305 i (by decide)).trans (c3 i x hx).1, (c3 i x hx).2⟩⟩, ⟨(R 307 1 (by decide)).trans p1, p2, fun i x hx => ⟨(R 308 i (by decide)).trans (p3 i x hx).1, (p3 i x hx).2⟩⟩, ⟨(R 303 6 (by decide)).trans n1, fun i c hc => (R 309 i (by decide)).trans (n2 i c hc), n3, n4, n5⟩, (R 303 8 (by decide)).trans e8, (R 303 7 (by decide)).trans e7⟩
    have run1 : ∀ Q, am_J 104 146 0 [some (.ref 4), some (.int (nI c)), none, none] [] h Q ↔ am_J 104 146 34 [some (.ref 4), some (.int (nI c)), some (.int (foI ft)), none] [] (am_setI (am_setI hx' 5 1 (nI 0)) 4 13 (am_I hx' 302 9)) Q := fun Q => by
      simp (disch := first | with_reducible assumption | omega | exact Or.inl rfl | exact Or.inr rfl | exact bI_01 | exact c_cat | exact vt_ref | exact vt_null | rfl | with_reducible repeat (first | assumption | omega | apply S_I | apply S_L | apply S_D | apply ob_I | apply ob_L | apply ob_D | apply ob_R | apply ax_I | apply ax_L | apply ax_D | apply ax_R | apply o303 | apply o307 | apply o302 | apply o301 | apply ax304 | apply ax305 | apply ax306 | apply ax308 | apply ax309 | apply ax310 | apply lt_S | apply ar305 | apply ar308 | apply ar309)) only [g146_0, g146_1, g146_4, g146_7, g146_8, g146_9, g146_10, g146_13, g146_14, g146_17, g146_18, g146_21, g146_22, g146_24, g146_25, g146_26, g146_29, g146_30, g146_31, Option.toList, List.nil_append, List.cons_append, va_rf, x_noCellN hc, bit_shr6 c hc, nI_ltI, nI_leI, nI_eq, nI_add, nI_sub, nI_lt0, nI_e0, nI_m1, m1_nI, Nat.reduceEqDiff, Nat.reduceLT, Nat.reduceLeDiff, Nat.reduceAdd, Nat.reduceSub, Nat.reduceMul, ↓reduceIte, eq_self, r1 _, re _]
    generalize am_setI (am_setI hx' 5 1 (nI 0)) 4 13 (am_I hx' 302 9) = hE at SE GE KE E5 E4 E3 ZE1 ZE2 PE run1
    have mrun : ∀ g, am_S g → am_I g 369 c = am_I g 369 c → ∀ Q, am_J 104 191 0 [some (.ref 349), some (.int (nI c)), none] [] g Q ↔ am_J 103 192 0 [some (.ref 349), none] [] (am_setI (am_setI g 349 28 (nI 0)) 349 29 (nI (c / 64))) (fun r h' => am_J 104 191 26 [some (.ref 349), some (.int (nI c)), none] (r.toList ++ []) h' Q) := fun g Sg _ Q => by
      have n64 : ¬ nI 64 = 0 := by decide
      simp (disch := first | with_reducible assumption | omega | exact Or.inl rfl | exact Or.inr rfl | exact bI_01 | exact c_cat | exact vt_ref | exact vt_null | rfl | with_reducible repeat (first | assumption | omega | apply S_I | apply S_L | apply S_D | apply ob_I | apply ob_L | apply ob_D | apply ob_R | apply ax_I | apply ax_L | apply ax_D | apply ax_R | apply o303 | apply o307 | apply o302 | apply o301 | apply ax304 | apply ax305 | apply ax306 | apply ax308 | apply ax309 | apply ax310 | apply lt_S | apply ar305 | apply ar308 | apply ar309)) only [g191_0, g191_1, g191_4, g191_7, g191_8, g191_9, g191_10, g191_11, g191_14, g191_15, g191_16, g191_18, g191_19, g191_22, g191_23, Option.toList, List.nil_append, List.cons_append, va_rf, m_isCell1 hc, nI_ltI, nI_leI, nI_eq, nI_add, nI_sub, nI_lt0, nI_e0, nI_m1, m1_nI, Nat.reduceEqDiff, Nat.reduceLT, Nat.reduceLeDiff, Nat.reduceAdd, Nat.reduceSub, Nat.reduceMul, ↓reduceIte, eq_self, nI_div]
    match hft : ft with
    | some z =>
      obtain ⟨hm', r2, MD, -⟩ := MR (am_setI (am_setI hE 349 28 (nI 0)) 349 29 (nI (c / 64))) (agM2_kp S KE (fun a k h1 h2 => by unfold Px1 rX; omega) SE GE) (by rw [rI_k (by decide), rI_eq]) rI_eq
      obtain ⟨Km, Sm, Gm, zm1, zm2, m2, m22, m4⟩ := MD
      obtain ⟨zn0, zn1⟩ := z7 z rfl
      have fz : ¬ z.1 = 0 := zn0
      have KK : kp Prd h hm' := kp_trans (kp_mono (fun a k q => by unfold Px1 rX at q; unfold Prd rX; omega) KE) (kp_trans (kp_I (kp_I kp_refl (by unfold Prd pmt; omega)) (by unfold Prd pmt; omega)) (kp_mono (fun a k q => Or.inr (Or.inr (Or.inr q))) Km))
      have kE := fun a k (ha : a < 402) (hp : ¬ pmt a k) => (Km.2.2 a k (show a < hE.1 by omega) hp).1
      refine ⟨-100 - nI z.1, hE, hm', fun Q => ?_, fun Q => ?_, up _ (Inv_read I KK Sm Gm ⟨?_, ?_⟩ ?_ m2 ⟨?_, cc', hcc', ?_⟩)⟩
      · rw [run1]
        have fe' : foI (some z) = nI z.1 := rfl
        simp (disch := first | with_reducible assumption | omega | exact Or.inl rfl | exact Or.inr rfl | exact bI_01 | exact c_cat | exact vt_ref | exact vt_null | rfl | with_reducible repeat (first | assumption | omega | apply S_I | apply S_L | apply S_D | apply ob_I | apply ob_L | apply ob_D | apply ob_R | apply ax_I | apply ax_L | apply ax_D | apply ax_R | apply o303 | apply o307 | apply o302 | apply o301 | apply ax304 | apply ax305 | apply ax306 | apply ax308 | apply ax309 | apply ax310 | apply lt_S | apply ar305 | apply ar308 | apply ar309)) only [g146_34, g146_35, g146_38, g146_40, g146_41, g146_42, fe', nI_ltI, nI_leI, nI_eq, nI_add, nI_sub, nI_lt0, nI_e0, nI_m1, m1_nI, Nat.reduceEqDiff, Nat.reduceLT, Nat.reduceLeDiff, Nat.reduceAdd, Nat.reduceSub, Nat.reduceMul, ↓reduceIte, eq_self, fz]
      · rw [mrun hE SE rfl, r2]
        have fe' : foI (some z) = nI z.1 := rfl
        rw [fe'] at m22 ⊢
        simp (disch := first | with_reducible assumption | omega | exact Or.inl rfl | exact Or.inr rfl | exact bI_01 | exact c_cat | exact vt_ref | exact vt_null | rfl | with_reducible repeat (first | assumption | omega | apply S_I | apply S_L | apply S_D | apply ob_I | apply ob_L | apply ob_D | apply ob_R | apply ax_I | apply ax_L | apply ax_D | apply ax_R | apply o303 | apply o307 | apply o302 | apply o301 | apply ax304 | apply ax305 | apply ax306 | apply ax308 | apply ax309 | apply ax310 | apply lt_S | apply ar305 | apply ar308 | apply ar309)) only [g191_26, g191_29, g191_31, g191_32, g191_35, g191_36, Option.toList, List.nil_append, List.cons_append, va_rf, nI_ltI, nI_leI, nI_eq, nI_add, nI_sub, nI_lt0, nI_e0, nI_m1, m1_nI, Nat.reduceEqDiff, Nat.reduceLT, Nat.reduceLeDiff, Nat.reduceAdd, Nat.reduceSub, Nat.reduceMul, ↓reduceIte, eq_self, fz, m22]
      · rw [zm1]; show hE.1 ≤ _; rw [ZE1]; exact M.1
      · rw [zm2]; show hE.2.1 ≤ _; rw [ZE2]; exact M.2
      · rw [kE 5 1 (by decide) (by unfold pmt; omega)]; simp only [hI_I, hI_L, hI_D, hI_R, hL_I, hL_L, hL_D, hL_R, hD_I, hD_L, hD_D, hD_R, hR_I, hR_L, hR_D, ↓reduceIte, Nat.reduceEqDiff]; exact E5
      · rw [kE 4 13 (by decide) (by unfold pmt; omega), m4]; simp only [hI_I, hI_L, hI_D, hI_R, hL_I, hL_L, hL_D, hL_R, hD_I, hD_L, hD_D, hD_R, hR_I, hR_L, hR_D, ↓reduceIte, Nat.reduceEqDiff]; exact E4
      · rw [kE 302 7 (by decide) (by unfold pmt; omega)]; simp only [hI_I, hI_L, hI_D, hI_R, hL_I, hL_L, hL_D, hL_R, hD_I, hD_L, hD_D, hD_R, hR_I, hR_L, hR_D, ↓reduceIte, Nat.reduceEqDiff]; exact E3
    | none =>
      have f0 : foI none = nI 0 := rfl
      rw [f0] at run1
      obtain ⟨hm0, rm0, md0, RD0⟩ := MR (am_setI (am_setI hE 349 28 (nI 0)) 349 29 (nI (c / 64))) (agM2_kp S KE (fun a k h1 h2 => by unfold Px1 rX; omega) SE GE) (by rw [rI_k (by decide), rI_eq]) rI_eq
      obtain ⟨D, E, L, GL, k, m, r, b1, b2, b3, -, PXD, -, -, -⟩ := RD0 rfl
      have rE := fun a j (ha : a < 402) (hp : ¬ Px1 a j) => KE.2.2 a j (by omega) hp
      have OE := o22 SE hc
      have c3E : am_R hE (22 + c) 3 = am_R h (22 + c) 3 := (rE (22 + c) 3 (by omega) (by unfold Px1 rX; omega)).2.2.2
      have c8E : am_R hE (22 + c) 8 = am_R h (22 + c) 8 := (rE (22 + c) 8 (by omega) (by unfold Px1 rX; omega)).2.2.2
      have n11E : am_I hE 4 11 = am_I h 4 11 := (rE 4 11 (by omega) (by unfold Px1 rX; omega)).1
      obtain ⟨st, -, -, -, -, -, -, -, -, j9, j10⟩ := g3 c hc
      obtain ⟨s1', s2, s3, s4, s5, s6⟩ := id g4
      -- the common end
      have fin : ∀ (hF : am_H) (e1 : Option (Nat × Nat)) (s0 : Nat), cd c = e1 → am_S hF → am_Gv hF → PXd hF D (E.map nI) (L.foldl nadd []) (GL.foldl gF (nI 0)) (nI k) → kp Px2 h hF → hF.1 = h.1 → hF.2.1 = h.2.1 → am_R hF (22 + c) 8 = am_R h (22 + c) 8 → am_I hF 5 1 = nI 0 → am_I hF 4 13 = fpI none → am_I hF 302 7 = nI cc' → (∀ Q, am_J 104 146 0 [some (.ref 4), some (.int (nI c)), none, none] [] h Q ↔ am_J 104 146 79 [some (.ref 4), some (.int (nI c)), some (.int (nI 0)), some (.ref (22 + c))] [] hF Q) → s0 < 48 → ((∃ e1, cd c = some (e1, s0)) ∨ (cd c = none ∧ am_I h 374 s0 = nI 0)) → am_I hF 4 11 = nI (cntF (cdU cd c (some (h.1, s0))) 256) → cntF (cdU cd c (some (h.1, s0))) 256 ≤ 48 → (∀ hm', am_S hm' → am_I hm' 369 c = am_I h 369 c → am_I hm' 349 49 = am_I h 349 49 → (∀ s, s < 48 → am_I hm' 374 s = am_I h 374 s) → ∃ hm2 v2, (∀ Q, am_J 104 191 26 [some (.ref 349), some (.int (nI c)), none] [.int (nI 0)] hm' Q ↔ am_J 104 191 110 [some (.ref 349), some (.int (nI c)), v2] [] hm2 Q) ∧ am_fr (fun a => a = 349 ∨ a = 369 ∨ a = 374) hm' hm2 ∧ kp (fun a k => (a = 374 ∧ k = s0) ∨ (a = 369 ∧ k = c) ∨ (a = 349 ∧ k = 49)) hm' hm2 ∧ am_I hm2 369 c = nI s0 ∧ am_I hm2 374 s0 = nI 1 ∧ am_I hm2 349 49 = nI (cntF (cdU cd c (some (h.1, s0))) 256)) → ∃ r h1 h2, am_run 104 146 [some (.ref 4), some (.int (nI c)), none, none] h (some (.int r)) h1 ∧ am_run 104 191 [some (.ref 349), some (.int (nI c)), none] h1 (some (.int r)) h2 ∧ Inv (q + 1) h2 := by
        intro hF e1 s0 _ SF GF XF' KF zF1 zF2 c8F F5 F4 F3 runF hs0 hsl nF nF48 mid
        obtain ⟨h1, rk, Kk, Sk, Gk, COk, w3, w8, w9, w0, w7, w10, wz1, wz2⟩ := x_fkeep SF GF hc XF'
        have K1 : kp (Px3 c) h h1 := kp_trans (kp_mono (fun a k q => by unfold Px2 at q; unfold Px3; rcases q with q | q | q; exact Or.inl q; exact Or.inr (Or.inl q); exact Or.inr (Or.inr (Or.inl q))) KF) (kp_mono (fun a k q => Or.inr (Or.inr (Or.inr q))) Kk)
        obtain ⟨hm', r2, MD, RD1⟩ := MR (am_setI (am_setI h1 349 28 (nI 0)) 349 29 (nI (c / 64))) (agM2_kp S K1 (fun a k h1 h2 => by unfold Px3 rX; omega) Sk Gk) (by rw [rI_k (by decide), rI_eq]) rI_eq
        obtain ⟨Km, Sm, Gm, zm1, zm2, m2, m22, m4⟩ := MD
        have hm1' : hm'.1 = h1.1 := zm1
        have h1h : h.1 ≤ h1.1 := by have := Kk.1; omega
        have rA := fun a j (ha : a < h.1) (h1' : ¬ Px3 c a j) (h2' : ¬ pmt a j) => (show am_I hm' a j = am_I h a j from ((Km.2.2 a j (show a < h1.1 by omega) h2').1.trans (by
          by_cases e : a = 349
          · subst e
            rw [rI_k (by intro q; subst q; exact h2' (by unfold pmt; omega)), rI_k (by intro q; subst q; exact h2' (by unfold pmt; omega))]
            exact (K1.2.2 349 j ha h1').1
          · rw [rI_a e, rI_a e]
            exact (K1.2.2 a j ha h1').1)))
        have rB := fun a j (ha : a < h1.1) (hne : a ≠ 349) (h2' : ¬ pmt a j) => (show am_I hm' a j = am_I h1 a j from (Km.2.2 a j ha h2').1.trans (by rw [rI_a hne, rI_a hne]))
        have rC := fun a j (ha : a < h1.1) (h2' : ¬ pmt a j) => (show am_R hm' a j = am_R h1 a j from (Km.2.2 a j ha h2').2.2.2)
        obtain ⟨hm2, v2, runM, Fm2, Km2, y1, y2, y3⟩ := mid hm' Sm (rA 369 c (by omega) (by unfold Px3 rX; omega) (by unfold pmt; omega)) (rA 349 49 (by omega) (by unfold Px3 rX; omega) (by unfold pmt; omega)) (fun s hs => rA 374 s (by omega) (by unfold Px3 rX; omega) (by unfold pmt; omega))
        obtain ⟨D', E', L', G', k', m', r', d1, d2, d3, ⟨d4, d5⟩, PX', d6, d7, d8⟩ := RD1 rfl
        obtain ⟨q1, q2, q3, q4, q5⟩ := PXd_inj PXD PX'
        have q5' : k = k' := (nI_eq (by omega) (by omega)).mp q5
        have Sm2 := fr_S Fm2 Sm
        have e25 : am_I hm2 349 25 = nI k := by rw [(Km2.2.2 349 25 (am_S_lt Sm (by decide)) (by omega)).1, d6, q5']
        have e27 : am_I hm2 349 27 = nI m' := by rw [(Km2.2.2 349 27 (am_S_lt Sm (by decide)) (by omega)).1, d7]
        obtain ⟨gc, C, runE⟩ := m_fkeep (d := 103) (v2 := v2) Sm2 hc y1 hs0 e27 (by omega) e25
        have Sgc := fr_S C.1 Sm2
        have Fz : am_fr (fun a => a = 365 ∨ a = 373 ∨ a = 375 ∨ a = 376) gc (am_setI (am_setI (am_setI (am_setI gc 365 c (nI 6)) 373 c (nI 0)) 375 c (nI 1)) 376 c (nI 1)) := fr_I (fr_I (fr_I (fr_I fr_refl (by omega)) (by omega)) (by omega)) (by omega)
        have Kc : kp (Pfo c s0) hm2 gc := ⟨by rw [C.1.1]; exact Nat.le_refl _, fun a _ => fr_tg C.1, fun a j _ hp => by
          by_cases e : (352 ≤ a ∧ a ≤ 357) ∨ a = 364
          · unfold Pfo at hp
            have nR := fr_rdR C.1 (b := a) (j := j)
            by_cases e2 : a = 356
            · subst e2
              exact ⟨C.2.2.2.2.1 j (by omega), fun _ => (C.2.2.2.2.2.2.2 j).1, fun _ q => absurd q (by omega), nR⟩
            · by_cases e3 : a = 364
              · subst e3
                exact ⟨C.2.2.2.2.2.2.1 j (by omega), fun _ => (C.2.2.2.2.2.2.2 j).2.1, fun _ _ => (C.2.2.2.2.2.2.2 j).2.2, nR⟩
              · have := C.2.2.1 a j (by omega) (by omega) e2 (by omega)
                exact ⟨this.1, fun _ => this.2, fun _ q => absurd q (by omega), nR⟩
          · exact ⟨fr_rdI C.1 e, fun _ => fr_rdL C.1 e, fun _ _ => fr_rdD C.1 e, fr_rdR C.1⟩⟩
        have hk1 : h1.1 ≤ h.1 + 8 := by omega
        have e0lt : h.1 + 7 ≤ h1.1 := by have := COk.2.1; omega
        have KP : ∀ a k, pmt a k → Pfo c s0 a k := fun a k q => Or.inr (Or.inr (Or.inr (Or.inl q)))
        have KK : kp (Pfo c s0) h (am_setI (am_setI (am_setI (am_setI gc 365 c (nI 6)) 373 c (nI 0)) 375 c (nI 1)) 376 c (nI 1)) := by
          refine kp_trans (kp_mono (fun a k q => ?_) K1) (kp_trans (kp_I (kp_I kp_refl (KP _ _ (by unfold pmt; omega))) (KP _ _ (by unfold pmt; omega))) (kp_trans (kp_mono KP Km) (kp_trans (kp_mono (fun a k q => ?_) Km2) (kp_trans Kc (kp_I (kp_I (kp_I (kp_I kp_refl ?_) ?_) ?_) ?_)))))
          · unfold Px3 at q
            unfold Pfo
            rcases q with q | q | q | q
            · exact Or.inl q
            · exact Or.inr (Or.inl q)
            · exact Or.inr (Or.inr (Or.inl q))
            · exact Or.inr (Or.inr (Or.inr (Or.inr (Or.inl q))))
          · unfold Pfo; omega
          · unfold Pfo; omega
          · unfold Pfo; omega
          · unfold Pfo; omega
          · unfold Pfo; omega
        have Sz := fr_S Fz Sgc
        have Gz := Gv_fr Fz (by omega) (by omega) (by omega) (Gv_fr C.1 (by omega) (by omega) (by omega) (Gv_fr Fm2 (by omega) (by omega) (by omega) Gm))
        -- reads of the end's heap
        have z1 : ∀ a k, a < 349 → am_I (am_setI (am_setI (am_setI (am_setI gc 365 c (nI 6)) 373 c (nI 0)) 375 c (nI 1)) 376 c (nI 1)) a k = am_I h1 a k := fun a k ha => by
          rw [fr_rdI Fz (by omega), fr_rdI C.1 (by omega), fr_rdI Fm2 (by omega)]
          exact rB a k (by omega) (by omega) (by unfold pmt; omega)
        have z2 : ∀ a k, am_R (am_setI (am_setI (am_setI (am_setI gc 365 c (nI 6)) 373 c (nI 0)) 375 c (nI 1)) 376 c (nI 1)) a k = am_R hm' a k := fun a k => by
          rw [fr_rdR Fz, fr_rdR C.1, fr_rdR Fm2]
        have z3 : ∀ k, am_R hm' (22 + c) k = am_R h1 (22 + c) k := fun k => rC (22 + c) k (by omega) (by unfold pmt; omega)
        have z4 : (am_setI (am_setI (am_setI (am_setI gc 365 c (nI 6)) 373 c (nI 0)) 375 c (nI 1)) 376 c (nI 1)).1 = h1.1 := by
          show gc.1 = _
          rw [C.1.1, Fm2.1]; exact hm1'
        have z5 : ∀ a, am_tg (am_setI (am_setI (am_setI (am_setI gc 365 c (nI 6)) 373 c (nI 0)) 375 c (nI 1)) 376 c (nI 1)) a = am_tg hm' a := fun a => by
          rw [fr_tg Fz, fr_tg C.1, fr_tg Fm2]
        have z6 : ∀ a, a < h1.1 → am_tg hm' a = am_tg h1 a := fun a ha => Km.2.1 a ha
        refine ⟨nI k, h1, am_setI (am_setI (am_setI (am_setI gc 365 c (nI 6)) 373 c (nI 0)) 375 c (nI 1)) 376 c (nI 1), fun Q => ?_, fun Q => ?_, Inv_formula (hq := Nat.le_succ q) (e0 := h.1) I GG hc hs0 KK Sz Gz ⟨?_, ?_⟩ ?_ ?_ ⟨?_, cc', hcc', ?_⟩ (Nat.le_refl _) ?_ ?_ ?_ ?_ ?_ ?_ ?_ rI_eq ?_ ?_ (fun rr hr => ?_) (fun hr => ?_) ?_ ?_ ?_ nF48 hsl⟩
        · rw [runF, rk]
        · rw [mrun h1 Sk rfl, r2, f0]
          show am_J 104 191 26 _ [.int (nI 0)] hm' Q ↔ _
          rw [runM, runE]
        · rw [z4]; exact roomA wz1 zF1 M.1
        · show gc.2.1 ≤ _
          rw [C.1.2.1, Fm2.2.1, zm2]
          exact roomB wz2 zF2 M.2
        · rw [z1 5 1 (by decide), (Kk.2.2 5 1 (by omega) (by omega)).1]; exact F5
        · rw [fr_rdI Fz (by omega), fr_rdI C.1 (by omega), (Km2.2.2 349 2 (am_S_lt Sm (by decide)) (by omega)).1]; exact m2
        · rw [z1 4 13 (by decide), (Kk.2.2 4 13 (by omega) (by omega)).1, F4, fr_rdI Fz (by omega), fr_rdI C.1 (by omega), (Km2.2.2 349 4 (am_S_lt Sm (by decide)) (by omega)).1]; exact m4.symm
        · rw [z1 302 7 (by decide), (Kk.2.2 302 7 (by omega) (by omega)).1]; exact F3
        · rw [z2, z3, w3, zF1]
        · rw [fr_rdI Fz (by omega), fr_rdI C.1 (by omega)]; exact y1
        · rw [fr_rdI Fz (by omega), fr_rdI C.1 (by omega)]; exact y2
        · rw [z1 _ _ (by omega)]; exact w0
        · simp only [hI_I, hI_L, hI_D, hI_R, hL_I, hL_L, hL_D, hL_R, hD_I, hD_L, hD_D, hD_R, hR_I, hR_L, hR_D, ↓reduceIte, Nat.reduceEqDiff]
        · rw [z1 _ _ (by omega)]; exact w7
        · simp only [hI_I, hI_L, hI_D, hI_R, hL_I, hL_L, hL_D, hL_R, hD_I, hD_L, hD_D, hD_R, hR_I, hR_L, hR_D, ↓reduceIte, Nat.reduceEqDiff]
        · rw [z1 _ _ (by omega)]; exact w10
        · simp only [hI_I, hI_L, hI_D, hI_R, hL_I, hL_L, hL_D, hL_R, hD_I, hD_L, hD_D, hD_R, hR_I, hR_L, hR_D, ↓reduceIte, Nat.reduceEqDiff]
        · rw [z2, z3]; exact w8 rr (c8F.trans hr)
        · obtain ⟨v1, v2', v3⟩ := w9 (c8F.trans hr)
          rw [zF1] at v1 v2' v3
          exact ⟨h.1 + 7, by rw [z2, z3]; exact v1, by rw [z5, z6 _ v3]; exact v2', Nat.le_refl _, by rw [z4]; exact v3⟩
        · have ht : ∀ i, i < m' → tb (am_setI (am_setI (am_setI (am_setI gc 365 c (nI 6)) 373 c (nI 0)) 375 c (nI 1)) 376 c (nI 1)) (48 * s0) i = tb hm' 3648 i := fun i hi => by
            have e1 : tb (am_setI (am_setI (am_setI (am_setI gc 365 c (nI 6)) 373 c (nI 0)) 375 c (nI 1)) 376 c (nI 1)) (48 * s0) i = tb gc (48 * s0) i := by
              unfold tb
              rw [fr_rdI Fz (by decide), fr_rdI Fz (by decide), fr_rdI Fz (by decide), fr_rdI Fz (by decide), fr_rdL Fz (by decide)]
            rw [e1, C.2.1 i hi]
            unfold tb
            rw [fr_rdI Fm2 (by decide), fr_rdI Fm2 (by decide), fr_rdI Fm2 (by decide), fr_rdI Fm2 (by decide), fr_rdL Fm2 (by decide)]
          have R1 := Rp_mono (Nat.le_refl _) ht (Nat.le_refl _) d4
          rw [pFm_pFK] at R1
          refine ⟨L', G', D', E', k', m', r', d1, d2, d3, R1, NC_T d5 ht, ?_, ?_, ?_⟩
          · rw [q1, q2, q3, q4, q5, zF1] at COk
            refine CO_keep COk (Nat.le_of_eq z4.symm) (fun a ha1 ha2 => ⟨by rw [z5, z6 _ (by omega)], fun j _ => ⟨?_, ?_, by rw [z2, rC a j (by omega) (by unfold pmt; omega)]⟩⟩)
            · rw [fr_rdI Fz (by omega), fr_rdI C.1 (by omega), fr_rdI Fm2 (by omega)]
              exact rB a j (by omega) (by omega) (by unfold pmt; omega)
            · rw [fr_rdL Fz (by omega), fr_rdL C.1 (by omega), fr_rdL Fm2 (by omega)]
              exact (Km.2.2 a j (by omega) (by unfold pmt; omega)).2.1 (by omega)
          · rw [fr_rdI Fz (by decide), C.2.2.2.1, fr_rdI Fm2 (by decide)]; exact d8
          · rw [fr_rdI Fz (by decide)]; exact C.2.2.2.2.2.1
        · rw [z1 4 11 (by decide), (Kk.2.2 4 11 (by omega) (by omega)).1]; exact nF
        · rw [fr_rdI Fz (by omega), fr_rdI C.1 (by omega)]; exact y3
      match hcd : cd c with
      | some (e1, s1) =>
        obtain ⟨y1, y2, y3, y4, -⟩ := j10 e1 s1 hcd
        have hcnt := cnt_lo (cd := cd) (c := c) (y := some (h.1, s1)) 256 hc
        rw [hcd, show (if (some (e1, s1) : Option (Nat × Nat)).isSome = true then 1 else 0) = 1 from rfl, show (if (some (h.1, s1) : Option (Nat × Nat)).isSome = true then 1 else 0) = 1 from rfl] at hcnt
        have hcnt' : cntF (cdU cd c (some (h.1, s1))) 256 = cntF cd 256 := by omega
        refine fin hE _ s1 hcd SE GE (PE _ _ _ _ _ PXD) (kp_mono (fun a k q => by unfold Px1 at q; unfold Px2; rcases q with q | q | q; exact Or.inl q; exact Or.inr (Or.inl q); exact Or.inr (Or.inr ⟨q.1, Or.inl q.2⟩)) KE) ZE1 ZE2 c8E E5 E4 E3 (fun Q => ?_) y3 (Or.inl ⟨e1, hcd⟩) (by rw [hcnt', n11E]; exact s1') (by rw [hcnt']; exact s3) (fun hm' Sm e1' e2' e3' => ⟨hm', none, fun Q => ?_, fr_refl, kp_refl, e1'.trans y2, (e3' s1 y3).trans y4, by rw [hcnt', e2']; exact s2⟩)
        · rw [run1]
          have y1' : am_R hE (22 + c) 3 = some e1 := c3E.trans y1
          simp (disch := first | with_reducible assumption | omega | exact Or.inl rfl | exact Or.inr rfl | exact bI_01 | exact c_cat | exact vt_ref | exact vt_null | rfl | with_reducible repeat (first | assumption | omega | apply S_I | apply S_L | apply S_D | apply ob_I | apply ob_L | apply ob_D | apply ob_R | apply ax_I | apply ax_L | apply ax_D | apply ax_R | apply o303 | apply o307 | apply o302 | apply o301 | apply ax304 | apply ax305 | apply ax306 | apply ax308 | apply ax309 | apply ax310 | apply lt_S | apply ar305 | apply ar308 | apply ar309)) only [g146_34, g146_35, g146_38, g146_40, g146_41, g146_42, g146_43, g146_44, g146_47, g146_48, g146_49, g146_50, g146_51, g146_54, g146_54r, g146_54n, Option.toList, List.nil_append, List.cons_append, va_rf, nI_ltI, nI_leI, nI_eq, nI_add, nI_sub, nI_lt0, nI_e0, nI_m1, m1_nI, Nat.reduceEqDiff, Nat.reduceLT, Nat.reduceLeDiff, Nat.reduceAdd, Nat.reduceSub, Nat.reduceMul, ↓reduceIte, eq_self, y1']
        · have y2' : am_I hm' 369 c = nI s1 := e1'.trans y2
          simp (disch := first | with_reducible assumption | omega | exact Or.inl rfl | exact Or.inr rfl | exact bI_01 | exact c_cat | exact vt_ref | exact vt_null | rfl | with_reducible repeat (first | assumption | omega | apply S_I | apply S_L | apply S_D | apply ob_I | apply ob_L | apply ob_D | apply ob_R | apply ax_I | apply ax_L | apply ax_D | apply ax_R | apply o303 | apply o307 | apply o302 | apply o301 | apply ax304 | apply ax305 | apply ax306 | apply ax308 | apply ax309 | apply ax310 | apply lt_S | apply ar305 | apply ar308 | apply ar309)) only [g191_26, g191_29, g191_31, g191_32, g191_35, g191_36, g191_37, g191_38, g191_41, g191_42, g191_43, g191_44, g191_47, g191_48, g191_51, g191_53, g191_56, g191_58, g191_59, g191_60, g191_63, g191_64, g191_65, g191_66, Option.toList, List.nil_append, List.cons_append, va_rf, nI_ltI, nI_leI, nI_eq, nI_add, nI_sub, nI_lt0, nI_e0, nI_m1, m1_nI, Nat.reduceEqDiff, Nat.reduceLT, Nat.reduceLeDiff, Nat.reduceAdd, Nat.reduceSub, Nat.reduceMul, ↓reduceIte, eq_self, y2']
      | none =>
        obtain ⟨y1, y2, y3, y4⟩ := j9 hcd
        have y1' : am_R hE (22 + c) 3 = none := c3E.trans y1
        have nE : am_I hE 4 11 = nI (cntF cd 256) := n11E.trans s1'
        by_cases c48 : cntF cd 256 = 48
        · obtain ⟨hm', r2, MD, -⟩ := MR (am_setI (am_setI hE 349 28 (nI 0)) 349 29 (nI (c / 64))) (agM2_kp S KE (fun a k h1 h2 => by unfold Px1 rX; omega) SE GE) (by rw [rI_k (by decide), rI_eq]) rI_eq
          obtain ⟨Km, Sm, Gm, zm1, zm2, m2, m22, m4⟩ := MD
          have KK : kp Prd h hm' := kp_trans (kp_mono (fun a k q => by unfold Px1 rX at q; unfold Prd rX; omega) KE) (kp_trans (kp_I (kp_I kp_refl (by unfold Prd pmt; omega)) (by unfold Prd pmt; omega)) (kp_mono (fun a k q => Or.inr (Or.inr (Or.inr q))) Km))
          have kE := fun a k (ha : a < 402) (hp : ¬ pmt a k) => (Km.2.2 a k (show a < hE.1 by omega) hp).1
          have e369 : am_I hm' 369 c = -1 := by rw [(KK.2.2 369 c (by omega) (by unfold Prd rX pmt; omega)).1]; exact y2
          have e49 : am_I hm' 349 49 = nI 48 := by rw [(KK.2.2 349 49 (by omega) (by unfold Prd rX pmt; omega)).1, s2, c48]
          refine ⟨-2, hE, hm', fun Q => ?_, fun Q => ?_, up _ (Inv_read I KK Sm Gm ⟨?_, ?_⟩ ?_ m2 ⟨?_, cc', hcc', ?_⟩)⟩
          · rw [run1]
            rw [c48] at nE
            simp (disch := first | with_reducible assumption | omega | exact Or.inl rfl | exact Or.inr rfl | exact bI_01 | exact c_cat | exact vt_ref | exact vt_null | rfl | with_reducible repeat (first | assumption | omega | apply S_I | apply S_L | apply S_D | apply ob_I | apply ob_L | apply ob_D | apply ob_R | apply ax_I | apply ax_L | apply ax_D | apply ax_R | apply o303 | apply o307 | apply o302 | apply o301 | apply ax304 | apply ax305 | apply ax306 | apply ax308 | apply ax309 | apply ax310 | apply lt_S | apply ar305 | apply ar308 | apply ar309)) only [g146_34, g146_35, g146_38, g146_40, g146_41, g146_42, g146_43, g146_44, g146_47, g146_48, g146_49, g146_50, g146_51, g146_54, g146_54r, g146_54n, g146_57, g146_58, g146_61, g146_63, g146_66, g146_68, Option.toList, List.nil_append, List.cons_append, va_rf, nI_ltI, nI_leI, nI_eq, nI_add, nI_sub, nI_lt0, nI_e0, nI_m1, m1_nI, Nat.reduceEqDiff, Nat.reduceLT, Nat.reduceLeDiff, Nat.reduceAdd, Nat.reduceSub, Nat.reduceMul, ↓reduceIte, eq_self, y1', nE, Nat.lt_irrefl]
          · rw [mrun hE SE rfl, r2, f0]
            simp (disch := first | with_reducible assumption | omega | exact Or.inl rfl | exact Or.inr rfl | exact bI_01 | exact c_cat | exact vt_ref | exact vt_null | rfl | with_reducible repeat (first | assumption | omega | apply S_I | apply S_L | apply S_D | apply ob_I | apply ob_L | apply ob_D | apply ob_R | apply ax_I | apply ax_L | apply ax_D | apply ax_R | apply o303 | apply o307 | apply o302 | apply o301 | apply ax304 | apply ax305 | apply ax306 | apply ax308 | apply ax309 | apply ax310 | apply lt_S | apply ar305 | apply ar308 | apply ar309)) only [g191_26, g191_29, g191_31, g191_32, g191_35, g191_36, g191_37, g191_38, g191_41, g191_42, g191_43, g191_44, g191_47, g191_48, g191_51, g191_53, g191_56, g191_58, Option.toList, List.nil_append, List.cons_append, va_rf, nI_ltI, nI_leI, nI_eq, nI_add, nI_sub, nI_lt0, nI_e0, nI_m1, m1_nI, Nat.reduceEqDiff, Nat.reduceLT, Nat.reduceLeDiff, Nat.reduceAdd, Nat.reduceSub, Nat.reduceMul, ↓reduceIte, eq_self, e369, e49]
          · rw [zm1]; show hE.1 ≤ _; rw [ZE1]; exact M.1
          · rw [zm2]; show hE.2.1 ≤ _; rw [ZE2]; exact M.2
          · rw [kE 5 1 (by decide) (by unfold pmt; omega)]; simp only [hI_I, hI_L, hI_D, hI_R, hL_I, hL_L, hL_D, hL_R, hD_I, hD_L, hD_D, hD_R, hR_I, hR_L, hR_D, ↓reduceIte, Nat.reduceEqDiff]; exact E5
          · rw [kE 4 13 (by decide) (by unfold pmt; omega), m4]; simp only [hI_I, hI_L, hI_D, hI_R, hL_I, hL_L, hL_D, hL_R, hD_I, hD_L, hD_D, hD_R, hR_I, hR_L, hR_D, ↓reduceIte, Nat.reduceEqDiff]; exact E4
          · rw [kE 302 7 (by decide) (by unfold pmt; omega)]; simp only [hI_I, hI_L, hI_D, hI_R, hL_I, hL_L, hL_D, hL_R, hD_I, hD_L, hD_D, hD_R, hR_I, hR_L, hR_D, ↓reduceIte, Nat.reduceEqDiff]; exact E3
        · have hlt : cntF cd 256 < 48 := by omega
          obtain ⟨s0, hs0, h0, hb0⟩ : ∃ s0, s0 < 48 ∧ am_I h 374 s0 = nI 0 ∧ ∀ s, s < s0 → am_I h 374 s = nI 1 := by
            have key : ∀ m, m ≤ 48 → (∃ s0, s0 < m ∧ am_I h 374 s0 = nI 0 ∧ ∀ s, s < s0 → am_I h 374 s = nI 1) ∨ ∀ s, s < m → am_I h 374 s = nI 1 := by
              intro m
              induction m with
              | zero => intro _; exact Or.inr (fun s hs => absurd hs (Nat.not_lt_zero _))
              | succ m ih =>
                intro hm
                rcases ih (by omega) with ⟨s0, q1, q2, q3⟩ | q1
                · exact Or.inl ⟨s0, by omega, q2, q3⟩
                · rcases s5 m (by omega) with q2 | q2
                  · exact Or.inl ⟨m, Nat.lt_succ_self _, q2, q1⟩
                  · refine Or.inr (fun s hs => ?_)
                    by_cases e : s = m
                    · rw [e]; exact q2
                    · exact q1 s (by omega)
            rcases key 48 (Nat.le_refl _) with q1 | q1
            · exact q1
            · exfalso
              have := cnt_ge 48 cd (fun s hs => s6 s hs (q1 s hs))
              omega
          have hcnt := cnt_lo (cd := cd) (c := c) (y := some (h.1, s0)) 256 hc
          rw [hcd, show (if (none : Option (Nat × Nat)).isSome = true then 1 else 0) = 0 from rfl, show (if (some (h.1, s0) : Option (Nat × Nat)).isSome = true then 1 else 0) = 1 from rfl, Nat.add_zero] at hcnt
          have FF : am_fr (fun a => a = 4) hE (am_setI hE 4 11 (nI (cntF cd 256 + 1))) := fr_I fr_refl rfl
          have PF : PXd (am_setI hE 4 11 (nI (cntF cd 256 + 1))) D (E.map nI) (L.foldl nadd []) (GL.foldl gF (nI 0)) (nI k) := by
            obtain ⟨⟨c1, c2, c3⟩, ⟨p1, p2, p3⟩, ⟨n1, n2, n3, n4, n5⟩, e8, e7⟩ := PE _ _ _ _ _ PXD
            have R := fun a k (ha : 303 ≤ a) => fr_rdI FF (b := a) (j := k) (by omega)
            exact ⟨⟨(R 303 5 (by decide)).trans c1, c2, fun i x hx => ⟨(R 305 i (by decide)).trans (c3 i x hx).1, (c3 i x hx).2⟩⟩, ⟨(R 307 1 (by decide)).trans p1, p2, fun i x hx => ⟨(R 308 i (by decide)).trans (p3 i x hx).1, (p3 i x hx).2⟩⟩, ⟨(R 303 6 (by decide)).trans n1, fun i c hc => (R 309 i (by decide)).trans (n2 i c hc), n3, n4, n5⟩, (R 303 8 (by decide)).trans e8, (R 303 7 (by decide)).trans e7⟩
          refine fin (am_setI hE 4 11 (nI (cntF cd 256 + 1))) _ s0 hcd (fr_S FF SE) (Gv_fr FF (by omega) (by omega) (by omega) GE) PF (kp_I (kp_mono (fun a k q => by unfold Px1 at q; unfold Px2; rcases q with q | q | q; exact Or.inl q; exact Or.inr (Or.inl q); exact Or.inr (Or.inr ⟨q.1, Or.inl q.2⟩)) KE) (by unfold Px2; exact Or.inr (Or.inr ⟨rfl, Or.inr rfl⟩))) ZE1 ZE2 ((fr_rdR FF).trans c8E) ((fr_rdI FF (by decide)).trans E5) (by rw [rI_k (by decide)]; exact E4) ((fr_rdI FF (by decide)).trans E3) (fun Q => ?_) hs0 (Or.inr ⟨hcd, h0⟩) (by rw [rI_eq, hcnt]) (by omega) (fun hm' Sm e1' e2' e3' => ?_)
          · rw [run1]
            simp (disch := first | with_reducible assumption | omega | exact Or.inl rfl | exact Or.inr rfl | exact bI_01 | exact c_cat | exact vt_ref | exact vt_null | rfl | with_reducible repeat (first | assumption | omega | apply S_I | apply S_L | apply S_D | apply ob_I | apply ob_L | apply ob_D | apply ob_R | apply ax_I | apply ax_L | apply ax_D | apply ax_R | apply o303 | apply o307 | apply o302 | apply o301 | apply ax304 | apply ax305 | apply ax306 | apply ax308 | apply ax309 | apply ax310 | apply lt_S | apply ar305 | apply ar308 | apply ar309)) only [g146_34, g146_35, g146_38, g146_40, g146_41, g146_42, g146_43, g146_44, g146_47, g146_48, g146_49, g146_50, g146_51, g146_54, g146_54r, g146_54n, g146_57, g146_58, g146_61, g146_63, g146_66, g146_68, g146_69, g146_70, g146_71, g146_74, g146_75, g146_76, Option.toList, List.nil_append, List.cons_append, va_rf, nI_ltI, nI_leI, nI_eq, nI_add, nI_sub, nI_lt0, nI_e0, nI_m1, m1_nI, Nat.reduceEqDiff, Nat.reduceLT, Nat.reduceLeDiff, Nat.reduceAdd, Nat.reduceSub, Nat.reduceMul, ↓reduceIte, eq_self, y1', nE, hlt]
          · have f369 : am_I hm' 369 c = -1 := e1'.trans y2
            have f49 : am_I hm' 349 49 = nI (cntF cd 256) := e2'.trans s2
            have hf0 : am_I hm' 374 s0 = nI 0 := (e3' s0 hs0).trans h0
            have hfb : ∀ s, s < s0 → am_I hm' 374 s = nI 1 := fun s hs => (e3' s (by omega)).trans (hb0 s hs)
            refine ⟨am_setI (am_setI (am_setI hm' 374 s0 (nI 1)) 369 c (nI s0)) 349 49 (nI (cntF cd 256 + 1)), some (.int (nI s0)), fun Q => ?_, fr_I (fr_I (fr_I fr_refl (by omega)) (by omega)) (by omega), kp_I (kp_I (kp_I kp_refl (Or.inl ⟨rfl, rfl⟩)) (Or.inr (Or.inl ⟨rfl, rfl⟩))) (Or.inr (Or.inr ⟨rfl, rfl⟩)), ?_, ?_, ?_⟩
            · have e1 : am_J 104 191 26 [some (.ref 349), some (.int (nI c)), none] [.int (nI 0)] hm' Q ↔ am_J 104 191 71 [some (.ref 349), some (.int (nI c)), some (.int (nI 0))] [] hm' Q := by
                simp (disch := first | with_reducible assumption | omega | exact Or.inl rfl | exact Or.inr rfl | exact bI_01 | exact c_cat | exact vt_ref | exact vt_null | rfl | with_reducible repeat (first | assumption | omega | apply S_I | apply S_L | apply S_D | apply ob_I | apply ob_L | apply ob_D | apply ob_R | apply ax_I | apply ax_L | apply ax_D | apply ax_R | apply o303 | apply o307 | apply o302 | apply o301 | apply ax304 | apply ax305 | apply ax306 | apply ax308 | apply ax309 | apply ax310 | apply lt_S | apply ar305 | apply ar308 | apply ar309)) only [g191_26, g191_29, g191_31, g191_32, g191_35, g191_36, g191_37, g191_38, g191_41, g191_42, g191_43, g191_44, g191_47, g191_48, g191_51, g191_53, g191_56, g191_58, g191_59, g191_60, g191_63, g191_64, g191_65, g191_66, g191_69, g191_70, Option.toList, List.nil_append, List.cons_append, va_rf, nI_ltI, nI_leI, nI_eq, nI_add, nI_sub, nI_lt0, nI_e0, nI_m1, m1_nI, Nat.reduceEqDiff, Nat.reduceLT, Nat.reduceLeDiff, Nat.reduceAdd, Nat.reduceSub, Nat.reduceMul, ↓reduceIte, eq_self, f369, f49, c48]
              rw [e1, m_slot Sm hs0 hf0 hfb s0 0 (Nat.sub_zero _) (Nat.zero_le _)]
              simp (disch := first | with_reducible assumption | omega | exact Or.inl rfl | exact Or.inr rfl | exact bI_01 | exact c_cat | exact vt_ref | exact vt_null | rfl | with_reducible repeat (first | assumption | omega | apply S_I | apply S_L | apply S_D | apply ob_I | apply ob_L | apply ob_D | apply ob_R | apply ax_I | apply ax_L | apply ax_D | apply ax_R | apply o303 | apply o307 | apply o302 | apply o301 | apply ax304 | apply ax305 | apply ax306 | apply ax308 | apply ax309 | apply ax310 | apply lt_S | apply ar305 | apply ar308 | apply ar309)) only [g191_86, g191_87, g191_90, g191_91, g191_92, g191_93, g191_94, g191_97, g191_98, g191_99, g191_100, g191_101, g191_102, g191_105, g191_106, g191_107, Option.toList, List.nil_append, List.cons_append, va_rf, nI_ltI, nI_leI, nI_eq, nI_add, nI_sub, nI_lt0, nI_e0, nI_m1, m1_nI, Nat.reduceEqDiff, Nat.reduceLT, Nat.reduceLeDiff, Nat.reduceAdd, Nat.reduceSub, Nat.reduceMul, ↓reduceIte, eq_self, hI_I, hI_L, hI_D, hI_R, hL_I, hL_L, hL_D, hL_R, hD_I, hD_L, hD_D, hD_R, hR_I, hR_L, hR_D, ↓reduceIte, Nat.reduceEqDiff, f49]
            · simp only [hI_I, hI_L, hI_D, hI_R, hL_I, hL_L, hL_D, hL_R, hD_I, hD_L, hD_D, hD_R, hR_I, hR_L, hR_D, ↓reduceIte, Nat.reduceEqDiff]
            · simp only [hI_I, hI_L, hI_D, hI_R, hL_I, hL_L, hL_D, hL_R, hD_I, hD_L, hD_D, hD_R, hR_I, hR_L, hR_D, ↓reduceIte, Nat.reduceEqDiff]
            · rw [rI_eq, hcnt]
  · refine ⟨-1, h, h, fun Q => ?_, fun Q => ?_, up _ I⟩
    · simp (disch := first | with_reducible assumption | omega | exact Or.inl rfl | exact Or.inr rfl | exact bI_01 | exact c_cat | exact vt_ref | exact vt_null | rfl | with_reducible repeat (first | assumption | omega | apply S_I | apply S_L | apply S_D | apply ob_I | apply ob_L | apply ob_D | apply ob_R | apply ax_I | apply ax_L | apply ax_D | apply ax_R | apply o303 | apply o307 | apply o302 | apply o301 | apply ax304 | apply ax305 | apply ax306 | apply ax308 | apply ax309 | apply ax310 | apply lt_S | apply ar305 | apply ar308 | apply ar309)) only [g146_0, g146_1, g146_4, g146_7, g146_8, g146_9, g146_10, g146_13, g146_14, g146_17, g146_18, g146_21, g146_22, g146_24, g146_25, g146_26, g146_29, g146_30, g146_31, g146_34, g146_35, g146_38, g146_40, g146_41, g146_42, g146_43, g146_44, g146_47, g146_48, g146_49, g146_50, g146_51, g146_54, g146_54r, g146_54n, g146_57, g146_58, g146_61, g146_63, g146_66, g146_68, g146_69, g146_70, g146_71, g146_74, g146_75, g146_76, g146_79, g146_80, g146_81, g146_84, g146_87, g146_90, g146_90r, g146_90n, g146_93, g146_94, g146_97, g146_98, g146_100, g146_103, g146_104, g146_105, g146_108, g146_109, g146_112, g146_115, Option.toList, List.nil_append, List.cons_append, va_rf, x_noCell1 hx, nI_ltI, nI_leI, nI_eq, nI_add, nI_sub, nI_lt0, nI_e0, nI_m1, m1_nI, Nat.reduceEqDiff, Nat.reduceLT, Nat.reduceLeDiff, Nat.reduceAdd, Nat.reduceSub, Nat.reduceMul, ↓reduceIte, eq_self]
    · simp (disch := first | with_reducible assumption | omega | exact Or.inl rfl | exact Or.inr rfl | exact bI_01 | exact c_cat | exact vt_ref | exact vt_null | rfl | with_reducible repeat (first | assumption | omega | apply S_I | apply S_L | apply S_D | apply ob_I | apply ob_L | apply ob_D | apply ob_R | apply ax_I | apply ax_L | apply ax_D | apply ax_R | apply o303 | apply o307 | apply o302 | apply o301 | apply ax304 | apply ax305 | apply ax306 | apply ax308 | apply ax309 | apply ax310 | apply lt_S | apply ar305 | apply ar308 | apply ar309)) only [g191_0, g191_1, g191_4, g191_7, g191_8, g191_9, g191_10, g191_11, g191_14, g191_15, g191_16, g191_18, g191_19, g191_22, g191_23, g191_26, g191_29, g191_31, g191_32, g191_35, g191_36, g191_37, g191_38, g191_41, g191_42, g191_43, g191_44, g191_47, g191_48, g191_51, g191_53, g191_56, g191_58, g191_59, g191_60, g191_63, g191_64, g191_65, g191_66, g191_69, g191_70, g191_71, g191_72, g191_75, g191_76, g191_77, g191_80, g191_83, g191_86, g191_87, g191_90, g191_91, g191_92, g191_93, g191_94, g191_97, g191_98, g191_99, g191_100, g191_101, g191_102, g191_105, g191_106, g191_107, g191_110, g191_111, g191_112, g191_115, g191_116, g191_117, g191_120, g191_121, g191_124, g191_125, g191_127, g191_128, g191_129, g191_132, g191_133, g191_134, g191_135, g191_136, g191_139, g191_140, g191_141, g191_142, g191_143, g191_146, g191_147, g191_148, g191_149, g191_150, g191_153, Option.toList, List.nil_append, List.cons_append, va_rf, m_isCell0 hx, nI_ltI, nI_leI, nI_eq, nI_add, nI_sub, nI_lt0, nI_e0, nI_m1, m1_nI, Nat.reduceEqDiff, Nat.reduceLT, Nat.reduceLeDiff, Nat.reduceAdd, Nat.reduceSub, Nat.reduceMul, ↓reduceIte, eq_self]
end OFO

/-! THE OPERATION function -/
def Px5 (own a k : Nat) : Prop := rX a ∨ a = 5 ∨ (a = 4 ∧ (k = 13 ∨ k = 10)) ∨ (a = 11 ∧ k = own)
theorem npm {a k : Nat} (h : a < 349 ∨ (357 < a ∧ a ≠ 363)) : ¬ pmt a k := by unfold pmt; omega
theorem nPx1 {a k : Nat} (h : 310 < a) : ¬ Px1 a k := by unfold Px1 rX; omega
theorem nPx5 {own a k : Nat} (h : 310 < a) : ¬ Px5 own a k := by unfold Px5 rX; omega
section OFU
variable {q : Nat} {h : am_H}
theorem Kc_of {hm2 gc : am_H} {s m : Nat} {P : Nat → Nat → Prop} (C : MC hm2 gc s m) (h1 : ∀ a k, ((352 ≤ a ∧ a ≤ 355) ∨ a = 357) → 48 * s ≤ k → k < 48 * s + 48 → P a k) (h2 : P 356 s) (h3 : P 364 s) : kp P hm2 gc := ⟨by rw [C.1.1]; exact Nat.le_refl _, fun a _ => fr_tg C.1, fun a j _ hp => by
  by_cases e : (352 ≤ a ∧ a ≤ 357) ∨ a = 364
  · have nR := fr_rdR C.1 (b := a) (j := j)
    by_cases e2 : a = 356
    · subst e2
      exact ⟨C.2.2.2.2.1 j (fun q => hp (by rw [q]; exact h2)), fun _ => (C.2.2.2.2.2.2.2 j).1, fun _ q => absurd q (by omega), nR⟩
    · by_cases e3 : a = 364
      · subst e3
        exact ⟨C.2.2.2.2.2.2.1 j (fun q => hp (by rw [q]; exact h3)), fun _ => (C.2.2.2.2.2.2.2 j).2.1, fun _ _ => (C.2.2.2.2.2.2.2 j).2.2, nR⟩
      · have := C.2.2.1 a j (by omega) (by omega) e2 (by
          by_cases q1 : j < 48 * s
          · exact Or.inl q1
          · by_cases q2 : 48 * s + 48 ≤ j
            · exact Or.inr q2
            · exact absurd (h1 a j (by omega) (by omega) (by omega)) hp)
        exact ⟨this.1, fun _ => this.2, fun _ q => absurd q (by omega), nR⟩
  · exact ⟨fr_rdI C.1 e, fun _ => fr_rdL C.1 e, fun _ _ => fr_rdD C.1 e, fr_rdR C.1⟩⟩
set_option maxHeartbeats 8000000 in
theorem o_function (I : Inv q h) : ∃ r h1 h2, am_run 104 148 [some (.ref 4), none, none, none] h (some (.int r)) h1 ∧ am_run 104 224 [some (.ref 349)] h1 (some (.int r)) h2 ∧ Inv (q + 1) h2 := by
  obtain ⟨S, G, ⟨t, n, T, hm2, TM⟩, -, ⟨-, cc, hcc, h7⟩, -, -, -, M, nf, fe, fX, fM, fA, nc, ce, cX, cM, cd, lab, GG⟩ := id I
  obtain ⟨g1, g2, g3, g4, g5⟩ := id GG
  have h4 := S.1
  obtain ⟨ft, hx', r1, XR, e9, ⟨cc', hcc', c7⟩, z7, MR⟩ := rd_function S G T hm2 TM hcc h7 g1 (g2 0 (by decide))
  obtain ⟨KX, SX', GX', zx1, zx2⟩ := XR
  have Fe : am_fr (fun a => a = 5 ∨ a = 4) hx' (am_setI (am_setI hx' 5 1 (nI 0)) 4 13 (am_I hx' 302 9)) := fr_I (fr_I fr_refl (Or.inl rfl)) (Or.inr rfl)
  have re := x_endText (d := 103) SX'
  have SE := fr_S Fe SX'
  have GE := Gv_fr Fe (by decide) (by decide) (by decide) GX'
  have KE : kp Px1 h (am_setI (am_setI hx' 5 1 (nI 0)) 4 13 (am_I hx' 302 9)) := kp_I (kp_I (kp_mono (fun a k q => Or.inl q) KX) (Or.inr (Or.inl rfl))) (Or.inr (Or.inr ⟨rfl, rfl⟩))
  have E5 : am_I (am_setI (am_setI hx' 5 1 (nI 0)) 4 13 (am_I hx' 302 9)) 5 1 = nI 0 := by simp only [hI_I, hI_L, hI_D, hI_R, hL_I, hL_L, hL_D, hL_R, hD_I, hD_L, hD_D, hD_R, hR_I, hR_L, hR_D, ↓reduceIte, Nat.reduceEqDiff]
  have E4 : am_I (am_setI (am_setI hx' 5 1 (nI 0)) 4 13 (am_I hx' 302 9)) 4 13 = fpI ft := by rw [rI_eq]; exact e9
  have E3 : am_I (am_setI (am_setI hx' 5 1 (nI 0)) 4 13 (am_I hx' 302 9)) 302 7 = nI cc' := by rw [fr_rdI Fe (by decide)]; exact c7
  have E8 : ∀ k, am_L (am_setI (am_setI hx' 5 1 (nI 0)) 4 13 (am_I hx' 302 9)) 301 k = am_L hx' 301 k := fun k => fr_rdL Fe (by decide)
  have E9 : ∀ k, am_I (am_setI (am_setI hx' 5 1 (nI 0)) 4 13 (am_I hx' 302 9)) 301 k = am_I hx' 301 k := fun k => fr_rdI Fe (by decide)
  have ZE1 : (am_setI (am_setI hx' 5 1 (nI 0)) 4 13 (am_I hx' 302 9)).1 = h.1 := zx1
  have ZE2 : (am_setI (am_setI hx' 5 1 (nI 0)) 4 13 (am_I hx' 302 9)).2.1 = h.2.1 := zx2
  have PE : ∀ D P N F k, PXd hx' D P N F k → PXd (am_setI (am_setI hx' 5 1 (nI 0)) 4 13 (am_I hx' 302 9)) D P N F k := fun D P N F k X => PXd_fr Fe (fun a h1 h2 => by omega) X
  have run1 : ∀ Q, am_J 104 148 0 [some (.ref 4), none, none, none] [] h Q ↔ am_J 104 148 16 [some (.ref 4), some (.int (foI ft)), none, none] [] (am_setI (am_setI hx' 5 1 (nI 0)) 4 13 (am_I hx' 302 9)) Q := fun Q => by
    simp (disch := first | with_reducible assumption | omega | exact Or.inl rfl | exact Or.inr rfl | exact bI_01 | exact c_cat | exact vt_ref | exact vt_null | rfl | with_reducible repeat (first | assumption | omega | apply S_I | apply S_L | apply S_D | apply ob_I | apply ob_L | apply ob_D | apply ob_R | apply ax_I | apply ax_L | apply ax_D | apply ax_R | apply o303 | apply o307 | apply o302 | apply o301 | apply ax304 | apply ax305 | apply ax306 | apply ax308 | apply ax309 | apply ax310 | apply lt_S | apply ar305 | apply ar308 | apply ar309)) only [g148_0, g148_1, g148_4, g148_5, g148_8, g148_11, g148_12, g148_13, Option.toList, List.nil_append, List.cons_append, va_rf, nI_ltI, nI_leI, nI_eq, nI_add, nI_sub, nI_lt0, nI_e0, nI_m1, m1_nI, Nat.reduceEqDiff, Nat.reduceLT, Nat.reduceLeDiff, Nat.reduceAdd, Nat.reduceSub, Nat.reduceMul, ↓reduceIte, eq_self, r1 _, re _]
  generalize am_setI (am_setI hx' 5 1 (nI 0)) 4 13 (am_I hx' 302 9) = hE at SE GE KE E5 E4 E3 E8 E9 ZE1 ZE2 PE run1
  have mrun : ∀ g, am_S g → ∀ Q, am_J 104 224 0 [some (.ref 349)] [] g Q ↔ am_J 103 192 0 [some (.ref 349), none] [] (am_setI g 349 28 (nI 1)) (fun r h' => am_J 104 224 9 [some (.ref 349)] (r.toList ++ []) h' Q) := fun g Sg Q => by
    simp (disch := first | with_reducible assumption | omega | exact Or.inl rfl | exact Or.inr rfl | exact bI_01 | exact c_cat | exact vt_ref | exact vt_null | rfl | with_reducible repeat (first | assumption | omega | apply S_I | apply S_L | apply S_D | apply ob_I | apply ob_L | apply ob_D | apply ob_R | apply ax_I | apply ax_L | apply ax_D | apply ax_R | apply o303 | apply o307 | apply o302 | apply o301 | apply ax304 | apply ax305 | apply ax306 | apply ax308 | apply ax309 | apply ax310 | apply lt_S | apply ar305 | apply ar308 | apply ar309)) only [g224_0, g224_1, g224_2, g224_5, g224_6, Option.toList, List.nil_append, List.cons_append, va_rf, nI_ltI, nI_leI, nI_eq, nI_add, nI_sub, nI_lt0, nI_e0, nI_m1, m1_nI, Nat.reduceEqDiff, Nat.reduceLT, Nat.reduceLeDiff, Nat.reduceAdd, Nat.reduceSub, Nat.reduceMul, ↓reduceIte, eq_self]
  have agF : ∀ g, kp (fun a k => a < 349) h g → am_S g → am_Gv g → agM2 h (am_setI g 349 28 (nI 1)) := fun g Kg Sg Gg => by
    have F0 : am_fr (fun a => a = 349) g (am_setI g 349 28 (nI 1)) := fr_I fr_refl rfl
    refine ⟨fr_S F0 Sg, Gv_fr F0 (by decide) (by decide) (by decide) Gg, fun a k h1 h2 h3 => ?_⟩
    have q1 := Kg.2.2 a k (by omega) (by omega)
    refine ⟨?_, fun e => (fr_rdL F0 e).trans (q1.2.1 e)⟩
    by_cases e : a = 349
    · rw [e, rI_k (h3 e).1, ← e]; exact q1.1
    · exact (fr_rdI F0 e).trans q1.1
  have agE : agM2 h (am_setI hE 349 28 (nI 1)) := agF hE (kp_mono (fun a k q => by unfold Px1 rX at q; omega) KE) SE GE
  have nokeep : ∀ (r : Int32) hm', (∀ Q, am_J 104 148 16 [some (.ref 4), some (.int (foI ft)), none, none] [] hE Q ↔ Q (some (.int r)) hE) → am_run 103 192 [some (.ref 349), none] (am_setI hE 349 28 (nI 1)) (some (.int (foI ft))) hm' → MRd (am_setI hE 349 28 (nI 1)) hm' ft → (∀ Q, am_J 104 224 9 [some (.ref 349)] [.int (foI ft)] hm' Q ↔ Q (some (.int r)) hm') → ∃ r h1 h2, am_run 104 148 [some (.ref 4), none, none, none] h (some (.int r)) h1 ∧ am_run 104 224 [some (.ref 349)] h1 (some (.int r)) h2 ∧ Inv (q + 1) h2 := by
    intro r hm' rx r2 MD rm
    obtain ⟨Km, Sm, Gm, zm1, zm2, m2, m22, m4⟩ := MD
    have KK : kp Prd h hm' := kp_trans (kp_mono (fun a k q => by unfold Px1 rX at q; unfold Prd rX; omega) KE) (kp_trans (kp_I kp_refl (by unfold Prd pmt; omega)) (kp_mono (fun a k q => Or.inr (Or.inr (Or.inr q))) Km))
    have kE := fun a k (ha : a < 402) (hp : ¬ pmt a k) => (Km.2.2 a k (show a < hE.1 by omega) hp).1
    refine ⟨r, hE, hm', fun Q => ?_, fun Q => ?_, up_Inv (Inv_read I KK Sm Gm ⟨?_, ?_⟩ ?_ m2 ⟨?_, cc', hcc', ?_⟩)⟩
    · rw [run1, rx]
    · rw [mrun hE SE, r2]; exact rm Q
    · rw [zm1]; show hE.1 ≤ _; rw [ZE1]; exact M.1
    · rw [zm2]; show hE.2.1 ≤ _; rw [ZE2]; exact M.2
    · rw [kE 5 1 (by decide) (npm (by decide))]; simp only [hI_I, hI_L, hI_D, hI_R, hL_I, hL_L, hL_D, hL_R, hD_I, hD_L, hD_D, hD_R, hR_I, hR_L, hR_D, ↓reduceIte, Nat.reduceEqDiff]; exact E5
    · rw [kE 4 13 (by decide) (npm (by decide)), m4]; simp only [hI_I, hI_L, hI_D, hI_R, hL_I, hL_L, hL_D, hL_R, hD_I, hD_L, hD_D, hD_R, hR_I, hR_L, hR_D, ↓reduceIte, Nat.reduceEqDiff]; exact E4
    · rw [kE 302 7 (by decide) (npm (by decide))]; simp only [hI_I, hI_L, hI_D, hI_R, hL_I, hL_L, hL_D, hL_R, hD_I, hD_L, hD_D, hD_R, hR_I, hR_L, hR_D, ↓reduceIte, Nat.reduceEqDiff]; exact E3
  match hft : ft with
  | some z =>
    obtain ⟨hm', r2, MD, -⟩ := MR _ agE rI_eq
    obtain ⟨zn0, zn1⟩ := z7 z rfl
    have fz : ¬ z.1 = 0 := zn0
    have fe' : foI (some z) = nI z.1 := rfl
    have Sm := MD.2.1
    have m22 := MD.2.2.2.2.2.2.1
    refine nokeep (-100 - nI z.1) hm' (fun Q => ?_) r2 MD (fun Q => ?_)
    · simp (disch := first | with_reducible assumption | omega | exact Or.inl rfl | exact Or.inr rfl | exact bI_01 | exact c_cat | exact vt_ref | exact vt_null | rfl | with_reducible repeat (first | assumption | omega | apply S_I | apply S_L | apply S_D | apply ob_I | apply ob_L | apply ob_D | apply ob_R | apply ax_I | apply ax_L | apply ax_D | apply ax_R | apply o303 | apply o307 | apply o302 | apply o301 | apply ax304 | apply ax305 | apply ax306 | apply ax308 | apply ax309 | apply ax310 | apply lt_S | apply ar305 | apply ar308 | apply ar309)) only [g148_16, g148_17, g148_20, g148_22, g148_23, g148_24, fe', nI_ltI, nI_leI, nI_eq, nI_add, nI_sub, nI_lt0, nI_e0, nI_m1, m1_nI, Nat.reduceEqDiff, Nat.reduceLT, Nat.reduceLeDiff, Nat.reduceAdd, Nat.reduceSub, Nat.reduceMul, ↓reduceIte, eq_self, fz]
    · rw [fe'] at m22 ⊢
      simp (disch := first | with_reducible assumption | omega | exact Or.inl rfl | exact Or.inr rfl | exact bI_01 | exact c_cat | exact vt_ref | exact vt_null | rfl | with_reducible repeat (first | assumption | omega | apply S_I | apply S_L | apply S_D | apply ob_I | apply ob_L | apply ob_D | apply ob_R | apply ax_I | apply ax_L | apply ax_D | apply ax_R | apply o303 | apply o307 | apply o302 | apply o301 | apply ax304 | apply ax305 | apply ax306 | apply ax308 | apply ax309 | apply ax310 | apply lt_S | apply ar305 | apply ar308 | apply ar309)) only [g224_9, g224_12, g224_14, g224_15, g224_18, g224_19, Option.toList, List.nil_append, List.cons_append, va_rf, nI_ltI, nI_leI, nI_eq, nI_add, nI_sub, nI_lt0, nI_e0, nI_m1, m1_nI, Nat.reduceEqDiff, Nat.reduceLT, Nat.reduceLeDiff, Nat.reduceAdd, Nat.reduceSub, Nat.reduceMul, ↓reduceIte, eq_self, fz, m22]
  | none =>
    have f0 : foI none = nI 0 := rfl
    obtain ⟨hm0, rm0, md0, RD0⟩ := MR _ agE rI_eq
    obtain ⟨vx, vy, own, na, agM, hxy, hown, hna1, hna3, hnA, o1, o2, o3, o4, o5, o6, RDa⟩ := RD0 rfl
    obtain ⟨D, E, L, GL, k, m, r, b1, b2, b3, -, PXD, -, -, -⟩ := RDa
    have hle : own ≤ nf := by rw [hown]; exact fdI_le
    have hnf8 := g1.1
    have E9' : am_I hE 301 9 = nI own := (E9 9).trans o2
    by_cases c8 : own = 8
    · have hnf : nf = 8 := by omega
      have Sm := md0.2.1
      have e16 : am_I hm0 349 16 = nI 8 := by
        rw [(md0.1.2.2 349 16 (show 349 < hE.1 by omega) (by unfold pmt; omega)).1]
        simp only [hI_I, hI_L, hI_D, hI_R, hL_I, hL_L, hL_D, hL_R, hD_I, hD_L, hD_D, hD_R, hR_I, hR_L, hR_D, ↓reduceIte, Nat.reduceEqDiff]
        rw [(KE.2.2 349 16 (by omega) (nPx1 (by decide))).1, g1.2.2.1, hnf]
      refine nokeep (-2) hm0 (fun Q => ?_) rm0 md0 (fun Q => ?_)
      · rw [f0]
        rw [c8] at E9'
        simp (disch := first | with_reducible assumption | omega | exact Or.inl rfl | exact Or.inr rfl | exact bI_01 | exact c_cat | exact vt_ref | exact vt_null | rfl | with_reducible repeat (first | assumption | omega | apply S_I | apply S_L | apply S_D | apply ob_I | apply ob_L | apply ob_D | apply ob_R | apply ax_I | apply ax_L | apply ax_D | apply ax_R | apply o303 | apply o307 | apply o302 | apply o301 | apply ax304 | apply ax305 | apply ax306 | apply ax308 | apply ax309 | apply ax310 | apply lt_S | apply ar305 | apply ar308 | apply ar309)) only [g148_16, g148_17, g148_20, g148_22, g148_23, g148_24, g148_25, g148_26, g148_29, g148_32, g148_33, g148_34, g148_37, g148_38, g148_40, g148_43, g148_45, Option.toList, List.nil_append, List.cons_append, va_rf, nI_ltI, nI_leI, nI_eq, nI_add, nI_sub, nI_lt0, nI_e0, nI_m1, m1_nI, Nat.reduceEqDiff, Nat.reduceLT, Nat.reduceLeDiff, Nat.reduceAdd, Nat.reduceSub, Nat.reduceMul, ↓reduceIte, eq_self, E9', Nat.lt_irrefl]
      · rw [f0]
        rw [c8] at o5
        simp (disch := first | with_reducible assumption | omega | exact Or.inl rfl | exact Or.inr rfl | exact bI_01 | exact c_cat | exact vt_ref | exact vt_null | rfl | with_reducible repeat (first | assumption | omega | apply S_I | apply S_L | apply S_D | apply ob_I | apply ob_L | apply ob_D | apply ob_R | apply ax_I | apply ax_L | apply ax_D | apply ax_R | apply o303 | apply o307 | apply o302 | apply o301 | apply ax304 | apply ax305 | apply ax306 | apply ax308 | apply ax309 | apply ax310 | apply lt_S | apply ar305 | apply ar308 | apply ar309)) only [g224_9, g224_12, g224_14, g224_15, g224_18, g224_19, g224_20, g224_21, g224_24, g224_25, g224_28, g224_31, g224_32, g224_35, g224_37, g224_40, g224_42, Option.toList, List.nil_append, List.cons_append, va_rf, nI_ltI, nI_leI, nI_eq, nI_add, nI_sub, nI_lt0, nI_e0, nI_m1, m1_nI, Nat.reduceEqDiff, Nat.reduceLT, Nat.reduceLeDiff, Nat.reduceAdd, Nat.reduceSub, Nat.reduceMul, ↓reduceIte, eq_self, o5, e16]
    · have ho : own < 8 := by omega
      obtain ⟨h1, rk, Kk, Sk, Gk, COk, w9, w10, w11, w3, w1, wz1, wz2⟩ := x_nkeep (x := vx) (na := na) SE GE ho hnf8 hle ((KE.2.2 4 10 (by omega) (by unfold Px1 rX; omega)).1.trans g1.2.1) ((E8 8).trans o1) ((E9 4).trans o3) (PE _ _ _ _ _ PXD)
      have K1 : kp (Px5 own) h h1 := kp_trans (kp_mono (fun a k q => by unfold Px1 at q; unfold Px5; rcases q with q | q | q; exact Or.inl q; exact Or.inr (Or.inl q); exact Or.inr (Or.inr (Or.inl ⟨q.1, Or.inl q.2⟩))) KE) (kp_mono (fun a k q => by unfold Px5; rcases q with q | q; exact Or.inr (Or.inr (Or.inl ⟨q.1, Or.inr q.2⟩)); exact Or.inr (Or.inr (Or.inr q))) Kk)
      obtain ⟨hm', r2, MD, RD1⟩ := MR (am_setI h1 349 28 (nI 1)) (agF h1 (kp_mono (fun a k q => by unfold Px5 rX at q; omega) K1) Sk Gk) rI_eq
      obtain ⟨Km, Sm, Gm, zm1, zm2, m2, m22, m4⟩ := MD
      obtain ⟨vx', vy', own', na', agM', hxy', hown', hna1', hna3', hnA', p1, p2, p2', p3, p4, p5, RDb⟩ := RD1 rfl
      have ex : vx' = vx := p1.symm.trans o1
      subst ex
      have ey : vy' = vy := (NM_iff hxy' hxy).mp rfl
      subst ey
      have eo : own' = own := by rw [hown', hown]
      subst eo
      have ena : na' = na := (nI_eq (by omega) (by omega)).mp (p2'.symm.trans o3)
      subst ena
      obtain ⟨D', E', L', G', k', m', r', d1, d2, d3, ⟨d4, d5⟩, PX', d6, d7, d8⟩ := RDb
      obtain ⟨q1, q2, q3, q4, q5⟩ := PXd_inj PXD PX'
      have hm1' : hm'.1 = h1.1 := zm1
      have h1h : h.1 + 7 = h1.1 := by rw [wz1, ZE1]
      have lt1 : ∀ a, a < 402 → a < h1.1 := fun a ha => by omega
      have e16 : am_I hm' 349 16 = nI nf := by
        rw [(Km.2.2 349 16 (lt1 _ (by decide)) (by unfold pmt; omega)).1]
        simp only [hI_I, hI_L, hI_D, hI_R, hL_I, hL_L, hL_D, hL_R, hD_I, hD_L, hD_D, hD_R, hR_I, hR_L, hR_D, ↓reduceIte, Nat.reduceEqDiff]
        rw [(K1.2.2 349 16 (by omega) (nPx5 (by decide))).1]; exact g1.2.2.1
      obtain ⟨hm2', gc, Fm2, Km2, y1, y2, y3, C, runE⟩ := m_nkeep (d := 103) Sm ho hnf8 hle p4 p5 e16 p3 d7 (by omega)
      have Sm2 := fr_S Fm2 Sm
      have Sgc := fr_S C.1 Sm2
      have Fz : am_fr (fun a => a = 377) gc (am_setI gc 377 own' (nI 1)) := fr_I fr_refl rfl
      have z1 : ∀ a j, a < h1.1 → (a < 349 ∨ 402 ≤ a) → am_I (am_setI gc 377 own' (nI 1)) a j = am_I h1 a j := fun a j ha hb => by
        rw [fr_rdI Fz (by omega), fr_rdI C.1 (by omega), fr_rdI Fm2 (by omega)]
        refine (Km.2.2 a j ha (npm (by omega))).1.trans ?_
        rw [rI_a (by omega)]
      have z2 : ∀ a j, a < h1.1 → (a < 349 ∨ 402 ≤ a) → am_L (am_setI gc 377 own' (nI 1)) a j = am_L h1 a j := fun a j ha hb => by
        rw [fr_rdL Fz (by omega), fr_rdL C.1 (by omega), fr_rdL Fm2 (by omega)]
        exact (Km.2.2 a j ha (npm (by omega))).2.1 (by omega)
      have z3 : ∀ a j, a < h1.1 → (a < 349 ∨ 402 ≤ a) → am_R (am_setI gc 377 own' (nI 1)) a j = am_R h1 a j := fun a j ha hb => by
        rw [fr_rdR Fz, fr_rdR C.1, fr_rdR Fm2]
        exact (Km.2.2 a j ha (npm (by omega))).2.2.2
      have z4 : (am_setI gc 377 own' (nI 1)).1 = h1.1 := by
        show gc.1 = _
        rw [C.1.1, Fm2.1]; exact hm1'
      have z5 : ∀ a, a < h1.1 → am_tg (am_setI gc 377 own' (nI 1)) a = am_tg h1 a := fun a ha => by
        rw [fr_tg Fz, fr_tg C.1, fr_tg Fm2]; exact Km.2.1 a ha
      have KP : ∀ a k, pmt a k → Pfu own' a k := fun a k q => Or.inr (Or.inr (Or.inr (Or.inl q)))
      have Kc : kp (Pfu own') hm2' gc := Kc_of C (fun a k q1 q2 q3 => Or.inr (Or.inr (Or.inr (Or.inr (Or.inr (Or.inr (Or.inr (Or.inl ⟨q1, q2, q3⟩)))))))) (Or.inr (Or.inr (Or.inr (Or.inr (Or.inr (Or.inr (Or.inr (Or.inr ⟨Or.inl rfl, rfl⟩)))))))) (Or.inr (Or.inr (Or.inr (Or.inr (Or.inr (Or.inr (Or.inr (Or.inr ⟨Or.inr rfl, rfl⟩))))))))
      have KK : kp (Pfu own') h (am_setI gc 377 own' (nI 1)) := by
        refine kp_trans (kp_mono (fun a k q => ?_) K1) (kp_trans (kp_I kp_refl (KP _ _ (by unfold pmt; omega))) (kp_trans (kp_mono KP Km) (kp_trans (kp_mono (fun a k q => ?_) Km2) (kp_trans Kc (kp_I kp_refl ?_)))))
        · unfold Px5 at q
          rcases q with q | q | q | q
          · exact Or.inl q
          · exact Or.inr (Or.inl q)
          · exact Or.inr (Or.inr (Or.inl q))
          · exact Or.inr (Or.inr (Or.inr (Or.inr (Or.inl q))))
        · rcases q with q | q
          · exact Or.inr (Or.inr (Or.inr (Or.inr (Or.inr (Or.inl q)))))
          · exact Or.inr (Or.inr (Or.inr (Or.inr (Or.inr (Or.inr (Or.inl ⟨by omega, q.2⟩))))))
        · exact Or.inr (Or.inr (Or.inr (Or.inr (Or.inr (Or.inr (Or.inl ⟨Or.inr (Or.inr rfl), rfl⟩))))))
      refine ⟨nI own', h1, am_setI gc 377 own' (nI 1), fun Q => ?_, fun Q => ?_, Inv_function (hq := Nat.le_succ q) (e0 := h.1) I GG ho hown hxy hna1 hna3 hnA KK (fr_S Fz Sgc) (Gv_fr Fz (by decide) (by decide) (by decide) (Gv_fr C.1 (by decide) (by decide) (by decide) (Gv_fr Fm2 (by decide) (by decide) (by decide) Gm))) ⟨?_, ?_⟩ ?_ ?_ ⟨?_, cc', hcc', ?_⟩ (Nat.le_refl _) ?_ ?_ ?_ ?_ ?_ ?_ rI_eq ?_ ?_ ?_⟩
      · rw [run1, f0, ← rk Q]
        simp (disch := first | with_reducible assumption | omega | exact Or.inl rfl | exact Or.inr rfl | exact bI_01 | exact c_cat | exact vt_ref | exact vt_null | rfl | with_reducible repeat (first | assumption | omega | apply S_I | apply S_L | apply S_D | apply ob_I | apply ob_L | apply ob_D | apply ob_R | apply ax_I | apply ax_L | apply ax_D | apply ax_R | apply o303 | apply o307 | apply o302 | apply o301 | apply ax304 | apply ax305 | apply ax306 | apply ax308 | apply ax309 | apply ax310 | apply lt_S | apply ar305 | apply ar308 | apply ar309)) only [g148_16, g148_17, g148_20, g148_22, g148_23, g148_24, g148_25, g148_26, g148_29, g148_32, g148_33, g148_34, g148_37, g148_38, g148_40, g148_43, Option.toList, List.nil_append, List.cons_append, va_rf, nI_ltI, nI_leI, nI_eq, nI_add, nI_sub, nI_lt0, nI_e0, nI_m1, m1_nI, Nat.reduceEqDiff, Nat.reduceLT, Nat.reduceLeDiff, Nat.reduceAdd, Nat.reduceSub, Nat.reduceMul, ↓reduceIte, eq_self, E9', ho]
      · rw [mrun h1 Sk, r2, f0, ← runE Q]
        by_cases c7' : own' = nf
        · have e16' := e16
          rw [← c7'] at e16'
          simp (disch := first | with_reducible assumption | omega | exact Or.inl rfl | exact Or.inr rfl | exact bI_01 | exact c_cat | exact vt_ref | exact vt_null | rfl | with_reducible repeat (first | assumption | omega | apply S_I | apply S_L | apply S_D | apply ob_I | apply ob_L | apply ob_D | apply ob_R | apply ax_I | apply ax_L | apply ax_D | apply ax_R | apply o303 | apply o307 | apply o302 | apply o301 | apply ax304 | apply ax305 | apply ax306 | apply ax308 | apply ax309 | apply ax310 | apply lt_S | apply ar305 | apply ar308 | apply ar309)) only [g224_9, g224_12, g224_14, g224_15, g224_18, g224_19, g224_20, g224_21, g224_24, g224_25, g224_28, g224_31, g224_32, g224_35, g224_37, g224_40, Option.toList, List.nil_append, List.cons_append, va_rf, nI_ltI, nI_leI, nI_eq, nI_add, nI_sub, nI_lt0, nI_e0, nI_m1, m1_nI, Nat.reduceEqDiff, Nat.reduceLT, Nat.reduceLeDiff, Nat.reduceAdd, Nat.reduceSub, Nat.reduceMul, ↓reduceIte, eq_self, p4, e16', c8]
        · simp (disch := first | with_reducible assumption | omega | exact Or.inl rfl | exact Or.inr rfl | exact bI_01 | exact c_cat | exact vt_ref | exact vt_null | rfl | with_reducible repeat (first | assumption | omega | apply S_I | apply S_L | apply S_D | apply ob_I | apply ob_L | apply ob_D | apply ob_R | apply ax_I | apply ax_L | apply ax_D | apply ax_R | apply o303 | apply o307 | apply o302 | apply o301 | apply ax304 | apply ax305 | apply ax306 | apply ax308 | apply ax309 | apply ax310 | apply lt_S | apply ar305 | apply ar308 | apply ar309)) only [g224_9, g224_12, g224_14, g224_15, g224_18, g224_19, g224_20, g224_21, g224_24, g224_25, g224_28, g224_31, g224_32, g224_35, g224_37, g224_40, Option.toList, List.nil_append, List.cons_append, va_rf, nI_ltI, nI_leI, nI_eq, nI_add, nI_sub, nI_lt0, nI_e0, nI_m1, m1_nI, Nat.reduceEqDiff, Nat.reduceLT, Nat.reduceLeDiff, Nat.reduceAdd, Nat.reduceSub, Nat.reduceMul, ↓reduceIte, eq_self, p4, e16, c7']
      · rw [z4, ← h1h]; have := M.1; omega
      · show gc.2.1 ≤ _
        rw [C.1.2.1, Fm2.2.1, zm2]
        exact roomB wz2 ZE2 M.2
      · rw [z1 5 1 (lt1 _ (by decide)) (by decide), (Kk.2.2 5 1 (by omega) (by omega)).1]; exact E5
      · rw [fr_rdI Fz (by decide), fr_rdI C.1 (by decide), (Km2.2.2 349 2 (am_S_lt Sm (by decide)) (by omega)).1]; exact m2
      · rw [z1 4 13 (lt1 _ (by decide)) (by decide), (Kk.2.2 4 13 (by omega) (by omega)).1, E4, fr_rdI Fz (by decide), fr_rdI C.1 (by decide), (Km2.2.2 349 4 (am_S_lt Sm (by decide)) (by omega)).1]; exact m4.symm
      · rw [z1 302 7 (lt1 _ (by decide)) (by decide), (Kk.2.2 302 7 (by omega) (by omega)).1]; exact E3
      · rw [z3 _ _ (lt1 _ (by decide)) (by decide), w3, ZE1]
      · rw [z2 _ _ (by omega) (by omega), ← ZE1]; exact w9
      · rw [z1 _ _ (by omega) (by omega), ← ZE1]; exact w10
      · rw [z1 _ _ (by omega) (by omega), ← ZE1]; exact w11
      · rw [fr_rdL Fz (by decide), fr_rdL C.1 (by decide)]; exact y2
      · rw [fr_rdI Fz (by decide), fr_rdI C.1 (by decide)]; exact y3
      · rw [z1 _ _ (lt1 _ (by decide)) (by decide)]; exact w1
      · rw [fr_rdI Fz (by decide), fr_rdI C.1 (by decide)]; exact y1
      · have ht : ∀ i, i < m' → tb (am_setI gc 377 own' (nI 1)) (48 * (48 + own')) i = tb hm' 3648 i := fun i hi => by
          have e1 : tb (am_setI gc 377 own' (nI 1)) (48 * (48 + own')) i = tb gc (48 * (48 + own')) i := by
            unfold tb
            rw [fr_rdI Fz (by decide), fr_rdI Fz (by decide), fr_rdI Fz (by decide), fr_rdI Fz (by decide), fr_rdL Fz (by decide)]
          rw [e1, C.2.1 i hi]
          unfold tb
          rw [fr_rdI Fm2 (by decide), fr_rdI Fm2 (by decide), fr_rdI Fm2 (by decide), fr_rdI Fm2 (by decide), fr_rdL Fm2 (by decide)]
        have R1 := Rp_mono (Nat.le_refl _) ht (Nat.le_refl _) d4
        have R2 := Rp_txt (kn' := na') (pN' := pNm 2 agM' (cM 0)) (pF' := pFK (max nf (own' + 1)) (upf fA own' na') (upf fM own' vy')) (Nat.le_refl _) (fun q => q) (fun k hk => rfl) (pFm_pFK2 hnA hna3) _ _ (Nat.lt_succ_self _) _ _ _ _ _ R1
        refine ⟨_, L', G', D', E', k', m', r', d1, d2, d3, R2, NC_T d5 ht, ?_, ?_, ?_⟩
        · rw [q1, q2, q3, q4, q5, ZE1] at COk
          exact CO_keep COk (Nat.le_of_eq z4.symm) (fun a ha1 ha2 => ⟨z5 a (by omega), fun j _ => ⟨z1 a j (by omega) (by omega), z2 a j (by omega) (by omega), z3 a j (by omega) (by omega)⟩⟩)
        · rw [fr_rdI Fz (by decide), C.2.2.2.1, fr_rdI Fm2 (by decide)]; exact d8
        · rw [fr_rdI Fz (by decide)]; exact C.2.2.2.2.2.1
end OFU

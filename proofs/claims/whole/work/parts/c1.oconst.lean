/-! THE OPERATION constant -/
def Px4 (s own a k : Nat) : Prop := rX a ∨ a = 5 ∨ (a = 4 ∧ k = 13) ∨ (a = 323 + 7 * s + own ∧ k ≠ 8) ∨ (a = 321 + 7 * s ∧ (k = 1 ∨ k = 2))
section OCO
variable {q : Nat} {h : am_H} {x : Int32}
theorem PXd_fr {g : am_H} {P0 : Nat → Prop} {D : List (Int32 × Int64)} {P : List Int32} {N : List Nat} {F k : Int32} (Fr : am_fr P0 h g) (hP : ∀ a, 303 ≤ a → a ≤ 309 → ¬ P0 a) (X : PXd h D P N F k) : PXd g D P N F k := by
  obtain ⟨⟨c1, c2, c3⟩, ⟨p1, p2, p3⟩, ⟨n1, n2, n3, n4, n5⟩, e8, e7⟩ := X
  have R := fun a k (h1 : 303 ≤ a) (h2 : a ≤ 309) => fr_rdI Fr (b := a) (j := k) (hP a h1 h2)
  have RL := fun a k (h1 : 303 ≤ a) (h2 : a ≤ 309) => fr_rdL Fr (b := a) (j := k) (hP a h1 h2)
  exact ⟨⟨(R 303 5 (by decide) (by decide)).trans c1, c2, fun i x hx => ⟨(R 305 i (by decide) (by decide)).trans (c3 i x hx).1, (RL 306 i (by decide) (by decide)).trans (c3 i x hx).2.1, (c3 i x hx).2.2⟩⟩, ⟨(R 307 1 (by decide) (by decide)).trans p1, p2, fun i x hx => ⟨(R 308 i (by decide) (by decide)).trans (p3 i x hx).1, (p3 i x hx).2⟩⟩, ⟨(R 303 6 (by decide) (by decide)).trans n1, fun i c hc => (R 309 i (by decide) (by decide)).trans (n2 i c hc), n3, n4, fun c hc => by rw [RL 304 (c / 64) (by decide) (by decide)]; exact n5 c hc⟩, (R 303 8 (by decide) (by decide)).trans e8, (R 303 7 (by decide) (by decide)).trans e7⟩
theorem up_Inv {g : am_H} (J : Inv q g) : Inv (q + 1) g := by
  obtain ⟨a1, a2, a3, a4, a5, a6, a7⟩ := Inv_iff.mp J
  exact Inv_iff.mpr ⟨a1, a2, a3, a4, a5, ⟨by have := a6.1; omega, by have := a6.2; omega⟩, iK_up a7⟩
set_option maxHeartbeats 8000000 in
theorem o_constant (I : Inv q h) : ∃ r h1 h2, am_run 104 149 [some (.ref 4), some (.int x), none, none, none] h (some (.int r)) h1 ∧ am_run 104 225 [some (.ref 349), some (.int x)] h1 (some (.int r)) h2 ∧ Inv (q + 1) h2 := by
  rcases i_cases x with hx | ⟨s, hs31, rfl⟩
  · refine ⟨-1, h, h, fun Q => ?_, fun Q => ?_, up_Inv I⟩
    · simp (disch := first | with_reducible assumption | omega | exact Or.inl rfl | exact Or.inr rfl | exact bI_01 | exact c_cat | exact vt_ref | exact vt_null | rfl | with_reducible repeat (first | assumption | omega | apply S_I | apply S_L | apply S_D | apply ob_I | apply ob_L | apply ob_D | apply ob_R | apply ax_I | apply ax_L | apply ax_D | apply ax_R | apply o303 | apply o307 | apply o302 | apply o301 | apply ax304 | apply ax305 | apply ax306 | apply ax308 | apply ax309 | apply ax310 | apply lt_S | apply ar305 | apply ar308 | apply ar309)) only [g149_0, g149_1, g149_4, g149_5, g149_6, g149_9, g149_10, g149_11, g149_12, g149_15, g149_16, g149_19, g149_20, g149_23, g149_24, g149_25, g149_28, g149_29, g149_30, g149_33, g149_34, g149_37, g149_39, g149_40, g149_41, g149_42, g149_43, g149_46, g149_49, g149_50, g149_51, g149_54, g149_55, g149_56, g149_59, g149_61, g149_62, g149_63, g149_66, g149_69, g149_72, g149_74, g149_76, g149_77, g149_80, g149_83, g149_86, g149_87, g149_90, g149_91, g149_92, g149_93, g149_95, g149_98, g149_99, hx, ↓reduceIte]
    · simp (disch := first | with_reducible assumption | omega | exact Or.inl rfl | exact Or.inr rfl | exact bI_01 | exact c_cat | exact vt_ref | exact vt_null | rfl | with_reducible repeat (first | assumption | omega | apply S_I | apply S_L | apply S_D | apply ob_I | apply ob_L | apply ob_D | apply ob_R | apply ax_I | apply ax_L | apply ax_D | apply ax_R | apply o303 | apply o307 | apply o302 | apply o301 | apply ax304 | apply ax305 | apply ax306 | apply ax308 | apply ax309 | apply ax310 | apply lt_S | apply ar305 | apply ar308 | apply ar309)) only [g225_0, g225_1, g225_4, g225_5, g225_6, g225_9, g225_10, g225_11, g225_12, g225_13, g225_16, g225_17, g225_18, g225_21, g225_22, g225_25, g225_28, g225_30, g225_31, g225_34, g225_35, g225_36, g225_37, g225_40, g225_41, g225_44, g225_45, g225_46, g225_49, g225_50, g225_53, g225_54, g225_57, g225_59, g225_60, g225_61, g225_64, g225_65, g225_68, g225_69, g225_70, g225_73, g225_74, g225_77, g225_78, g225_79, g225_80, g225_81, g225_82, g225_83, g225_84, g225_87, g225_88, g225_89, g225_90, g225_91, g225_94, g225_95, g225_96, g225_99, g225_100, g225_101, g225_104, g225_105, g225_106, g225_107, g225_108, g225_111, g225_112, g225_113, g225_114, g225_115, g225_118, g225_119, g225_120, g225_121, g225_122, g225_125, g225_126, g225_127, g225_128, g225_129, g225_131, g225_132, g225_133, g225_134, g225_135, g225_136, g225_139, g225_140, g225_143, g225_144, g225_147, g225_148, g225_149, g225_150, g225_151, g225_154, hx, ↓reduceIte]
  · by_cases hs : s < 4
    · obtain ⟨S, G, ⟨t, n, T, hm2, TM⟩, -, ⟨-, cc, hcc, h7⟩, -, -, -, M, nf, fe, fX, fM, fA, nc, ce, cX, cM, cd, lab, GG⟩ := id I
      obtain ⟨g1, g2, g3, g4, g5⟩ := id GG
      have h4 := S.1
      have C0 := g2 s hs
      obtain ⟨ft, hx', r1, XR, e9, ⟨cc', hcc', c7⟩, z7, MR⟩ := rd_constant S G T hm2 TM hcc h7 hs g1 C0
      obtain ⟨KX, SX', GX', zx1, zx2⟩ := XR
      have Fe : am_fr (fun a => a = 5 ∨ a = 4) hx' (am_setI (am_setI hx' 5 1 (nI 0)) 4 13 (am_I hx' 302 9)) := fr_I (fr_I fr_refl (Or.inl rfl)) (Or.inr rfl)
      have re := x_endText (d := 103) SX'
      have SE := fr_S Fe SX'
      have GE := Gv_fr Fe (by omega) (by omega) (by omega) GX'
      have KE : kp Px1 h (am_setI (am_setI hx' 5 1 (nI 0)) 4 13 (am_I hx' 302 9)) := kp_I (kp_I (kp_mono (fun a k q => Or.inl q) KX) (Or.inr (Or.inl rfl))) (Or.inr (Or.inr ⟨rfl, rfl⟩))
      have E5 : am_I (am_setI (am_setI hx' 5 1 (nI 0)) 4 13 (am_I hx' 302 9)) 5 1 = nI 0 := by simp only [hI_I, hI_L, hI_D, hI_R, hL_I, hL_L, hL_D, hL_R, hD_I, hD_L, hD_D, hD_R, hR_I, hR_L, hR_D, ↓reduceIte, Nat.reduceEqDiff]
      have E4 : am_I (am_setI (am_setI hx' 5 1 (nI 0)) 4 13 (am_I hx' 302 9)) 4 13 = fpI ft := by rw [rI_eq]; exact e9
      have E3 : am_I (am_setI (am_setI hx' 5 1 (nI 0)) 4 13 (am_I hx' 302 9)) 302 7 = nI cc' := by rw [fr_rdI Fe (by omega)]; exact c7
      have E8 : ∀ k, am_L (am_setI (am_setI hx' 5 1 (nI 0)) 4 13 (am_I hx' 302 9)) 301 k = am_L hx' 301 k := fun k => fr_rdL Fe (by omega)
      have E9 : am_I (am_setI (am_setI hx' 5 1 (nI 0)) 4 13 (am_I hx' 302 9)) 301 9 = am_I hx' 301 9 := fr_rdI Fe (by omega)
      have ZE1 : (am_setI (am_setI hx' 5 1 (nI 0)) 4 13 (am_I hx' 302 9)).1 = h.1 := zx1
      have ZE2 : (am_setI (am_setI hx' 5 1 (nI 0)) 4 13 (am_I hx' 302 9)).2.1 = h.2.1 := zx2
      have PE : ∀ D P N F k, PXd hx' D P N F k → PXd (am_setI (am_setI hx' 5 1 (nI 0)) 4 13 (am_I hx' 302 9)) D P N F k := fun D P N F k X => PXd_fr Fe (fun a h1 h2 => by omega) X
      have run1 : ∀ Q, am_J 104 149 0 [some (.ref 4), some (.int (nI s)), none, none, none] [] h Q ↔ am_J 104 149 33 [some (.ref 4), some (.int (nI s)), some (.int (foI ft)), none, none] [] (am_setI (am_setI hx' 5 1 (nI 0)) 4 13 (am_I hx' 302 9)) Q := fun Q => by
        simp (disch := first | with_reducible assumption | omega | exact Or.inl rfl | exact Or.inr rfl | exact bI_01 | exact c_cat | exact vt_ref | exact vt_null | rfl | with_reducible repeat (first | assumption | omega | apply S_I | apply S_L | apply S_D | apply ob_I | apply ob_L | apply ob_D | apply ob_R | apply ax_I | apply ax_L | apply ax_D | apply ax_R | apply o303 | apply o307 | apply o302 | apply o301 | apply ax304 | apply ax305 | apply ax306 | apply ax308 | apply ax309 | apply ax310 | apply lt_S | apply ar305 | apply ar308 | apply ar309)) only [g149_0, g149_1, g149_4, g149_5, g149_6, g149_9, g149_10, g149_11, g149_12, g149_15, g149_16, g149_19, g149_20, g149_23, g149_24, g149_25, g149_28, g149_29, g149_30, Option.toList, List.nil_append, List.cons_append, va_rf, nI_ltI, nI_leI, nI_eq, nI_add, nI_sub, nI_lt0, nI_e0, nI_m1, m1_nI, Nat.reduceEqDiff, Nat.reduceLT, Nat.reduceLeDiff, Nat.reduceAdd, Nat.reduceSub, Nat.reduceMul, ↓reduceIte, eq_self, hs, r1 _, re _]
      generalize am_setI (am_setI hx' 5 1 (nI 0)) 4 13 (am_I hx' 302 9) = hE at SE GE KE E5 E4 E3 E8 E9 ZE1 ZE2 PE run1
      have mrun : ∀ g, am_S g → ∀ Q, am_J 104 225 0 [some (.ref 349), some (.int (nI s))] [] g Q ↔ am_J 103 192 0 [some (.ref 349), none] [] (am_setI (am_setI g 349 28 (nI 2)) 349 29 (nI s)) (fun r h' => am_J 104 225 25 [some (.ref 349), some (.int (nI s))] (r.toList ++ []) h' Q) := fun g Sg Q => by
        simp (disch := first | with_reducible assumption | omega | exact Or.inl rfl | exact Or.inr rfl | exact bI_01 | exact c_cat | exact vt_ref | exact vt_null | rfl | with_reducible repeat (first | assumption | omega | apply S_I | apply S_L | apply S_D | apply ob_I | apply ob_L | apply ob_D | apply ob_R | apply ax_I | apply ax_L | apply ax_D | apply ax_R | apply o303 | apply o307 | apply o302 | apply o301 | apply ax304 | apply ax305 | apply ax306 | apply ax308 | apply ax309 | apply ax310 | apply lt_S | apply ar305 | apply ar308 | apply ar309)) only [g225_0, g225_1, g225_4, g225_5, g225_6, g225_9, g225_10, g225_11, g225_12, g225_13, g225_16, g225_17, g225_18, g225_21, g225_22, Option.toList, List.nil_append, List.cons_append, va_rf, nI_ltI, nI_leI, nI_eq, nI_add, nI_sub, nI_lt0, nI_e0, nI_m1, m1_nI, Nat.reduceEqDiff, Nat.reduceLT, Nat.reduceLeDiff, Nat.reduceAdd, Nat.reduceSub, Nat.reduceMul, ↓reduceIte, eq_self, show s ≤ 3 by omega]
      have agE : agM2 h (am_setI (am_setI hE 349 28 (nI 2)) 349 29 (nI s)) := agM2_kp S KE (fun a k h1 h2 => by unfold Px1 rX; omega) SE GE
      -- nothing is kept
      have nokeep : ∀ (r : Int32) hm', (∀ Q, am_J 104 149 33 [some (.ref 4), some (.int (nI s)), some (.int (foI ft)), none, none] [] hE Q ↔ Q (some (.int r)) hE) → am_run 103 192 [some (.ref 349), none] (am_setI (am_setI hE 349 28 (nI 2)) 349 29 (nI s)) (some (.int (foI ft))) hm' → MRd (am_setI (am_setI hE 349 28 (nI 2)) 349 29 (nI s)) hm' ft → (∀ Q, am_J 104 225 25 [some (.ref 349), some (.int (nI s))] [.int (foI ft)] hm' Q ↔ Q (some (.int r)) hm') → ∃ r h1 h2, am_run 104 149 [some (.ref 4), some (.int (nI s)), none, none, none] h (some (.int r)) h1 ∧ am_run 104 225 [some (.ref 349), some (.int (nI s))] h1 (some (.int r)) h2 ∧ Inv (q + 1) h2 := by
        intro r hm' rx r2 MD rm
        obtain ⟨Km, Sm, Gm, zm1, zm2, m2, m22, m4⟩ := MD
        have KK : kp Prd h hm' := kp_trans (kp_mono (fun a k q => by unfold Px1 rX at q; unfold Prd rX; omega) KE) (kp_trans (kp_I (kp_I kp_refl (by unfold Prd pmt; omega)) (by unfold Prd pmt; omega)) (kp_mono (fun a k q => Or.inr (Or.inr (Or.inr q))) Km))
        have kE := fun a k (ha : a < 402) (hp : ¬ pmt a k) => (Km.2.2 a k (show a < hE.1 by omega) hp).1
        refine ⟨r, hE, hm', fun Q => ?_, fun Q => ?_, up_Inv (Inv_read I KK Sm Gm ⟨?_, ?_⟩ ?_ m2 ⟨?_, cc', hcc', ?_⟩)⟩
        · rw [run1, rx]
        · rw [mrun hE SE, r2]; exact rm Q
        · rw [zm1]; show hE.1 ≤ _; rw [ZE1]; exact M.1
        · rw [zm2]; show hE.2.1 ≤ _; rw [ZE2]; exact M.2
        · rw [kE 5 1 (by decide) (by unfold pmt; omega)]; simp only [hI_I, hI_L, hI_D, hI_R, hL_I, hL_L, hL_D, hL_R, hD_I, hD_L, hD_D, hD_R, hR_I, hR_L, hR_D, ↓reduceIte, Nat.reduceEqDiff]; exact E5
        · rw [kE 4 13 (by decide) (by unfold pmt; omega), m4]; simp only [hI_I, hI_L, hI_D, hI_R, hL_I, hL_L, hL_D, hL_R, hD_I, hD_L, hD_D, hD_R, hR_I, hR_L, hR_D, ↓reduceIte, Nat.reduceEqDiff]; exact E4
        · rw [kE 302 7 (by decide) (by unfold pmt; omega)]; simp only [hI_I, hI_L, hI_D, hI_R, hL_I, hL_L, hL_D, hL_R, hD_I, hD_L, hD_D, hD_R, hR_I, hR_L, hR_D, ↓reduceIte, Nat.reduceEqDiff]; exact E3
      match hft : ft with
      | some z =>
        obtain ⟨hm', r2, MD, -⟩ := MR _ agE (by rw [rI_k (by decide), rI_eq]) rI_eq
        obtain ⟨zn0, zn1⟩ := z7 z rfl
        have fz : ¬ z.1 = 0 := zn0
        have fe' : foI (some z) = nI z.1 := rfl
        have Sm := MD.2.1
        have m22 := MD.2.2.2.2.2.2.1
        refine nokeep (-100 - nI z.1) hm' (fun Q => ?_) r2 MD (fun Q => ?_)
        · simp (disch := first | with_reducible assumption | omega | exact Or.inl rfl | exact Or.inr rfl | exact bI_01 | exact c_cat | exact vt_ref | exact vt_null | rfl | with_reducible repeat (first | assumption | omega | apply S_I | apply S_L | apply S_D | apply ob_I | apply ob_L | apply ob_D | apply ob_R | apply ax_I | apply ax_L | apply ax_D | apply ax_R | apply o303 | apply o307 | apply o302 | apply o301 | apply ax304 | apply ax305 | apply ax306 | apply ax308 | apply ax309 | apply ax310 | apply lt_S | apply ar305 | apply ar308 | apply ar309)) only [g149_33, g149_34, g149_37, g149_39, g149_40, g149_41, fe', nI_ltI, nI_leI, nI_eq, nI_add, nI_sub, nI_lt0, nI_e0, nI_m1, m1_nI, Nat.reduceEqDiff, Nat.reduceLT, Nat.reduceLeDiff, Nat.reduceAdd, Nat.reduceSub, Nat.reduceMul, ↓reduceIte, eq_self, fz]
        · rw [fe'] at m22 ⊢
          simp (disch := first | with_reducible assumption | omega | exact Or.inl rfl | exact Or.inr rfl | exact bI_01 | exact c_cat | exact vt_ref | exact vt_null | rfl | with_reducible repeat (first | assumption | omega | apply S_I | apply S_L | apply S_D | apply ob_I | apply ob_L | apply ob_D | apply ob_R | apply ax_I | apply ax_L | apply ax_D | apply ax_R | apply o303 | apply o307 | apply o302 | apply o301 | apply ax304 | apply ax305 | apply ax306 | apply ax308 | apply ax309 | apply ax310 | apply lt_S | apply ar305 | apply ar308 | apply ar309)) only [g225_25, g225_28, g225_30, g225_31, g225_34, g225_35, Option.toList, List.nil_append, List.cons_append, va_rf, nI_ltI, nI_leI, nI_eq, nI_add, nI_sub, nI_lt0, nI_e0, nI_m1, m1_nI, Nat.reduceEqDiff, Nat.reduceLT, Nat.reduceLeDiff, Nat.reduceAdd, Nat.reduceSub, Nat.reduceMul, ↓reduceIte, eq_self, fz, m22]
      | none =>
        have f0 : foI none = nI 0 := rfl
        obtain ⟨hm0, rm0, md0, RD0⟩ := MR _ agE (by rw [rI_k (by decide), rI_eq]) rI_eq
        obtain ⟨vx, vy, own, hxy, hown, o1, o2, o3, o4, RDa⟩ := RD0 rfl
        obtain ⟨D, E, L, GL, k, m, r, b1, b2, b3, -, PXD, -, -, -⟩ := RDa
        have hle : own ≤ nc s := by rw [hown]; exact fdI_le
        have hnc5 := C0.1
        have E9' : am_I hE 301 9 = nI own := E9.trans o2
        by_cases c5 : own = 5
        · have hnc : nc s = 5 := by omega
          have Sm := md0.2.1
          have e362 : am_I hm0 362 s = nI 5 := by
            rw [(md0.1.2.2 362 s (show 362 < hE.1 by omega) (by unfold pmt; omega)).1]
            simp only [hI_I, hI_L, hI_D, hI_R, hL_I, hL_L, hL_D, hL_R, hD_I, hD_L, hD_D, hD_R, hR_I, hR_L, hR_D, ↓reduceIte, Nat.reduceEqDiff]
            rw [(KE.2.2 362 s (by omega) (by unfold Px1 rX; omega)).1, C0.2.2.1, hnc]
          refine nokeep (-2) hm0 (fun Q => ?_) rm0 md0 (fun Q => ?_)
          · rw [f0]
            rw [c5] at E9'
            simp (disch := first | with_reducible assumption | omega | exact Or.inl rfl | exact Or.inr rfl | exact bI_01 | exact c_cat | exact vt_ref | exact vt_null | rfl | with_reducible repeat (first | assumption | omega | apply S_I | apply S_L | apply S_D | apply ob_I | apply ob_L | apply ob_D | apply ob_R | apply ax_I | apply ax_L | apply ax_D | apply ax_R | apply o303 | apply o307 | apply o302 | apply o301 | apply ax304 | apply ax305 | apply ax306 | apply ax308 | apply ax309 | apply ax310 | apply lt_S | apply ar305 | apply ar308 | apply ar309)) only [g149_33, g149_34, g149_37, g149_39, g149_40, g149_41, g149_42, g149_43, g149_46, g149_49, g149_50, g149_51, g149_54, g149_55, g149_56, g149_59, g149_61, Option.toList, List.nil_append, List.cons_append, va_rf, nI_ltI, nI_leI, nI_eq, nI_add, nI_sub, nI_lt0, nI_e0, nI_m1, m1_nI, Nat.reduceEqDiff, Nat.reduceLT, Nat.reduceLeDiff, Nat.reduceAdd, Nat.reduceSub, Nat.reduceMul, ↓reduceIte, eq_self, E9', Nat.lt_irrefl]
          · rw [f0]
            rw [c5] at o4
            simp (disch := first | with_reducible assumption | omega | exact Or.inl rfl | exact Or.inr rfl | exact bI_01 | exact c_cat | exact vt_ref | exact vt_null | rfl | with_reducible repeat (first | assumption | omega | apply S_I | apply S_L | apply S_D | apply ob_I | apply ob_L | apply ob_D | apply ob_R | apply ax_I | apply ax_L | apply ax_D | apply ax_R | apply o303 | apply o307 | apply o302 | apply o301 | apply ax304 | apply ax305 | apply ax306 | apply ax308 | apply ax309 | apply ax310 | apply lt_S | apply ar305 | apply ar308 | apply ar309)) only [g225_25, g225_28, g225_30, g225_31, g225_34, g225_35, g225_36, g225_37, g225_40, g225_41, g225_44, g225_45, g225_46, g225_49, g225_50, g225_53, g225_54, g225_57, g225_59, Option.toList, List.nil_append, List.cons_append, va_rf, nI_ltI, nI_leI, nI_eq, nI_add, nI_sub, nI_lt0, nI_e0, nI_m1, m1_nI, Nat.reduceEqDiff, Nat.reduceLT, Nat.reduceLeDiff, Nat.reduceAdd, Nat.reduceSub, Nat.reduceMul, ↓reduceIte, eq_self, o4, e362]
        · have ho : own < 5 := by omega
          obtain ⟨h1, rk, Kk, Sk, Gk, COk, w9, w3, w0, w1, w2, wz1, wz2⟩ := x_ckeep (x := vx) SE GE hs ho hnc5 ((KE.2.2 (321 + 7 * s) 1 (by omega) (by unfold Px1 rX; omega)).1.trans C0.2.1) ((E8 8).trans o1) (PE _ _ _ _ _ PXD)
          have K1 : kp (Px4 s own) h h1 := kp_trans (kp_mono (fun a k q => by unfold Px1 at q; unfold Px4; rcases q with q | q | q; exact Or.inl q; exact Or.inr (Or.inl q); exact Or.inr (Or.inr (Or.inl q))) KE) (kp_mono (fun a k q => Or.inr (Or.inr (Or.inr q))) Kk)
          obtain ⟨hm', r2, MD, RD1⟩ := MR (am_setI (am_setI h1 349 28 (nI 2)) 349 29 (nI s)) (agM2_kp S K1 (fun a k h1 h2 => by unfold Px4 rX; omega) Sk Gk) (by rw [rI_k (by decide), rI_eq]) rI_eq
          obtain ⟨Km, Sm, Gm, zm1, zm2, m2, m22, m4⟩ := MD
          obtain ⟨vx', vy', own', hxy', hown', p1, p2, p3, p4, RDb⟩ := RD1 rfl
          have ex : vx' = vx := p1.symm.trans o1
          subst ex
          have ey : vy' = vy := (NM_iff hxy' hxy).mp rfl
          subst ey
          have eo : own' = own := by rw [hown', hown]
          subst eo
          obtain ⟨D', E', L', G', k', m', r', d1, d2, d3, ⟨d4, d5⟩, PX', d6, d7, d8⟩ := RDb
          obtain ⟨q1, q2, q3, q4, q5⟩ := PXd_inj PXD PX'
          have hm1' : hm'.1 = h1.1 := zm1
          have e362 : am_I hm' 362 s = nI (nc s) := by
            rw [(Km.2.2 362 s (show 362 < h1.1 by omega) (by unfold pmt; omega)).1]
            simp only [hI_I, hI_L, hI_D, hI_R, hL_I, hL_L, hL_D, hL_R, hD_I, hD_L, hD_D, hD_R, hR_I, hR_L, hR_D, ↓reduceIte, Nat.reduceEqDiff]
            rw [(K1.2.2 362 s (by omega) (by unfold Px4 rX; omega)).1]; exact C0.2.2.1
          obtain ⟨hm2', gc, Fm2, Km2, y1, y2, y3, C, runE⟩ := m_ckeep (d := 103) Sm hs ho hnc5 hle p4 e362 p3 d7 (by omega)
          have Sm2 := fr_S Fm2 Sm
          have Sgc := fr_S C.1 Sm2
          have Fz : am_fr (fun a => a = 378) gc (am_setI gc 378 s (nI 1)) := fr_I fr_refl rfl
          have rB := fun a j (ha : a < h1.1) (hne : a ≠ 349) (h2' : ¬ pmt a j) => (show am_I hm' a j = am_I h1 a j from (Km.2.2 a j ha h2').1.trans (by rw [rI_a hne, rI_a hne]))
          have z1 : ∀ a j, a < h1.1 → (a < 349 ∨ 402 ≤ a) → am_I (am_setI gc 378 s (nI 1)) a j = am_I h1 a j := fun a j ha hb => by
            rw [fr_rdI Fz (by omega), fr_rdI C.1 (by omega), fr_rdI Fm2 (by omega)]
            exact rB a j ha (by omega) (by unfold pmt; omega)
          have z2 : ∀ a j, a < h1.1 → (a < 349 ∨ 402 ≤ a) → am_L (am_setI gc 378 s (nI 1)) a j = am_L h1 a j := fun a j ha hb => by
            rw [fr_rdL Fz (by omega), fr_rdL C.1 (by omega), fr_rdL Fm2 (by omega)]
            exact (Km.2.2 a j ha (by unfold pmt; omega)).2.1 (by omega)
          have z3 : ∀ a j, a < h1.1 → (a < 349 ∨ 402 ≤ a) → am_R (am_setI gc 378 s (nI 1)) a j = am_R h1 a j := fun a j ha hb => by
            rw [fr_rdR Fz, fr_rdR C.1, fr_rdR Fm2]
            exact (Km.2.2 a j ha (by unfold pmt; omega)).2.2.2
          have z4 : (am_setI gc 378 s (nI 1)).1 = h1.1 := by
            show gc.1 = _
            rw [C.1.1, Fm2.1]; exact hm1'
          have z5 : ∀ a, a < h1.1 → am_tg (am_setI gc 378 s (nI 1)) a = am_tg h1 a := fun a ha => by
            rw [fr_tg Fz, fr_tg C.1, fr_tg Fm2]; exact Km.2.1 a ha
          have Kc : kp (Pco s own') hm2' gc := ⟨by rw [C.1.1]; exact Nat.le_refl _, fun a _ => fr_tg C.1, fun a j _ hp => by
            by_cases e : (352 ≤ a ∧ a ≤ 357) ∨ a = 364
            · unfold Pco at hp
              have nR := fr_rdR C.1 (b := a) (j := j)
              by_cases e2 : a = 356
              · subst e2
                exact ⟨C.2.2.2.2.1 j (by omega), fun _ => (C.2.2.2.2.2.2.2 j).1, fun _ q => absurd q (by omega), nR⟩
              · by_cases e3 : a = 364
                · subst e3
                  exact ⟨C.2.2.2.2.2.2.1 j (by omega), fun _ => (C.2.2.2.2.2.2.2 j).2.1, fun _ _ => (C.2.2.2.2.2.2.2 j).2.2, nR⟩
                · have := C.2.2.1 a j (by omega) (by omega) e2 (by omega)
                  exact ⟨this.1, fun _ => this.2, fun _ q => absurd q (by omega), nR⟩
            · exact ⟨fr_rdI C.1 e, fun _ => fr_rdL C.1 e, fun _ _ => fr_rdD C.1 e, fr_rdR C.1⟩⟩
          have KP : ∀ a k, pmt a k → Pco s own' a k := fun a k q => Or.inr (Or.inr (Or.inr (Or.inl q)))
          have KK : kp (Pco s own') h (am_setI gc 378 s (nI 1)) := by
            refine kp_trans (kp_mono (fun a k q => ?_) K1) (kp_trans (kp_I (kp_I kp_refl (KP _ _ (by unfold pmt; omega))) (KP _ _ (by unfold pmt; omega))) (kp_trans (kp_mono KP Km) (kp_trans (kp_mono (fun a k q => ?_) Km2) (kp_trans Kc (kp_I kp_refl ?_)))))
            · unfold Px4 at q
              unfold Pco
              rcases q with q | q | q | q | q
              · exact Or.inl q
              · exact Or.inr (Or.inl q)
              · exact Or.inr (Or.inr (Or.inl q))
              · exact Or.inr (Or.inr (Or.inr (Or.inr (Or.inl q))))
              · exact Or.inr (Or.inr (Or.inr (Or.inr (Or.inr (Or.inl q)))))
            · unfold Pco; omega
            · unfold Pco; omega
          have h1h : h.1 + 7 = h1.1 := by rw [wz1, ZE1]
          have hlt5 : ∀ a, a < 402 → a < h1.1 := fun a ha => by omega
          refine ⟨nI own', h1, am_setI gc 378 s (nI 1), fun Q => ?_, fun Q => ?_, Inv_constant (hq := Nat.le_succ q) (e0 := h.1) I GG hs ho hown hxy KK (fr_S Fz Sgc) (Gv_fr Fz (by decide) (by decide) (by decide) (Gv_fr C.1 (by decide) (by decide) (by decide) (Gv_fr Fm2 (by decide) (by decide) (by decide) Gm))) ⟨?_, ?_⟩ ?_ ?_ ⟨?_, cc', hcc', ?_⟩ (Nat.le_refl _) ?_ ?_ ?_ ?_ ?_ ?_ ?_ ?_ rI_eq ?_⟩
          · rw [run1, f0, ← rk Q]
            simp (disch := first | with_reducible assumption | omega | exact Or.inl rfl | exact Or.inr rfl | exact bI_01 | exact c_cat | exact vt_ref | exact vt_null | rfl | with_reducible repeat (first | assumption | omega | apply S_I | apply S_L | apply S_D | apply ob_I | apply ob_L | apply ob_D | apply ob_R | apply ax_I | apply ax_L | apply ax_D | apply ax_R | apply o303 | apply o307 | apply o302 | apply o301 | apply ax304 | apply ax305 | apply ax306 | apply ax308 | apply ax309 | apply ax310 | apply lt_S | apply ar305 | apply ar308 | apply ar309)) only [g149_33, g149_34, g149_37, g149_39, g149_40, g149_41, g149_42, g149_43, g149_46, g149_49, g149_50, g149_51, g149_54, g149_55, g149_56, g149_59, Option.toList, List.nil_append, List.cons_append, va_rf, nI_ltI, nI_leI, nI_eq, nI_add, nI_sub, nI_lt0, nI_e0, nI_m1, m1_nI, Nat.reduceEqDiff, Nat.reduceLT, Nat.reduceLeDiff, Nat.reduceAdd, Nat.reduceSub, Nat.reduceMul, ↓reduceIte, eq_self, E9', ho]
          · rw [mrun h1 Sk, r2, f0, ← runE Q]
            have c6 : ¬ own' = 5 := c5
            by_cases c7' : own' = nc s
            · have e362' := e362
              rw [← c7'] at e362'
              simp (disch := first | with_reducible assumption | omega | exact Or.inl rfl | exact Or.inr rfl | exact bI_01 | exact c_cat | exact vt_ref | exact vt_null | rfl | with_reducible repeat (first | assumption | omega | apply S_I | apply S_L | apply S_D | apply ob_I | apply ob_L | apply ob_D | apply ob_R | apply ax_I | apply ax_L | apply ax_D | apply ax_R | apply o303 | apply o307 | apply o302 | apply o301 | apply ax304 | apply ax305 | apply ax306 | apply ax308 | apply ax309 | apply ax310 | apply lt_S | apply ar305 | apply ar308 | apply ar309)) only [g225_25, g225_28, g225_30, g225_31, g225_34, g225_35, g225_36, g225_37, g225_40, g225_41, g225_44, g225_45, g225_46, g225_49, g225_50, g225_53, g225_54, g225_57, Option.toList, List.nil_append, List.cons_append, va_rf, nI_ltI, nI_leI, nI_eq, nI_add, nI_sub, nI_lt0, nI_e0, nI_m1, m1_nI, Nat.reduceEqDiff, Nat.reduceLT, Nat.reduceLeDiff, Nat.reduceAdd, Nat.reduceSub, Nat.reduceMul, ↓reduceIte, eq_self, p4, e362', c6]
            · simp (disch := first | with_reducible assumption | omega | exact Or.inl rfl | exact Or.inr rfl | exact bI_01 | exact c_cat | exact vt_ref | exact vt_null | rfl | with_reducible repeat (first | assumption | omega | apply S_I | apply S_L | apply S_D | apply ob_I | apply ob_L | apply ob_D | apply ob_R | apply ax_I | apply ax_L | apply ax_D | apply ax_R | apply o303 | apply o307 | apply o302 | apply o301 | apply ax304 | apply ax305 | apply ax306 | apply ax308 | apply ax309 | apply ax310 | apply lt_S | apply ar305 | apply ar308 | apply ar309)) only [g225_25, g225_28, g225_30, g225_31, g225_34, g225_35, g225_36, g225_37, g225_40, g225_41, g225_44, g225_45, g225_46, g225_49, g225_50, g225_53, g225_54, g225_57, Option.toList, List.nil_append, List.cons_append, va_rf, nI_ltI, nI_leI, nI_eq, nI_add, nI_sub, nI_lt0, nI_e0, nI_m1, m1_nI, Nat.reduceEqDiff, Nat.reduceLT, Nat.reduceLeDiff, Nat.reduceAdd, Nat.reduceSub, Nat.reduceMul, ↓reduceIte, eq_self, p4, e362, c7']
          · rw [z4, ← h1h]; have := M.1; omega
          · show gc.2.1 ≤ _
            rw [C.1.2.1, Fm2.2.1, zm2]
            exact roomB wz2 ZE2 M.2
          · rw [z1 5 1 (hlt5 _ (by decide)) (by decide), (Kk.2.2 5 1 (by omega) (by omega)).1]; exact E5
          · rw [fr_rdI Fz (by decide), fr_rdI C.1 (by decide), fr_rdI Fm2 (by decide)]; exact m2
          · rw [z1 4 13 (hlt5 _ (by decide)) (by decide), (Kk.2.2 4 13 (by omega) (by omega)).1, E4, fr_rdI Fz (by decide), fr_rdI C.1 (by decide), fr_rdI Fm2 (by decide)]; exact m4.symm
          · rw [z1 302 7 (hlt5 _ (by decide)) (by decide), (Kk.2.2 302 7 (by omega) (by omega)).1]; exact E3
          · rw [z3 _ _ (by omega) (by omega), w3, ZE1]
          · rw [z2 _ _ (by omega) (by omega), ← ZE1]; exact w9
          · rw [fr_rdL Fz (by decide), fr_rdL C.1 (by decide)]; exact y2
          · rw [z1 _ _ (by omega) (by omega)]; exact w0
          · rw [fr_rdI Fz (by decide), fr_rdI C.1 (by decide)]; exact y3
          · rw [z1 _ _ (by omega) (by omega)]; exact w1
          · rw [fr_rdI Fz (by decide), fr_rdI C.1 (by decide)]; exact y1
          · rw [z1 _ _ (by omega) (by omega)]; exact w2
          · have ht : ∀ i, i < m' → tb (am_setI gc 378 s (nI 1)) (48 * (56 + 5 * s + own')) i = tb hm' 3648 i := fun i hi => by
              have e1 : tb (am_setI gc 378 s (nI 1)) (48 * (56 + 5 * s + own')) i = tb gc (48 * (56 + 5 * s + own')) i := by
                unfold tb
                rw [fr_rdI Fz (by decide), fr_rdI Fz (by decide), fr_rdI Fz (by decide), fr_rdI Fz (by decide), fr_rdL Fz (by decide)]
              rw [e1, C.2.1 i hi]
              unfold tb
              rw [fr_rdI Fm2 (by decide), fr_rdI Fm2 (by decide), fr_rdI Fm2 (by decide), fr_rdI Fm2 (by decide), fr_rdL Fm2 (by decide)]
            have R1 := Rp_mono (Nat.le_refl _) ht (Nat.le_refl _) d4
            rw [pFm_pFK1 (own := own')] at R1
            have R2 : Rp false (1000 + own') (tb (am_setI gc 378 s (nI 1)) (48 * (56 + 5 * s + own'))) m' (pNC cM s) (pFK nf fA fM) (k' + 410) r' D' E' L' G' := R1
            have eL : L' = [] := Rp_noL (by omega) _ _ (Nat.lt_succ_self _) _ _ _ _ _ R2
            rw [eL] at R2 q3
            refine ⟨G', D', E', k', m', r', d1, d2, d3, R2, NC_T d5 ht, ?_, ?_, ?_⟩
            · rw [q1, q2, q3, q4, q5, ZE1] at COk
              refine CO_keep COk (Nat.le_of_eq z4.symm) (fun a ha1 ha2 => ⟨z5 a (by omega), fun j _ => ⟨z1 a j (by omega) (by omega), z2 a j (by omega) (by omega), z3 a j (by omega) (by omega)⟩⟩)
            · rw [fr_rdI Fz (by decide), C.2.2.2.1, fr_rdI Fm2 (by decide)]; exact d8
            · rw [fr_rdI Fz (by decide)]; exact C.2.2.2.2.2.1
    · refine ⟨-1, h, h, fun Q => ?_, fun Q => ?_, up_Inv I⟩
      · simp (disch := first | with_reducible assumption | omega | exact Or.inl rfl | exact Or.inr rfl | exact bI_01 | exact c_cat | exact vt_ref | exact vt_null | rfl | with_reducible repeat (first | assumption | omega | apply S_I | apply S_L | apply S_D | apply ob_I | apply ob_L | apply ob_D | apply ob_R | apply ax_I | apply ax_L | apply ax_D | apply ax_R | apply o303 | apply o307 | apply o302 | apply o301 | apply ax304 | apply ax305 | apply ax306 | apply ax308 | apply ax309 | apply ax310 | apply lt_S | apply ar305 | apply ar308 | apply ar309)) only [g149_0, g149_1, g149_4, g149_5, g149_6, g149_9, g149_10, g149_11, g149_12, g149_15, g149_16, g149_19, g149_20, g149_23, g149_24, g149_25, g149_28, g149_29, g149_30, g149_33, g149_34, g149_37, g149_39, g149_40, g149_41, g149_42, g149_43, g149_46, g149_49, g149_50, g149_51, g149_54, g149_55, g149_56, g149_59, g149_61, g149_62, g149_63, g149_66, g149_69, g149_72, g149_74, g149_76, g149_77, g149_80, g149_83, g149_86, g149_87, g149_90, g149_91, g149_92, g149_93, g149_95, g149_98, g149_99, nI_ltI, nI_leI, nI_eq, nI_add, nI_sub, nI_lt0, nI_e0, nI_m1, m1_nI, Nat.reduceEqDiff, Nat.reduceLT, Nat.reduceLeDiff, Nat.reduceAdd, Nat.reduceSub, Nat.reduceMul, ↓reduceIte, eq_self, hs]
      · simp (disch := first | with_reducible assumption | omega | exact Or.inl rfl | exact Or.inr rfl | exact bI_01 | exact c_cat | exact vt_ref | exact vt_null | rfl | with_reducible repeat (first | assumption | omega | apply S_I | apply S_L | apply S_D | apply ob_I | apply ob_L | apply ob_D | apply ob_R | apply ax_I | apply ax_L | apply ax_D | apply ax_R | apply o303 | apply o307 | apply o302 | apply o301 | apply ax304 | apply ax305 | apply ax306 | apply ax308 | apply ax309 | apply ax310 | apply lt_S | apply ar305 | apply ar308 | apply ar309)) only [g225_0, g225_1, g225_4, g225_5, g225_6, g225_9, g225_10, g225_11, g225_12, g225_13, g225_16, g225_17, g225_18, g225_21, g225_22, g225_25, g225_28, g225_30, g225_31, g225_34, g225_35, g225_36, g225_37, g225_40, g225_41, g225_44, g225_45, g225_46, g225_49, g225_50, g225_53, g225_54, g225_57, g225_59, g225_60, g225_61, g225_64, g225_65, g225_68, g225_69, g225_70, g225_73, g225_74, g225_77, g225_78, g225_79, g225_80, g225_81, g225_82, g225_83, g225_84, g225_87, g225_88, g225_89, g225_90, g225_91, g225_94, g225_95, g225_96, g225_99, g225_100, g225_101, g225_104, g225_105, g225_106, g225_107, g225_108, g225_111, g225_112, g225_113, g225_114, g225_115, g225_118, g225_119, g225_120, g225_121, g225_122, g225_125, g225_126, g225_127, g225_128, g225_129, g225_131, g225_132, g225_133, g225_134, g225_135, g225_136, g225_139, g225_140, g225_143, g225_144, g225_147, g225_148, g225_149, g225_150, g225_151, g225_154, nI_ltI, nI_leI, nI_eq, nI_add, nI_sub, nI_lt0, nI_e0, nI_m1, m1_nI, Nat.reduceEqDiff, Nat.reduceLT, Nat.reduceLeDiff, Nat.reduceAdd, Nat.reduceSub, Nat.reduceMul, ↓reduceIte, eq_self, show ¬ s ≤ 3 by omega]
end OCO

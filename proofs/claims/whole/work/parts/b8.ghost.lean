/-! THE INVARIANT: other names; both read a constant on one heap -/
section GHO
variable {q c s s' e : Nat} {h g : am_H} {nf nf' : Nat} {fe : Nat → Nat} {fX fM fM' : Nat → Int64} {fA fA' : Nat → Nat} {nc nc' : Nat → Nat} {ce ce' : Nat → Nat → Nat} {cX cM cX' cM' : Nat → Nat → Int64} {cd : Nat → Option (Nat × Nat)} {lab : Nat → Option Nat}
theorem CRel_txt {fn : Bool} {kn kn' : Nat} {pN pF pN' pF' : Nat → List Nat} {L : List Nat} {G : List (Nat × Nat)} (hk : kn % 1000 ≤ kn' % 1000) (hr : kn < 1000 → kn' < 1000) (hN : ∀ k, k < kn % 1000 → pN' k = pN k) (hF : ∀ z, pF z ≠ [] → pF' z = pF z) (C : CRel h e s fn kn pN pF L G) : CRel h e s fn kn' pN' pF' L G := by
  obtain ⟨D, E, k, m, r, a1, a2, a3, a4, a5⟩ := C
  exact ⟨D, E, k, m, r, a1, a2, a3, Rp_txt hk hr hN hF _ _ (Nat.lt_succ_self _) _ _ _ _ _ a4, a5⟩
theorem iE_gh (hnc : nc (c / 64) ≤ nc' (c / 64)) (h5 : nc' (c / 64) ≤ 5) (hM : ∀ k, k < nc (c / 64) → cM' (c / 64) k = cM (c / 64) k) (hF : ∀ z, pFK nf fA fM z ≠ [] → pFK nf' fA' fM' z = pFK nf fA fM z) (I : iE h c nf fM fA nc cM cd lab) : iE h c nf' fM' fA' nc' cM' cd lab := by
  obtain ⟨st, a1, a2, a3, a4, a5, a6, a10, a11, a12, a13⟩ := I
  refine ⟨st, a1, a2, a3, a4, a5, a6, a10, a11, a12, fun e s he => ?_⟩
  obtain ⟨b1, b2, b3, b4, b5, b6, b7, b8, L, G, b9⟩ := a13 e s he
  exact ⟨b1, b2, b3, b4, b5, b6, b7, b8, L, G, CRel_txt (by omega) (fun _ => by omega) (fun k hk => by unfold pNC; rw [hM k (by omega)]) hF b9⟩
theorem iC_gh (hn : nc' s = nc s) (he : ∀ i, i < nc s → ce' s i = ce s i ∧ cX' s i = cX s i ∧ cM' s i = cM s i) (hF : ∀ z, pFK nf fA fM z ≠ [] → pFK nf' fA' fM' z = pFK nf fA fM z) (I : iC h s nf fM fA nc ce cX cM lab) : iC h s nf' fM' fA' nc' ce' cX' cM' lab := by
  obtain ⟨a1, a2, a3, a4, a5, a6, a7, a8, a9, a10⟩ := I
  unfold iC
  rw [hn]
  refine ⟨a1, a2, a3, a4, a5, a6, a7, a8, a9, fun i hi => ?_⟩
  obtain ⟨b1, b2, b3, b4, b5, ⟨G, b6⟩, b7⟩ := a10 i hi
  obtain ⟨y1, y2, y3⟩ := he i hi
  rw [y1, y2, y3]
  exact ⟨b1, b2, b3, b4, b5, ⟨G, CRel_txt (Nat.le_refl _) (fun q => q) (fun k hk => by unfold pNC; rw [(he k (by omega)).2.2]) hF b6⟩, b7⟩
theorem rd_constant {t : Nat → Nat} {n cc : Nat} (S : am_S h) (G : am_Gv h) (T : tX h t n) (hm2 : am_I h 349 2 = nI n) (TM : ∀ j, j < n → am_I h 350 j = nI (t j)) (hcc : cc < 256) (h7 : am_I h 302 7 = nI cc) (hs : s < 4) (N : iN h nf fe fX fM fA lab) (C : iC h s nf fM fA nc ce cX cM lab) : ∃ ft hx', am_run 103 111 [some (.ref 301), some (.ref 5), some (.ref (321 + 7 * s)), none] h (some (.int (foI ft))) hx' ∧ XRd h hx' ∧ am_I hx' 302 9 = fpI ft ∧ (∃ c, c < 256 ∧ am_I hx' 302 7 = nI c) ∧ (∀ z, ft = some z → z.1 ≠ 0 ∧ z.1 < 100) ∧ ∀ hm, agM2 h hm → am_I hm 349 28 = nI 2 → am_I hm 349 29 = nI s → ∃ hm', am_run 103 192 [some (.ref 349), none] hm (some (.int (foI ft))) hm' ∧ MRd hm hm' ft ∧ (ft = none → ∃ x y own, NM x y ∧ own = fdI (cX s) x (nc s) ∧ am_L hx' 301 8 = x ∧ am_I hx' 301 9 = nI own ∧ am_L hm' 349 32 = y ∧ am_I hm' 349 30 = nI own ∧ RD3 1 0 own 0 nf (lN 0) (fun _ => lN 0) (cM s) fM fA hx' hm') := by
  obtain ⟨KF, KD⟩ := KN_of N
  have KR : cfR 1 0 (nc s) nf (lN 0) (lN 0) (fun _ => lN 0) (fun _ => lN 0) (cX s) (cM s) fX fM fA := ⟨fun e => absurd e (by decide), KC_of C, KF, KD⟩
  have BX0 := bX_of hs N C
  have run := fun (hm : am_H) (A : agM2 h hm) (w28 : am_I hm 349 28 = nI 2) (w29 : am_I hm 349 29 = nI s) => J_constant (hx := h) (hm := hm) S A.1 G A.2.1 T hcc h7 ((A.2.2 349 2 (by decide) (by decide) (by omega)).1.trans hm2) (fun j hj => ⟨(T.2.2 j hj).1, (T.2.2 j hj).2.1, (A.2.2 350 j (by decide) (by decide) (by omega)).1.trans (TM j hj)⟩) w28 w29 BX0 (bM_of hs A N C) KR
  have F0 : am_fr (fun a => a = 349) h (am_setI (am_setI h 349 28 (nI 2)) 349 29 (nI s)) := fr_I (fr_I fr_refl rfl) rfl
  obtain ⟨ft, hx', hm0, r1, r2, Fr, e9, c7, z7, -, -, -, -⟩ := run (am_setI (am_setI h 349 28 (nI 2)) 349 29 (nI s)) ⟨fr_S F0 S, Gv_fr F0 (by omega) (by omega) (by omega) G, fun a k h1 h2 h3 => ⟨by
    by_cases e : a = 349
    · rw [e, rI_k (h3 e).2, rI_k (h3 e).1]
    · exact fr_rdI F0 e, fun e => fr_rdL F0 e⟩⟩ (by rw [rI_k (by decide), rI_eq]) rI_eq
  refine ⟨ft, hx', r1, XRd_of S G Fr, e9, c7, z7, fun hm A w28 w29 => ?_⟩
  obtain ⟨ft2, hx2, hm', p1, p2, -, p3, -, p5, ⟨h1, h2, h3, m, q1, q2, q3, q4, q5, q6⟩, g22, g4, hR⟩ := run hm A w28 w29
  obtain ⟨er, eh⟩ := am_run_fun r1 p1
  subst eh
  have ef : foI ft = foI ft2 := by
    simp only [Option.some.injEq, Value.int.injEq] at er
    exact er
  have eg : fpI ft = fpI ft2 := e9.symm.trans p3
  refine ⟨hm', by rw [ef]; exact p2, ⟨kp_trans (kp_mb q1 q2) (kp_trans (kp_MH q4) (kp_trans (kp_MF q5) (kp_ME q6))), fr_S q6.1 (fr_S q5.1 (fr_S q4.1 (fr_S q1 A.1))), Gv_fr q6.1 (by omega) (by omega) (by omega) (Gv_fr q5.1 (by omega) (by omega) (by omega) (Gv_fr q4.1 (by omega) (by omega) (by omega) (Gv_fr q1 (by omega) (by omega) (by omega) A.2.1))), by rw [q6.1.1, q5.1.1, q4.1.1, q1.1], by rw [q6.1.2.1, q5.1.2.1, q4.1.2.1, q1.2.1], ?_, by rw [ef]; exact g22, by rw [eg]; exact g4⟩, fun e => ?_⟩
  · rw [q6.2.1 2 (by omega), q5.2.1 2 (by omega), q4.2.1 2 (by omega)]; exact q3
  · rw [e] at ef
    obtain ⟨qq, own, v1, v2, v3, v4, v5, v6, v7⟩ := hR (foI_none p5 ef.symm)
    exact ⟨_, _, own, lx_NM v1, v2, v3, v4, v5, v6, v7⟩
theorem rd_function {t : Nat → Nat} {n cc : Nat} (S : am_S h) (G : am_Gv h) (T : tX h t n) (hm2 : am_I h 349 2 = nI n) (TM : ∀ j, j < n → am_I h 350 j = nI (t j)) (hcc : cc < 256) (h7 : am_I h 302 7 = nI cc) (N : iN h nf fe fX fM fA lab) (C : iC h 0 nf fM fA nc ce cX cM lab) : ∃ ft hx', am_run 103 108 [some (.ref 301), some (.ref 5), none] h (some (.int (foI ft))) hx' ∧ XRd h hx' ∧ am_I hx' 302 9 = fpI ft ∧ (∃ c, c < 256 ∧ am_I hx' 302 7 = nI c) ∧ (∀ z, ft = some z → z.1 ≠ 0 ∧ z.1 < 100) ∧ ∀ hm, agM2 h hm → am_I hm 349 28 = nI 1 → ∃ hm', am_run 103 192 [some (.ref 349), none] hm (some (.int (foI ft))) hm' ∧ MRd hm hm' ft ∧ (ft = none → ∃ x y own na agM, NM x y ∧ own = fdI fX x nf ∧ 1 ≤ na ∧ na ≤ 3 ∧ (own < nf → fA own = na) ∧ am_L hx' 301 8 = x ∧ am_I hx' 301 9 = nI own ∧ am_I hx' 301 4 = nI na ∧ am_L hm' 349 32 = y ∧ am_I hm' 349 30 = nI own ∧ am_I hm' 349 31 = nI na ∧ RD3 2 na 0 own nf y agM (cM 0) fM fA hx' hm') := by
  obtain ⟨KF, KD⟩ := KN_of N
  have BX0 := bX_of (by decide) N C
  have run := fun (hm : am_H) (A : agM2 h hm) (w28 : am_I hm 349 28 = nI 1) => J_function (hx := h) (hm := hm) S A.1 G A.2.1 T hcc h7 ((A.2.2 349 2 (by decide) (by decide) (by omega)).1.trans hm2) (fun j hj => ⟨(T.2.2 j hj).1, (T.2.2 j hj).2.1, (A.2.2 350 j (by decide) (by decide) (by omega)).1.trans (TM j hj)⟩) w28 BX0 (bM_of (by decide) A N C) (KC_of C) KF KD
  have F0 : am_fr (fun a => a = 349) h (am_setI h 349 28 (nI 1)) := fr_I fr_refl rfl
  obtain ⟨ft, hx', hm0, r1, r2, Fr, e9, c7, z7, -, -, -, -⟩ := run (am_setI h 349 28 (nI 1)) ⟨fr_S F0 S, Gv_fr F0 (by omega) (by omega) (by omega) G, fun a k h1 h2 h3 => ⟨by
    by_cases e : a = 349
    · rw [e, rI_k (h3 e).1]
    · exact fr_rdI F0 e, fun e => fr_rdL F0 e⟩⟩ rI_eq
  refine ⟨ft, hx', r1, XRd_of1 S G Fr, e9, c7, z7, fun hm A w28 => ?_⟩
  obtain ⟨ft2, hx2, hm', p1, p2, -, p3, -, p5, ⟨h1, h2, h3, h4, m, q1, q2, q3, q4, q5, q6, q7⟩, g22, g4, hR⟩ := run hm A w28
  obtain ⟨er, eh⟩ := am_run_fun r1 p1
  subst eh
  have ef : foI ft = foI ft2 := by
    simp only [Option.some.injEq, Value.int.injEq] at er
    exact er
  have eg : fpI ft = fpI ft2 := e9.symm.trans p3
  refine ⟨hm', by rw [ef]; exact p2, ⟨kp_trans (kp_mb q1 q2) (kp_trans (kp_MH q4) (kp_trans (kp_MHF q5) (kp_trans (kp_MF q6) (kp_ME q7)))), fr_S q7.1 (fr_S q6.1 (fr_S q5.1 (fr_S q4.1 (fr_S q1 A.1)))), Gv_fr q7.1 (by omega) (by omega) (by omega) (Gv_fr q6.1 (by omega) (by omega) (by omega) (Gv_fr q5.1 (by omega) (by omega) (by omega) (Gv_fr q4.1 (by omega) (by omega) (by omega) (Gv_fr q1 (by omega) (by omega) (by omega) A.2.1)))), by rw [q7.1.1, q6.1.1, q5.1.1, q4.1.1, q1.1], by rw [q7.1.2.1, q6.1.2.1, q5.1.2.1, q4.1.2.1, q1.2.1], ?_, by rw [ef]; exact g22, by rw [eg]; exact g4⟩, fun e => ?_⟩
  · rw [q7.2.1 2 (by omega), q6.2.1 2 (by omega), q5.2.1 2 (by omega), q4.2.1 2 (by omega)]; exact q3
  · rw [e] at ef
    obtain ⟨qq, own, na, agM, v1, v2, v3, v4, v5, v6, v7, v8, v9, v10, v11, v12, v13, v14⟩ := hR (foI_none p5 ef.symm)
    exact ⟨_, _, own, na, agM, lx_NM v1, v2, v3, v4, v5, v6, v7, v8, v9, v10, v11, v14⟩
end GHO

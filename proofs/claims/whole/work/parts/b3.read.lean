/-! BOTH READ, on one heap -/
/-- what the model's reading may touch -/
def pmt (a k : Nat) : Prop := (a = 349 ∧ (k = 2 ∨ k = 4 ∨ (17 ≤ k ∧ k ≤ 32))) ∨ (((352 ≤ a ∧ a ≤ 355) ∨ a = 357) ∧ 3648 ≤ k ∧ k < 3696) ∨ (a = 356 ∧ (k = 76 ∨ 3648 ≤ k)) ∨ a = 363
section RDB
variable {h g g' : am_H} {q s : Nat}
theorem kp_arr {R : Nat → Prop} (Fr : am_fr R h g) (hR : ∀ a k, a ≠ 349 → ¬ (352 ≤ a ∧ a ≤ 357) → R a → pmt a k) (hI : ∀ k, ¬ pmt 349 k → am_I g 349 k = am_I h 349 k) (hA : ∀ a k, 352 ≤ a → a ≤ 357 → ¬ pmt a k → am_I g a k = am_I h a k ∧ am_L g a k = am_L h a k) : kp pmt h g := ⟨by rw [Fr.1]; exact Nat.le_refl _, fun a _ => fr_tg Fr, fun a k _ hp => by
  by_cases c : a = 349
  · subst c
    exact ⟨hI k hp, fun q => absurd rfl q, fun q => absurd rfl q, fr_rdR Fr⟩
  · by_cases c2 : 352 ≤ a ∧ a ≤ 357
    · have := hA a k c2.1 c2.2 hp
      exact ⟨this.1, fun _ => this.2, fun _ q => absurd q (by omega), fr_rdR Fr⟩
    · have hq : ¬ R a := fun q => hp (hR a k c c2 q)
      exact ⟨fr_rdI Fr hq, fun _ => fr_rdL Fr hq, fun _ _ => fr_rdD Fr hq, fr_rdR Fr⟩⟩
theorem kp_MF (F : MF h g 0) : kp pmt h g := kp_arr F.1 (fun a k h1 h2 h3 => by omega) (fun k hk => F.2.1 k (by unfold pmt at hk; omega)) (fun a k h1 h2 hk => F.2.2.2 a k h1 h2 (by unfold pmt at hk; omega))
theorem kp_MH (F : MH h g) : kp pmt h g := kp_arr F.1 (fun a k h1 h2 h3 => by omega) (fun k hk => F.2.1 k (by unfold pmt at hk; omega)) (fun a k h1 h2 hk => F.2.2 a k h1 h2 (by unfold pmt at hk; omega))
theorem kp_MHF (F : MHF h g) : kp pmt h g := kp_arr F.1 (fun a k h1 h2 h3 => by unfold pmt; omega) (fun k hk => F.2.1 k (by unfold pmt at hk; omega)) (fun a k h1 h2 hk => F.2.2.2 a k h1 h2 (by unfold pmt at hk; omega))
theorem kp_ME {m : Nat} (F : ME h g m) : kp pmt h g := kp_arr F.1 (fun a k h1 h2 h3 => by omega) (fun k hk => F.2.1 k (by unfold pmt at hk; omega)) (fun a k h1 h2 hk => by
  have := F.2.2.2 a k h1 h2 (by unfold pmt at hk; omega)
  exact ⟨this.1 (by unfold pmt at hk; omega), this.2⟩)
theorem kp_mb (F : am_fr (fun a => a = 349) h g) (hI : ∀ k, k ∉ [2, 4, 17, 18, 19, 20, 21, 22, 23, 25, 26, 27, 31] → am_I g 349 k = am_I h 349 k) : kp pmt h g := kp_arr F (fun a k h1 h2 h3 => absurd h3 h1) (fun k hk => hI k (by
  unfold pmt at hk
  simp only [List.mem_cons, List.not_mem_nil, or_false]
  omega)) (fun a k h1 h2 hk => ⟨fr_rdI F (by omega), fr_rdL F (by omega)⟩)
/-- what the class's reading leaves -/
def XRd (h g : am_H) : Prop := kp (fun a _ => rX a) h g ∧ am_S g ∧ am_Gv g ∧ g.1 = h.1 ∧ g.2.1 = h.2.1
theorem XRd_of {y : Option Nat} (S : am_S h) (G : am_Gv h) (Fr : am_fr rX (am_setR (am_setR h 302 0 (some 5)) 301 6 y) g) : XRd h g := by
  have S1 : am_S (am_setR (am_setR h 302 0 (some 5)) 301 6 y) := S_R (S_R S (Or.inl ⟨rfl, rfl⟩)) (Or.inr ⟨rfl, rfl⟩)
  exact ⟨kp_trans (kp_R (kp_R kp_refl (by unfold rX; omega)) (by unfold rX; omega)) (kp_fr Fr (fun a k q => q)), fr_S Fr S1, Gv_fr Fr (by unfold rX; omega) (by unfold rX; omega) (by unfold rX; omega) (Gv_R (Gv_R G (by decide)) (by decide)), Fr.1, Fr.2.1⟩
theorem XRd_of1 (S : am_S h) (G : am_Gv h) (Fr : am_fr rX (am_setR h 302 0 (some 5)) g) : XRd h g := by
  have S1 : am_S (am_setR h 302 0 (some 5)) := S_R S (Or.inl ⟨rfl, rfl⟩)
  exact ⟨kp_trans (kp_R kp_refl (by unfold rX; omega)) (kp_fr Fr (fun a k q => q)), fr_S Fr S1, Gv_fr Fr (by unfold rX; omega) (by unfold rX; omega) (by unfold rX; omega) (Gv_R G (by decide)), Fr.1, Fr.2.1⟩
/-- the model's part stands as it stood (what, sheet aside) -/
def agM2 (h g : am_H) : Prop := am_S g ∧ am_Gv g ∧ ∀ a k, 349 ≤ a → a ≤ 401 → (a = 349 → k ≠ 28 ∧ k ≠ 29) → am_I g a k = am_I h a k ∧ (a ≠ 349 → am_L g a k = am_L h a k)
theorem foI_none {ft : Option (Nat × Nat)} (hz : ∀ z, ft = some z → z.1 ≠ 0 ∧ z.1 < 100) (e : foI ft = nI 0) : ft = none := by
  match ft, hz, e with
  | none, _, _ => rfl
  | some z, hz, e =>
    exfalso
    obtain ⟨h1, h2⟩ := hz z rfl
    exact h1 ((nI_eq (by omega) (by omega)).mp (show nI z.1 = nI 0 from e))
/-- what the model's reading leaves -/
def MRd (hm hm' : am_H) (ft : Option (Nat × Nat)) : Prop := kp pmt hm hm' ∧ am_S hm' ∧ am_Gv hm' ∧ hm'.1 = hm.1 ∧ hm'.2.1 = hm.2.1 ∧ am_I hm' 349 2 = nI 0 ∧ am_I hm' 349 22 = foI ft ∧ am_I hm' 349 4 = fpI ft
section RDF
variable {nf : Nat} {fe : Nat → Nat} {fX fM : Nat → Int64} {fA : Nat → Nat} {nc : Nat → Nat} {ce : Nat → Nat → Nat} {cX cM : Nat → Nat → Int64} {lab : Nat → Option Nat}
theorem bX_of (hs : s < 4) (N : iN h nf fe fX fM fA lab) (C : iC h s nf fM fA nc ce cX cM lab) : bX h s (nc s) nf (cX s) fX fA := by
  obtain ⟨n1, n2, n3, n4, n5, n6⟩ := N
  obtain ⟨c1, c2, c3, c4, c5, c6, c7, c8, c9, c10⟩ := C
  refine ⟨hs, c1, n1, c2, fun i hi => ?_, fun i hi => ⟨fun hi2 => ?_, fun hi2 => n4 i hi2 hi⟩⟩
  · obtain ⟨z1, z2, z3, z4, z5, ⟨G, z6⟩, -⟩ := c10 i hi
    obtain ⟨D, E, k, m, r, -, -, -, -, -, q6, -, -⟩ := z6
    exact ⟨ce s i, q6.1, z1, ⟨by have := q6.2.1; omega, by rw [q6.2.2.1]⟩, z2⟩
  · obtain ⟨z1, z2, z3, z4, z5, z6, z7, z8, z9, z10, z11, pN, L, G, z12⟩ := n6 i hi2
    obtain ⟨D, E, k, m, r, -, -, -, -, -, q6, -, -⟩ := z12
    exact ⟨fe i, q6.1, z1, ⟨by have := q6.2.1; omega, by rw [q6.2.2.1]⟩, z2, z3⟩
theorem bM_of (hs : s < 4) (A : agM2 h g) (N : iN h nf fe fX fM fA lab) (C : iC h s nf fM fA nc ce cX cM lab) : bM g s (nc s) nf (cM s) fM fA := by
  obtain ⟨n1, n2, n3, n4, n5, n6⟩ := N
  obtain ⟨c1, c2, c3, c4, c5, c6, c7, c8, c9, c10⟩ := C
  obtain ⟨-, -, A⟩ := A
  refine ⟨(A 362 s (by decide) (by decide) (by omega)).1.trans c3, fun i hi => ?_, (A 349 16 (by decide) (by decide) (by omega)).1.trans n3, fun i hi => ?_⟩
  · obtain ⟨z1, z2, z3, -⟩ := c10 i hi
    exact ((A 359 (5 * s + i) (by decide) (by decide) (by omega)).2 (by decide)).trans z3
  · obtain ⟨z1, z2, z3, z4, z5, -⟩ := n6 i hi
    exact ⟨((A 358 i (by decide) (by decide) (by omega)).2 (by decide)).trans z4, (A 361 i (by decide) (by decide) (by omega)).1.trans z5⟩
theorem KN_of (N : iN h nf fe fX fM fA lab) : (∀ i, i < nf → NM (fX i) (fM i) ∧ 1 ≤ fA i ∧ fA i ≤ 3) ∧ ∀ i j, i < nf → j < nf → fX i = fX j → i = j := by
  obtain ⟨n1, n2, n3, n4, n5, n6⟩ := N
  refine ⟨fun i hi => ?_, n5⟩
  obtain ⟨z1, z2, z3, z4, z5, z6, z7, z8, -⟩ := n6 i hi
  exact ⟨z6, z7, z8⟩
theorem KC_of (C : iC h s nf fM fA nc ce cX cM lab) : ∀ i, i < nc s → NM (cX s i) (cM s i) := by
  obtain ⟨c1, c2, c3, c4, c5, c6, c7, c8, c9, c10⟩ := C
  intro i hi
  obtain ⟨z1, z2, z3, z4, -⟩ := c10 i hi
  exact z4
theorem rd_formula {t : Nat → Nat} {n cc : Nat} (S : am_S h) (G : am_Gv h) (T : tX h t n) (hm2 : am_I h 349 2 = nI n) (TM : ∀ j, j < n → am_I h 350 j = nI (t j)) (hcc : cc < 256) (h7 : am_I h 302 7 = nI cc) (hs : s < 4) (N : iN h nf fe fX fM fA lab) (C : iC h s nf fM fA nc ce cX cM lab) : ∃ ft hx', am_run 103 75 [some (.ref 301), some (.ref 5), some (.ref (321 + 7 * s))] h (some (.int (foI ft))) hx' ∧ XRd h hx' ∧ am_I hx' 302 9 = fpI ft ∧ (∃ c, c < 256 ∧ am_I hx' 302 7 = nI c) ∧ (∀ z, ft = some z → z.1 ≠ 0 ∧ z.1 < 100) ∧ ∀ hm, agM2 h hm → am_I hm 349 28 = nI 0 → am_I hm 349 29 = nI s → ∃ hm', am_run 103 192 [some (.ref 349), none] hm (some (.int (foI ft))) hm' ∧ MRd hm hm' ft ∧ (ft = none → RD3 0 0 (nc s) 0 nf (lN 0) (fun _ => lN 0) (cM s) fM fA hx' hm') := by
  obtain ⟨KF, KD⟩ := KN_of N
  have KR : cfR 0 0 (nc s) nf (lN 0) (lN 0) (fun _ => lN 0) (fun _ => lN 0) (cX s) (cM s) fX fM fA := ⟨fun e => absurd e (by decide), KC_of C, KF, KD⟩
  have BX0 := bX_of hs N C
  have run := fun (hm : am_H) (A : agM2 h hm) (w28 : am_I hm 349 28 = nI 0) (w29 : am_I hm 349 29 = nI s) => J_formula (hx := h) (hm := hm) S A.1 G A.2.1 T hcc h7 ((A.2.2 349 2 (by decide) (by decide) (by omega)).1.trans hm2) (fun j hj => ⟨(T.2.2 j hj).1, (T.2.2 j hj).2.1, (A.2.2 350 j (by decide) (by decide) (by omega)).1.trans (TM j hj)⟩) w28 w29 BX0 (bM_of hs A N C) KR
  have F0 : am_fr (fun a => a = 349) h (am_setI (am_setI h 349 28 (nI 0)) 349 29 (nI s)) := fr_I (fr_I fr_refl rfl) rfl
  obtain ⟨ft, hx', hm0, r1, r2, Fr, e9, c7, z7, -, -, -, -⟩ := run (am_setI (am_setI h 349 28 (nI 0)) 349 29 (nI s)) ⟨fr_S F0 S, Gv_fr F0 (by omega) (by omega) (by omega) G, fun a k h1 h2 h3 => ⟨by
    by_cases e : a = 349
    · rw [e, rI_k (h3 e).2, rI_k (h3 e).1]
    · exact fr_rdI F0 e, fun e => fr_rdL F0 e⟩⟩ (by rw [rI_k (by decide), rI_eq]) rI_eq
  refine ⟨ft, hx', r1, XRd_of S G Fr, e9, c7, z7, fun hm A w28 w29 => ?_⟩
  obtain ⟨ft2, hx2, hm', p1, p2, -, p3, -, p5, ⟨h1, h2, m, q1, q2, q3, q4, q5, q6⟩, g22, g4, hR⟩ := run hm A w28 w29
  obtain ⟨er, eh⟩ := am_run_fun r1 p1
  subst eh
  have ef : foI ft = foI ft2 := by
    simp only [Option.some.injEq, Value.int.injEq] at er
    exact er
  have eg : fpI ft = fpI ft2 := e9.symm.trans p3
  refine ⟨hm', by rw [ef]; exact p2, ⟨kp_trans (kp_mb q1 q2) (kp_trans (kp_MF q5) (kp_ME q6)), fr_S q6.1 (fr_S q5.1 (fr_S q1 A.1)), Gv_fr q6.1 (by omega) (by omega) (by omega) (Gv_fr q5.1 (by omega) (by omega) (by omega) (Gv_fr q1 (by omega) (by omega) (by omega) A.2.1)), by rw [q6.1.1, q5.1.1, q1.1], by rw [q6.1.2.1, q5.1.2.1, q1.2.1], ?_, by rw [ef]; exact g22, by rw [eg]; exact g4⟩, fun e => hR ?_⟩
  · rw [q6.2.1 2 (by omega), q5.2.1 2 (by omega)]; exact q4
  · rw [e] at ef
    exact foI_none p5 ef.symm
end RDF
end RDB

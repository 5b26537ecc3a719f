/-! THE OPERATIONS: type, wipe, old, count on the invariant -/
section OP2
variable {P : Nat → Nat → Prop} {d q : Nat} {h g : am_H} {Q : Option Value → am_H → Prop} {x y z : Int32} {v : Int64}
theorem kp_349 {R : Nat → Prop} (Fr : am_fr R h g) (hR : ∀ a k, a ≠ 349 → R a → P a k) (hI : ∀ k, ¬ P 349 k → am_I g 349 k = am_I h 349 k) : kp P h g := ⟨by rw [Fr.1]; exact Nat.le_refl _, fun a _ => fr_tg Fr, fun a k _ hp => by
  by_cases c : a = 349
  · subst c
    exact ⟨hI k hp, fun q => absurd rfl q, fun q => absurd rfl q, fr_rdR Fr⟩
  · have hq : ¬ R a := fun q => hp (hR a k c q)
    exact ⟨fr_rdI Fr hq, fun _ => fr_rdL Fr hq, fun _ _ => fr_rdD Fr hq, fr_rdR Fr⟩⟩
/-- what the codes, slots and cells rest on -/
def ffG (a k : Nat) : Prop := (a = 4 ∧ (k = 10 ∨ k = 11)) ∨ (a = 349 ∧ (k = 16 ∨ k = 49)) ∨ (22 ≤ a ∧ a < 278) ∨ a = 11 ∨ (321 ≤ a ∧ a ≤ 348) ∨ (((352 ≤ a ∧ a ≤ 355) ∨ a = 357) ∧ k < 3648) ∨ ((a = 356 ∨ a = 364) ∧ k < 76) ∨ a = 358 ∨ a = 359 ∨ a = 361 ∨ a = 362 ∨ (365 ≤ a ∧ a ≤ 384) ∨ 402 ≤ a
theorem iG_kp {nf : Nat} {fe : Nat → Nat} {fX fM : Nat → Int64} {fA : Nat → Nat} {nc : Nat → Nat} {ce : Nat → Nat → Nat} {cX cM : Nat → Nat → Int64} {cd : Nat → Option (Nat × Nat)} {lab : Nat → Option Nat} (K : kp P h g) (h4 : 402 ≤ h.1) (hP : ∀ a k, ffG a k → ¬ P a k) (I : iG h nf fe fX fM fA nc ce cX cM cd lab) : iG g nf fe fX fM fA nc ce cX cM cd lab := by
  obtain ⟨i1, i2, i3, i4, i5⟩ := I
  refine ⟨iN_kp K h4 (fun a k hf => hP a k ?_) i1, fun s hs => iC_kp K h4 hs (fun a k hf => hP a k ?_) (i2 s hs), fun c hc => ?_, iS_kp K h4 (fun a k hf => hP a k ?_) i4, fun a c hl => Nat.lt_of_lt_of_le (i5 a c hl) K.1⟩
  · unfold ffG
    rcases hf with hf | hf | hf | hf | hf | hf | hf | hf | hf
    · omega
    · omega
    · omega
    · omega
    · omega
    · omega
    · have := hf.1; omega
    · omega
    · omega
  · unfold ffG
    rcases hf with hf | hf | hf | hf | hf | hf | hf
    · omega
    · omega
    · omega
    · omega
    · have := hf.1; omega
    · omega
    · omega
  · have J := i3 c hc
    refine iE_kp K h4 hc (fun a k hf => hP a k ?_) J
    obtain ⟨st, -, -, -, -, -, -, -, -, -, j13⟩ := J
    unfold ffG
    rcases hf with hf | hf | hf | hf | ⟨e, s, he, hf⟩
    · omega
    · omega
    · omega
    · have := hf.1; omega
    · have := (j13 e s he).2.2.1
      omega
  · unfold ffG; omega
theorem iR_kp (K : kp P h g) (h4 : 402 ≤ h.1) (hP : ∀ a k, (a = 311 ∧ k = 10) ∨ (a = 349 ∧ k = 82) ∨ a = 316 ∨ a = 317 ∨ a = 395 → ¬ P a k) (I : iR h) : iR g := by
  obtain ⟨nr, st, rc, cy, a1, a2, a3, a4, a5, a6, a7, a8, a9, rest⟩ := I
  have R := fun a k (ha : a < 402) hf => (K.2.2 a k (by omega) (hP a k hf)).1
  exact ⟨nr, st, rc, cy, a1, (R 311 10 (by decide) (by omega)).trans a2, (R 349 82 (by decide) (by omega)).trans a3, fun i hi => (R 317 i (by decide) (by omega)).trans (a4 i hi), a5, a6, a7, fun j hj => ⟨(R 316 j (by decide) (by omega)).trans (a8 j hj).1, (a8 j hj).2⟩, fun x hx => (R 395 x (by decide) (by omega)).trans (a9 x hx), rest⟩
/-- all but text, OUT and fault -/
def iK (q : Nat) (h : am_H) : Prop := iD q h ∧ iP h ∧ iR h ∧ ∃ nf fe fX fM fA nc ce cX cM cd lab, iG h nf fe fX fM fA nc ce cX cM cd lab
def ffK (a k : Nat) : Prop := ffG a k ∨ (a = 4 ∧ k = 12) ∨ (a = 349 ∧ (k = 81 ∨ k = 82 ∨ k = 86)) ∨ a = 319 ∨ a = 320 ∨ a = 400 ∨ a = 401 ∨ (a = 311 ∧ (k = 10 ∨ k = 11)) ∨ a = 316 ∨ a = 317 ∨ a = 318 ∨ a = 394 ∨ a = 395
theorem iK_kp (K : kp P h g) (h4 : 402 ≤ h.1) (hP : ∀ a k, ffK a k → ¬ P a k) (I : iK q h) : iK q g := by
  obtain ⟨i1, i2, i3, nf, fe, fX, fM, fA, nc, ce, cX, cM, cd, lab, i4⟩ := I
  exact ⟨iD_kp (Nat.le_refl q) K h4 (fun a k hf => hP a k (by unfold ffK ffG; omega)) i1, iP_kp K h4 (fun a k hf => hP a k (Or.inr (by omega))) i2, iR_kp K h4 (fun a k hf => hP a k (Or.inr (by omega))) i3, nf, fe, fX, fM, fA, nc, ce, cX, cM, cd, lab, iG_kp K h4 (fun a k hf => hP a k (Or.inl hf)) i4⟩
theorem Inv_iff : Inv q h ↔ am_S h ∧ am_Gv h ∧ iT h ∧ iO h ∧ iF h ∧ iM q h ∧ iK q h := by
  constructor
  · rintro ⟨a1, a2, a3, a4, a5, a6, a7, a8, a9, a10⟩
    exact ⟨a1, a2, a3, a4, a5, a9, a6, a7, a8, a10⟩
  · rintro ⟨a1, a2, a3, a4, a5, a9, a6, a7, a8, a10⟩
    exact ⟨a1, a2, a3, a4, a5, a6, a7, a8, a9, a10⟩
/-- only the text has changed -/
theorem Inv_T (I : Inv q h) (K : kp (fun a k => a = 5 ∨ a = 6 ∨ (a = 349 ∧ k = 2) ∨ a = 350) h g) (S : am_S g) (G : am_Gv g) (M : iM q g) (T : iT g) : Inv q g := by
  obtain ⟨a1, a2, a3, a4, a5, a6, a7⟩ := Inv_iff.mp I
  have h4 := a1.1
  refine Inv_iff.mpr ⟨S, G, T, iO_kp K h4 (fun a k hf => by omega) a4, iF_kp K h4 (fun a k hf => by omega) a5, M, iK_kp K h4 (fun a k hf => ?_) a7⟩
  unfold ffK ffG at hf
  omega
theorem o_wipe (I : Inv q h) : ∃ r h1 h2, am_run d 140 [some (.ref 4), none] h (some (.int r)) h1 ∧ am_run d 173 [some (.ref 349), none] h1 (some (.int r)) h2 ∧ Inv q h2 := by
  obtain ⟨S, G, ⟨t, n, T, e2, e3⟩, -, -, -, -, -, M, -⟩ := id I
  have T1 := T.1
  have Fr : am_fr (fun a => a = 5 ∨ a = 349) h (am_setI (am_setI h 5 1 (nI 0)) 349 2 (nI 0)) := fr_I (fr_I fr_refl (Or.inl rfl)) (Or.inr rfl)
  have O5 : am_ob h 5 10 := am_S_ob S (by decide +kernel)
  refine ⟨nI n, am_setI h 5 1 (nI 0), am_setI (am_setI h 5 1 (nI 0)) 349 2 (nI 0), fun Q => ?_, fun Q => ?_, Inv_T I (kp_I (kp_I kp_refl (Or.inl rfl)) (Or.inr (Or.inr (Or.inl ⟨rfl, rfl⟩)))) (fr_S Fr S) (Gv_fr Fr (by omega) (by omega) (by omega) G) M ⟨t, 0, ⟨by simp only [hI_I, hI_L, hI_D, hI_R, hL_I, hL_L, hL_D, hL_R, hD_I, hD_L, hD_D, hD_R, hR_I, hR_L, hR_D, ↓reduceIte, Nat.reduceEqDiff], by decide, fun j hj => absurd hj (Nat.not_lt_zero _)⟩, rI_eq, fun j hj => absurd hj (Nat.not_lt_zero _)⟩⟩
  · simp (disch := first | with_reducible assumption | omega | exact Or.inl rfl | exact Or.inr rfl | exact bI_01 | exact c_cat | exact vt_ref | exact vt_null | rfl | with_reducible repeat (first | assumption | omega | apply S_I | apply S_L | apply S_D | apply ob_I | apply ob_L | apply ob_D | apply ob_R | apply ax_I | apply ax_L | apply ax_D | apply ax_R | apply o303 | apply o307 | apply o302 | apply o301 | apply ax304 | apply ax305 | apply ax306 | apply ax308 | apply ax309 | apply ax310 | apply lt_S | apply ar305 | apply ar308 | apply ar309)) only [g140_0, g140_1, g140_4, g140_7, g140_8, g140_9, g140_12, g140_13, g140_16, g140_17, T1]
  · have e2' : am_I (am_setI h 5 1 (nI 0)) 349 2 = nI n := by simp only [hI_I, hI_L, hI_D, hI_R, hL_I, hL_L, hL_D, hL_R, hD_I, hD_L, hD_D, hD_R, hR_I, hR_L, hR_D, ↓reduceIte, Nat.reduceEqDiff]; exact e2
    have S1 : am_S (am_setI h 5 1 (nI 0)) := S
    simp (disch := first | with_reducible assumption | omega | exact Or.inl rfl | exact Or.inr rfl | exact bI_01 | exact c_cat | exact vt_ref | exact vt_null | rfl | with_reducible repeat (first | assumption | omega | apply S_I | apply S_L | apply S_D | apply ob_I | apply ob_L | apply ob_D | apply ob_R | apply ax_I | apply ax_L | apply ax_D | apply ax_R | apply o303 | apply o307 | apply o302 | apply o301 | apply ax304 | apply ax305 | apply ax306 | apply ax308 | apply ax309 | apply ax310 | apply lt_S | apply ar305 | apply ar308 | apply ar309)) only [g173_0, g173_1, g173_4, g173_5, g173_6, g173_7, g173_10, g173_11, e2']
theorem o_type (I : Inv q h) : ∃ r h1 h2, am_run (d + 1) 139 [some (.ref 4), some (.long v), none, none, none, none] h (some (.int r)) h1 ∧ am_run d 172 [some (.ref 349), some (.long v), none, none, none, none] h1 (some (.int r)) h2 ∧ Inv q h2 := by
  obtain ⟨S, G, ⟨t, n, T, e2, e3⟩, -, -, -, -, -, M, -⟩ := id I
  have T1 := T.1
  have hn := T.2.1
  have c0 : ∀ Q, am_J (d + 1) 139 0 [some (.ref 4), some (.long v), none, none, none, none] [] h Q ↔ am_J (d + 1) 139 34 [some (.ref 4), some (.long v), none, some (.int (nI (bs v 8).length)), some (.int (nI 64)), none] [] h Q := fun Q => by
    rw [← x_cnt S 8 0 none (by decide) (by decide)]
    simp (disch := first | with_reducible assumption | omega | exact Or.inl rfl | exact Or.inr rfl | exact bI_01 | exact c_cat | exact vt_ref | exact vt_null | rfl | with_reducible repeat (first | assumption | omega | apply S_I | apply S_L | apply S_D | apply ob_I | apply ob_L | apply ob_D | apply ob_R | apply ax_I | apply ax_L | apply ax_D | apply ax_R | apply o303 | apply o307 | apply o302 | apply o301 | apply ax304 | apply ax305 | apply ax306 | apply ax308 | apply ax309 | apply ax310 | apply lt_S | apply ar305 | apply ar308 | apply ar309)) only [g139_0, g139_1, g139_2, g139_3, bs, List.length_nil, Nat.mul_zero]
  have l8 := (bs_len (v := v) 8).1
  have c1 : ∀ g, am_S g → ∀ Q, am_J d 172 0 [some (.ref 349), some (.long v), none, none, none, none] [] g Q ↔ am_J d 172 42 [some (.ref 349), some (.long v), none, some (.int (nI (bs v 8).length)), some (.int (nI 8)), none] [] g Q := fun g Sg Q => by
    rw [← m_cnt Sg 8 0 none (by decide) (by decide)]
    simp (disch := first | with_reducible assumption | omega | exact Or.inl rfl | exact Or.inr rfl | exact bI_01 | exact c_cat | exact vt_ref | exact vt_null | rfl | with_reducible repeat (first | assumption | omega | apply S_I | apply S_L | apply S_D | apply ob_I | apply ob_L | apply ob_D | apply ob_R | apply ax_I | apply ax_L | apply ax_D | apply ax_R | apply o303 | apply o307 | apply o302 | apply o301 | apply ax304 | apply ax305 | apply ax306 | apply ax308 | apply ax309 | apply ax310 | apply lt_S | apply ar305 | apply ar308 | apply ar309)) only [g172_0, g172_1, g172_2, g172_3, bs, List.length_nil]
  by_cases c : n + (bs v 8).length ≤ 240
  · have tb : tX h (tt t n (bs v 0)) (n + (bs v 0).length) := by
      refine ⟨T1, hn, fun j hj => ?_⟩
      have hj' : j < n := hj
      rw [show tt t n (bs v 0) j = t j from if_pos hj']
      exact T.2.2 j hj'
    obtain ⟨g, r1, F1, k1, T'⟩ := x_put (d := d) (x := nI (bs v 8).length) S c 8 0 none h (by decide) (by decide) fr_refl (fun _ _ => rfl) tb
    have Sg := fr_S F1 S
    obtain ⟨g', r2, F2, k2, k3, e2', e3'⟩ := m_put (d := d) (x := nI (bs v 8).length) (t := t) (n := n) Sg c 8 0 none g (by decide) (by decide) fr_refl (fun _ _ => rfl) (fun _ => ⟨rfl, rfl⟩) (by rw [fr_rdI F1 (by omega)]; exact e2) (fun j hj => by
      have hj' : j < n := hj
      rw [fr_rdI F1 (by omega), show tt t n (bs v 0) j = t j from if_pos hj']
      exact e3 j hj')
    have Sg' := fr_S F2 Sg
    have e2g : am_I g 349 2 = nI n := by rw [fr_rdI F1 (by omega)]; exact e2
    refine ⟨nI (n + (bs v 8).length), g, g', fun Q => ?_, fun Q => ?_, Inv_T I (kp_trans (kp_fr F1 (by omega)) (kp_349 F2 (by omega) (fun k hk => k2 k (by omega)))) Sg' (Gv_fr F2 (by omega) (by omega) (by omega) (Gv_fr F1 (by omega) (by omega) (by omega) G)) ?_ ⟨tt t n (bs v 8), n + (bs v 8).length, ⟨by rw [fr_rdI F2 (by omega)]; exact T'.1, T'.2.1, fun j hj => ⟨(T'.2.2 j hj).1, (T'.2.2 j hj).2.1, by rw [fr_rdI F2 (by omega)]; exact (T'.2.2 j hj).2.2⟩⟩, e2', e3'⟩⟩
    · rw [c0, ← r1 Q]
      simp (disch := first | with_reducible assumption | omega | exact Or.inl rfl | exact Or.inr rfl | exact bI_01 | exact c_cat | exact vt_ref | exact vt_null | rfl | with_reducible repeat (first | assumption | omega | apply S_I | apply S_L | apply S_D | apply ob_I | apply ob_L | apply ob_D | apply ob_R | apply ax_I | apply ax_L | apply ax_D | apply ax_R | apply o303 | apply o307 | apply o302 | apply o301 | apply ax304 | apply ax305 | apply ax306 | apply ax308 | apply ax309 | apply ax310 | apply lt_S | apply ar305 | apply ar308 | apply ar309)) only [g139_34, g139_35, g139_38, g139_41, g139_42, g139_43, g139_46, g139_49, g139_51, g139_52, g139_53, nI_ltI, nI_leI, nI_eq, nI_add, nI_sub, nI_lt0, nI_e0, nI_m1, m1_nI, Nat.reduceEqDiff, Nat.reduceLT, Nat.reduceLeDiff, Nat.reduceAdd, Nat.reduceSub, Nat.reduceMul, ↓reduceIte, eq_self, T1, c, Nat.mul_zero]
    · rw [c1 g Sg, ← r2 Q]
      simp (disch := first | with_reducible assumption | omega | exact Or.inl rfl | exact Or.inr rfl | exact bI_01 | exact c_cat | exact vt_ref | exact vt_null | rfl | with_reducible repeat (first | assumption | omega | apply S_I | apply S_L | apply S_D | apply ob_I | apply ob_L | apply ob_D | apply ob_R | apply ax_I | apply ax_L | apply ax_D | apply ax_R | apply o303 | apply o307 | apply o302 | apply o301 | apply ax304 | apply ax305 | apply ax306 | apply ax308 | apply ax309 | apply ax310 | apply lt_S | apply ar305 | apply ar308 | apply ar309)) only [g172_42, g172_43, g172_46, g172_47, g172_48, g172_51, g172_54, g172_56, g172_57, g172_58, nI_ltI, nI_leI, nI_eq, nI_add, nI_sub, nI_lt0, nI_e0, nI_m1, m1_nI, Nat.reduceEqDiff, Nat.reduceLT, Nat.reduceLeDiff, Nat.reduceAdd, Nat.reduceSub, Nat.reduceMul, ↓reduceIte, eq_self, e2g, c]
    · exact ⟨by rw [F2.1, F1.1]; exact M.1, by rw [F2.2.1, F1.2.1]; exact M.2⟩
  · refine ⟨-2, h, h, fun Q => ?_, fun Q => ?_, I⟩
    · rw [c0]
      simp (disch := first | with_reducible assumption | omega | exact Or.inl rfl | exact Or.inr rfl | exact bI_01 | exact c_cat | exact vt_ref | exact vt_null | rfl | with_reducible repeat (first | assumption | omega | apply S_I | apply S_L | apply S_D | apply ob_I | apply ob_L | apply ob_D | apply ob_R | apply ax_I | apply ax_L | apply ax_D | apply ax_R | apply o303 | apply o307 | apply o302 | apply o301 | apply ax304 | apply ax305 | apply ax306 | apply ax308 | apply ax309 | apply ax310 | apply lt_S | apply ar305 | apply ar308 | apply ar309)) only [g139_34, g139_35, g139_38, g139_41, g139_42, g139_43, g139_46, g139_49, g139_51, nI_ltI, nI_leI, nI_eq, nI_add, nI_sub, nI_lt0, nI_e0, nI_m1, m1_nI, Nat.reduceEqDiff, Nat.reduceLT, Nat.reduceLeDiff, Nat.reduceAdd, Nat.reduceSub, Nat.reduceMul, ↓reduceIte, eq_self, T1, c]
    · rw [c1 h S]
      simp (disch := first | with_reducible assumption | omega | exact Or.inl rfl | exact Or.inr rfl | exact bI_01 | exact c_cat | exact vt_ref | exact vt_null | rfl | with_reducible repeat (first | assumption | omega | apply S_I | apply S_L | apply S_D | apply ob_I | apply ob_L | apply ob_D | apply ob_R | apply ax_I | apply ax_L | apply ax_D | apply ax_R | apply o303 | apply o307 | apply o302 | apply o301 | apply ax304 | apply ax305 | apply ax306 | apply ax308 | apply ax309 | apply ax310 | apply lt_S | apply ar305 | apply ar308 | apply ar309)) only [g172_42, g172_43, g172_46, g172_47, g172_48, g172_51, g172_54, g172_56, nI_ltI, nI_leI, nI_eq, nI_add, nI_sub, nI_lt0, nI_e0, nI_m1, m1_nI, Nat.reduceEqDiff, Nat.reduceLT, Nat.reduceLeDiff, Nat.reduceAdd, Nat.reduceSub, Nat.reduceMul, ↓reduceIte, eq_self, e2, c]
end OP2

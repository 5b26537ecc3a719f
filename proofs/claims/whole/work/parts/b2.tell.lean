/-! THE OPERATIONS: whole, empty -/
theorem rfL_free2 : ∀ q ∈ am_rfL, (q.1 < 22 ∨ 300 ≤ q.1) ∧ q.1 ≠ 11 ∧ ¬ (q.1 = 9 ∧ 14 ≤ q.2.1) ∧ q.1 < 402 ∧ (q.1 < 321 ∨ 349 ≤ q.1) := by decide +kernel
theorem S_Rg {h : am_H} {a k : Nat} {x : Option Nat} (S : am_S h) (hak : (22 ≤ a ∧ a < 300) ∨ a = 11 ∨ (a = 9 ∧ 14 ≤ k) ∨ 402 ≤ a ∨ (k = 3 ∧ ∃ s i, s < 4 ∧ i < 5 ∧ a = 323 + 7 * s + i)) : am_S (am_setR h a k x) := by
  obtain ⟨s1, s2, s3, s4, s5, s6⟩ := S
  have hd : ∀ s, s < 4 → a ≠ 321 + 7 * s ∧ a ≠ 322 + 7 * s := fun s hs => by
    rcases hak with h | h | h | h | ⟨-, s', i, h1, h2, h3⟩ <;> omega
  have ho : a ≠ 10 ∧ a ≠ 16 ∧ a ≠ 300 := by
    rcases hak with h | h | h | h | ⟨-, s', i, h1, h2, h3⟩ <;> omega
  refine ⟨s1, s2, fun q hq => ?_, fun c hc => ?_, fun i hi => ?_, fun s hs => ⟨?_, ?_, fun i hi => ?_⟩⟩
  · rw [hR_R]
    have := rfL_free2 q hq
    by_cases e : q.1 = a
    · rw [if_pos e, if_neg (by rcases hak with h | h | h | h | ⟨-, s', i, h1, h2, h3⟩ <;> omega)]; exact s3 q hq
    · rw [if_neg e]; exact s3 q hq
  · rw [hR_R, if_neg (Ne.symm ho.1)]; exact s4 c hc
  · rw [hR_R, if_neg (Ne.symm ho.2.1)]; exact s5 i hi
  · rw [hR_R, if_neg (Ne.symm ho.2.2)]; exact (s6 s hs).1
  · rw [hR_R, if_neg (Ne.symm (hd s hs).1)]; exact (s6 s hs).2.1
  · rw [hR_R, if_neg (Ne.symm (hd s hs).2)]; exact (s6 s hs).2.2 i hi
section TEL
variable {d q c : Nat} {h g : am_H} {Q : Option Value → am_H → Prop} {x : Int32} {v : Int64}
def TXp (h g : am_H) (c : Nat) : Prop := kp (fun a k => (a = 22 + c ∧ (k = 3 ∨ k = 7 ∨ k = 9)) ∨ (a = 4 ∧ k = 11)) h g ∧ am_S g ∧ am_Gv g ∧ g.1 = h.1 ∧ g.2.1 = h.2.1 ∧ am_R g (22 + c) 3 = none ∧ am_R g (22 + c) 8 = am_R h (22 + c) 8 ∧ am_I g (22 + c) 7 = nI 1 ∧ am_I g (22 + c) 9 = nI 0 ∧ (am_R h (22 + c) 3 = none → am_I g 4 11 = am_I h 4 11) ∧ (am_R h (22 + c) 3 ≠ none → am_I g 4 11 = am_I h 4 11 - nI 1)
def TMp (h g : am_H) (c : Nat) : Prop := kp (fun a k => ((a = 369 ∨ a = 373 ∨ a = 375 ∨ a = 376) ∧ k = c) ∨ (a = 374 ∧ am_I h 369 c = nI k) ∨ (a = 349 ∧ k = 49)) h g ∧ am_fr (fun a => a = 349 ∨ (369 ≤ a ∧ a ≤ 376)) h g ∧ am_I g 375 c = nI 1 ∧ am_I g 376 c = nI 0 ∧ am_I g 369 c = -1 ∧ am_I g 373 c = nI 0 ∧ (am_I h 369 c = -1 → am_I g 349 49 = am_I h 349 49) ∧ (am_I h 369 c ≠ -1 → am_I g 349 49 = am_I h 349 49 - nI 1 ∧ ∀ s, am_I h 369 c = nI s → s < 48 → am_I g 374 s = nI 0)
theorem x_tell (S : am_S h) (G : am_Gv h) (hc : c < 256) : ∃ g, am_run d 143 [some (.ref 4), some (.int (nI c)), none] h (some (.ref (22 + c))) g ∧ TXp h g c := by
  have O := o22 S hc
  match hr : am_R h (22 + c) 3 with
  | none =>
    have Fr : am_fr (fun a => a = 22 + c) h (am_setI (am_setI h (22 + c) 9 (nI 0)) (22 + c) 7 (nI 1)) := fr_I (fr_I fr_refl rfl) rfl
    refine ⟨am_setI (am_setI h (22 + c) 9 (nI 0)) (22 + c) 7 (nI 1), fun Q => ?_, kp_I (kp_I kp_refl (by omega)) (by omega), S, Gv_fr Fr (by omega) (by omega) (by omega) G, rfl, rfl, hr, rfl, rI_eq, by rw [rI_k (by decide), rI_eq], fun _ => by rw [rI_a (by omega), rI_a (by omega)], fun q => absurd hr q⟩
    simp (disch := first | with_reducible assumption | omega | exact Or.inl rfl | exact Or.inr rfl | exact bI_01 | exact c_cat | exact vt_ref | exact vt_null | rfl | with_reducible repeat (first | assumption | omega | apply S_I | apply S_L | apply S_D | apply ob_I | apply ob_L | apply ob_D | apply ob_R | apply ax_I | apply ax_L | apply ax_D | apply ax_R | apply o303 | apply o307 | apply o302 | apply o301 | apply ax304 | apply ax305 | apply ax306 | apply ax308 | apply ax309 | apply ax310 | apply lt_S | apply ar305 | apply ar308 | apply ar309)) only [g143_0, g143_1, g143_4, g143_5, g143_6, g143_7, g143_8, g143_11, g143_11r, g143_11n, g143_14, g143_15, g143_16, g143_16r, g143_16n, g143_19, g143_20, g143_21, g143_24, g143_25, g143_26, g143_29, g143_30, g143_31, g143_34, g143_35, g143_36, g143_39, g143_40, g143_40r, Option.toList, List.nil_append, List.cons_append, va_rf, nI_ltI, nI_leI, nI_eq, nI_add, nI_sub, nI_lt0, nI_e0, nI_m1, m1_nI, Nat.reduceEqDiff, Nat.reduceLT, Nat.reduceLeDiff, Nat.reduceAdd, Nat.reduceSub, Nat.reduceMul, ↓reduceIte, eq_self, hr]
  | some e =>
    have S1 : am_S (am_setR h (22 + c) 3 none) := S_Rg S (by omega)
    have G1 : am_Gv (am_setR h (22 + c) 3 none) := Gv_R G (by omega)
    have Fr : am_fr (fun a => a = 22 + c ∨ a = 4) (am_setR h (22 + c) 3 none) (am_setI (am_setI (am_setI (am_setR h (22 + c) 3 none) 4 11 (am_I h 4 11 - nI 1)) (22 + c) 9 (nI 0)) (22 + c) 7 (nI 1)) := fr_I (fr_I (fr_I fr_refl (Or.inr rfl)) (Or.inl rfl)) (Or.inl rfl)
    refine ⟨am_setI (am_setI (am_setI (am_setR h (22 + c) 3 none) 4 11 (am_I h 4 11 - nI 1)) (22 + c) 9 (nI 0)) (22 + c) 7 (nI 1), fun Q => ?_, kp_I (kp_I (kp_I (kp_R kp_refl (by omega)) (by omega)) (by omega)) (by omega), S1, Gv_fr Fr (by omega) (by omega) (by omega) G1, rfl, rfl, ?_, ?_, rI_eq, by rw [rI_k (by decide), rI_eq], fun q => (by rw [hr] at q; cases q), fun _ => by rw [rI_a (by omega), rI_a (by omega), rI_eq]⟩
    · have O1 : am_ob (am_setR h (22 + c) 3 none) (22 + c) 0 := ob_R O
      simp (disch := first | with_reducible assumption | omega | exact Or.inl rfl | exact Or.inr rfl | exact bI_01 | exact c_cat | exact vt_ref | exact vt_null | rfl | with_reducible repeat (first | assumption | omega | apply S_I | apply S_L | apply S_D | apply ob_I | apply ob_L | apply ob_D | apply ob_R | apply ax_I | apply ax_L | apply ax_D | apply ax_R | apply o303 | apply o307 | apply o302 | apply o301 | apply ax304 | apply ax305 | apply ax306 | apply ax308 | apply ax309 | apply ax310 | apply lt_S | apply ar305 | apply ar308 | apply ar309)) only [g143_0, g143_1, g143_4, g143_5, g143_6, g143_7, g143_8, g143_11, g143_11r, g143_11n, g143_14, g143_15, g143_16, g143_16r, g143_16n, g143_19, g143_20, g143_21, g143_24, g143_25, g143_26, g143_29, g143_30, g143_31, g143_34, g143_35, g143_36, g143_39, g143_40, g143_40r, Option.toList, List.nil_append, List.cons_append, va_rf, nI_ltI, nI_leI, nI_eq, nI_add, nI_sub, nI_lt0, nI_e0, nI_m1, m1_nI, Nat.reduceEqDiff, Nat.reduceLT, Nat.reduceLeDiff, Nat.reduceAdd, Nat.reduceSub, Nat.reduceMul, ↓reduceIte, eq_self, hr, hI_R]
    · show am_R (am_setR h (22 + c) 3 none) (22 + c) 3 = none
      rw [hR_R, if_pos rfl, if_pos rfl]
    · show am_R (am_setR h (22 + c) 3 none) (22 + c) 8 = _
      rw [hR_R, if_pos rfl, if_neg (by decide)]
theorem m_noF (S : am_S h) (hc : c < 256) (hs : am_I h 369 c = -1 ∨ ∃ s, s < 48 ∧ am_I h 369 c = nI s) : ∃ g, am_run d 187 [some (.ref 349), some (.int (nI c))] h none g ∧ TMp h g c := by
  rcases hs with h1 | ⟨s, h1, h2⟩
  · refine ⟨am_setI (am_setI (am_setI (am_setI h 369 c (-1)) 376 c (nI 0)) 373 c (nI 0)) 375 c (nI 1), fun Q => ?_, kp_I (kp_I (kp_I (kp_I kp_refl (by omega)) (by omega)) (by omega)) (by omega), fr_I (fr_I (fr_I (fr_I fr_refl (by omega)) (by omega)) (by omega)) (by omega), rI_eq, ?_, ?_, ?_, fun _ => ?_, fun q => absurd h1 q⟩
    · simp (disch := first | with_reducible assumption | omega | exact Or.inl rfl | exact Or.inr rfl | exact bI_01 | exact c_cat | exact vt_ref | exact vt_null | rfl | with_reducible repeat (first | assumption | omega | apply S_I | apply S_L | apply S_D | apply ob_I | apply ob_L | apply ob_D | apply ob_R | apply ax_I | apply ax_L | apply ax_D | apply ax_R | apply o303 | apply o307 | apply o302 | apply o301 | apply ax304 | apply ax305 | apply ax306 | apply ax308 | apply ax309 | apply ax310 | apply lt_S | apply ar305 | apply ar308 | apply ar309)) only [g187_0, g187_1, g187_4, g187_5, g187_6, g187_7, g187_10, g187_11, g187_14, g187_15, g187_18, g187_19, g187_20, g187_21, g187_22, g187_23, g187_24, g187_27, g187_28, g187_29, g187_32, g187_33, g187_36, g187_37, g187_38, g187_39, g187_40, g187_43, g187_44, g187_45, g187_46, g187_47, g187_50, g187_51, g187_52, g187_53, g187_54, g187_57, g187_58, g187_59, g187_60, Option.toList, List.nil_append, List.cons_append, va_rf, nI_ltI, nI_leI, nI_eq, nI_add, nI_sub, nI_lt0, nI_e0, nI_m1, m1_nI, Nat.reduceEqDiff, Nat.reduceLT, Nat.reduceLeDiff, Nat.reduceAdd, Nat.reduceSub, Nat.reduceMul, ↓reduceIte, eq_self, h1]
    · simp only [hI_I, hI_L, hI_D, hI_R, hL_I, hL_L, hL_D, hL_R, hD_I, hD_L, hD_D, hD_R, hR_I, hR_L, hR_D, ↓reduceIte, Nat.reduceEqDiff]
    · simp only [hI_I, hI_L, hI_D, hI_R, hL_I, hL_L, hL_D, hL_R, hD_I, hD_L, hD_D, hD_R, hR_I, hR_L, hR_D, ↓reduceIte, Nat.reduceEqDiff]
    · simp only [hI_I, hI_L, hI_D, hI_R, hL_I, hL_L, hL_D, hL_R, hD_I, hD_L, hD_D, hD_R, hR_I, hR_L, hR_D, ↓reduceIte, Nat.reduceEqDiff]
    · simp only [hI_I, hI_L, hI_D, hI_R, hL_I, hL_L, hL_D, hL_R, hD_I, hD_L, hD_D, hD_R, hR_I, hR_L, hR_D, ↓reduceIte, Nat.reduceEqDiff]
  · have hne : am_I h 369 c ≠ -1 := by rw [h2]; exact nI_nem1 (by omega)
    refine ⟨am_setI (am_setI (am_setI (am_setI (am_setI (am_setI h 374 s (nI 0)) 349 49 (am_I h 349 49 - nI 1)) 369 c (-1)) 376 c (nI 0)) 373 c (nI 0)) 375 c (nI 1), fun Q => ?_, kp_I (kp_I (kp_I (kp_I (kp_I (kp_I kp_refl (Or.inr (Or.inl ⟨rfl, h2⟩))) (by omega)) (by omega)) (by omega)) (by omega)) (by omega), fr_I (fr_I (fr_I (fr_I (fr_I (fr_I fr_refl (by omega)) (by omega)) (by omega)) (by omega)) (by omega)) (by omega), rI_eq, ?_, ?_, ?_, fun q => absurd q hne, fun _ => ⟨?_, fun s' e hs' => ?_⟩⟩
    · have n1 : ¬ nI s = -1 := nI_nem1 (by omega)
      simp (disch := first | with_reducible assumption | omega | exact Or.inl rfl | exact Or.inr rfl | exact bI_01 | exact c_cat | exact vt_ref | exact vt_null | rfl | with_reducible repeat (first | assumption | omega | apply S_I | apply S_L | apply S_D | apply ob_I | apply ob_L | apply ob_D | apply ob_R | apply ax_I | apply ax_L | apply ax_D | apply ax_R | apply o303 | apply o307 | apply o302 | apply o301 | apply ax304 | apply ax305 | apply ax306 | apply ax308 | apply ax309 | apply ax310 | apply lt_S | apply ar305 | apply ar308 | apply ar309)) only [g187_0, g187_1, g187_4, g187_5, g187_6, g187_7, g187_10, g187_11, g187_14, g187_15, g187_18, g187_19, g187_20, g187_21, g187_22, g187_23, g187_24, g187_27, g187_28, g187_29, g187_32, g187_33, g187_36, g187_37, g187_38, g187_39, g187_40, g187_43, g187_44, g187_45, g187_46, g187_47, g187_50, g187_51, g187_52, g187_53, g187_54, g187_57, g187_58, g187_59, g187_60, Option.toList, List.nil_append, List.cons_append, va_rf, nI_ltI, nI_leI, nI_eq, nI_add, nI_sub, nI_lt0, nI_e0, nI_m1, m1_nI, Nat.reduceEqDiff, Nat.reduceLT, Nat.reduceLeDiff, Nat.reduceAdd, Nat.reduceSub, Nat.reduceMul, ↓reduceIte, eq_self, hI_I, hI_L, hI_D, hI_R, hL_I, hL_L, hL_D, hL_R, hD_I, hD_L, hD_D, hD_R, hR_I, hR_L, hR_D, ↓reduceIte, Nat.reduceEqDiff, h2, n1]
    · simp only [hI_I, hI_L, hI_D, hI_R, hL_I, hL_L, hL_D, hL_R, hD_I, hD_L, hD_D, hD_R, hR_I, hR_L, hR_D, ↓reduceIte, Nat.reduceEqDiff]
    · simp only [hI_I, hI_L, hI_D, hI_R, hL_I, hL_L, hL_D, hL_R, hD_I, hD_L, hD_D, hD_R, hR_I, hR_L, hR_D, ↓reduceIte, Nat.reduceEqDiff]
    · simp only [hI_I, hI_L, hI_D, hI_R, hL_I, hL_L, hL_D, hL_R, hD_I, hD_L, hD_D, hD_R, hR_I, hR_L, hR_D, ↓reduceIte, Nat.reduceEqDiff]
    · simp only [hI_I, hI_L, hI_D, hI_R, hL_I, hL_L, hL_D, hL_R, hD_I, hD_L, hD_D, hD_R, hR_I, hR_L, hR_D, ↓reduceIte, Nat.reduceEqDiff]
    · rw [h2] at e
      have := (nI_eq (by omega) (by omega)).mp e
      subst this
      simp only [hI_I, hI_L, hI_D, hI_R, hL_I, hL_L, hL_D, hL_R, hD_I, hD_L, hD_D, hD_R, hR_I, hR_L, hR_D, ↓reduceIte, Nat.reduceEqDiff]
theorem slot_of (I : Inv q h) (hc : c < 256) : (am_I h 369 c = -1 ∨ ∃ s, s < 48 ∧ am_I h 369 c = nI s) ∧ (am_R h (22 + c) 3 = none ↔ am_I h 369 c = -1) := by
  obtain ⟨S, G, -, -, -, -, -, -, M, nf, fe, fX, fM, fA, nc, ce, cX, cM, cd, lab, -, -, g3, -, -⟩ := I
  obtain ⟨st, -, -, -, -, -, -, -, -, j9, j10⟩ := g3 c hc
  match hcd : cd c with
  | none => exact ⟨Or.inl (j9 hcd).2.1, fun _ => (j9 hcd).2.1, fun _ => (j9 hcd).1⟩
  | some (e, s) =>
    obtain ⟨y1, y2, y3, -⟩ := j10 e s hcd
    refine ⟨Or.inr ⟨s, y3, y2⟩, ?_⟩
    rw [y1, y2]
    exact ⟨fun q => (by cases q), fun q => absurd q (nI_nem1 (by omega))⟩
theorem Inv_tell {g1 g' g2 : am_H} (I : Inv q h) (hc : c < 256) (X : TXp h g c) (F1 : am_fr (fun a => a = 22 + c) g g1) (f1 : ∀ j, j ≠ 0 → am_I g1 (22 + c) j = am_I g (22 + c) j) (Y : TMp g1 g' c) (F3 : am_fr (fun a => a = 365 ∨ a = 370 ∨ a = 371) g' g2) (f3 : ∀ a k, k ≠ c → am_I g2 a k = am_I g' a k ∧ am_L g2 a k = am_L g' a k ∧ am_D g2 a k = am_D g' a k) (V : ∃ st, st ≤ 2 ∧ iV g2 (22 + c) (am_I g2 365 c) (am_L g2 370 c) (am_D g2 371 c) (am_I g2 366 c) st) : Inv q g2 := by
  have S : am_S h := I.1
  have M := I.2.2.2.2.2.2.2.2.1
  obtain ⟨hs, hiff⟩ := slot_of I hc
  obtain ⟨K1, Sg, Gg, z1, z2, k1, k2, k3, k7, k9, k10⟩ := X
  obtain ⟨K2, F2, y1, y2, y3, y4, y5, y6⟩ := Y
  have e369 : am_I g1 369 c = am_I h 369 c := (fr_rdI F1 (by omega)).trans (K1.2.2 369 c (am_S_lt S (by decide)) (by omega)).1
  have e49 : am_I g1 349 49 = am_I h 349 49 := (fr_rdI F1 (by omega)).trans (K1.2.2 349 49 (am_S_lt S (by decide)) (by omega)).1
  rw [e369] at K2 y5 y6
  rw [e49] at y5 y6
  have KK : kp (ppl h c) h g2 := kp_trans (kp_mono (fun a k q => by unfold ppl; omega) K1) (kp_trans (kp_fr F1 (fun a k q => by unfold ppl; omega)) (kp_trans (kp_mono (fun a k q => by
      unfold ppl
      rcases q with q | q | q
      · omega
      · exact Or.inr (Or.inr (Or.inl q))
      · omega) K2) ⟨by rw [F3.1]; exact Nat.le_refl _, fun a _ => fr_tg F3, fun a k _ hp => by
        by_cases c1 : k = c
        · have ha : ¬ (a = 365 ∨ a = 370 ∨ a = 371) := fun q => hp (by unfold ppl; omega)
          exact ⟨fr_rdI F3 ha, fun _ => fr_rdL F3 ha, fun _ _ => fr_rdD F3 ha, fr_rdR F3⟩
        · exact ⟨(f3 a k c1).1, fun _ => (f3 a k c1).2.1, fun _ _ => (f3 a k c1).2.2, fr_rdR F3⟩⟩))
  have RR : ∀ a k, am_R g2 a k = am_R g a k := fun a k => (fr_rdR F3).trans ((fr_rdR F2).trans (fr_rdR F1))
  have RI : ∀ a k, a < 349 → am_I g2 a k = am_I g1 a k := fun a k ha => (fr_rdI F3 (by omega)).trans (fr_rdI F2 (by omega))
  refine Inv_plain I hc KK (fr_S F3 (fr_S F2 (fr_S F1 Sg))) (Gv_fr F3 (by omega) (by omega) (by omega) (Gv_fr F2 (by omega) (by omega) (by omega) (Gv_fr F1 (by omega) (by omega) (by omega) Gg))) ⟨?_, ?_⟩ (by rw [RR]; exact k1) (by rw [RR]; exact k2) ?_ ?_ ?_ ?_ ?_ ?_ ?_ ?_ V
  · rw [F3.1, F2.1, F1.1, z1]; exact M.1
  · rw [F3.2.1, F2.2.1, F1.2.1, z2]; exact M.2
  · rw [RI _ _ (by omega), f1 7 (by decide)]; exact k3
  · rw [fr_rdI F3 (by omega)]; exact y1
  · rw [fr_rdI F3 (by omega)]; exact y2
  · rw [fr_rdI F3 (by omega)]; exact y3
  · rw [RI _ _ (by omega), f1 9 (by decide)]; exact k7
  · rw [fr_rdI F3 (by omega)]; exact y4
  · intro q1
    rw [RI _ _ (by omega), fr_rdI F1 (by omega), fr_rdI F3 (by omega)]
    exact ⟨k9 q1, y5 (hiff.mp q1)⟩
  · intro q1
    obtain ⟨u1, u2⟩ := y6 (fun q2 => q1 (hiff.mpr q2))
    rw [RI _ _ (by omega), fr_rdI F1 (by omega), fr_rdI F3 (by omega)]
    exact ⟨k10 q1, u1, fun s h1 h2 => by rw [fr_rdI F3 (by omega)]; exact u2 s h1 h2⟩
theorem o_whole (I : Inv q h) : ∃ r h1 h2, am_run (d + 1) 141 [some (.ref 4), some (.int x), some (.long v), none] h (some (.int r)) h1 ∧ am_run (d + 1) 186 [some (.ref 349), some (.int x), some (.long v), none] h1 (some (.int r)) h2 ∧ Inv q h2 := by
  have S := I.1
  have G := I.2.1
  by_cases hx : isCl x
  · obtain ⟨c, hc, rfl⟩ := hx
    obtain ⟨hs, -⟩ := slot_of I hc
    obtain ⟨g, r1, X⟩ := x_tell (d := d) S G hc
    have Sg := X.2.1
    have Og := o22 Sg hc
    have F1 : am_fr (fun a => a = 22 + c) g (am_setL (am_setI g (22 + c) 0 (nI 1)) (22 + c) 1 v) := fr_L (fr_I fr_refl rfl) rfl
    have e369 : am_I (am_setL (am_setI g (22 + c) 0 (nI 1)) (22 + c) 1 v) 369 c = am_I h 369 c := (fr_rdI F1 (by omega)).trans (X.1.2.2 369 c (am_S_lt S (by decide)) (by omega)).1
    have Sg1 := fr_S F1 Sg
    obtain ⟨g', r2, Y⟩ := m_noF (d := d) Sg1 hc (by rw [e369]; exact hs)
    have Sg2 := fr_S Y.2.1 Sg1
    have F3 : am_fr (fun a => a = 365 ∨ a = 370 ∨ a = 371) g' (am_setL (am_setI g' 365 c (nI 1)) 370 c v) := fr_L (fr_I fr_refl (by omega)) (by omega)
    refine ⟨nI 1, am_setL (am_setI g (22 + c) 0 (nI 1)) (22 + c) 1 v, am_setL (am_setI g' 365 c (nI 1)) 370 c v, fun Q => ?_, fun Q => ?_, Inv_tell I hc X F1 (fun j hj => by rw [hI_L, rI_k hj]) Y F3 (fun a k hk => ⟨?_, ?_, rfl⟩) ⟨1, by decide, ?_, by rw [hI_L, rI_eq], fun _ => ?_, fun q => absurd q (by decide), fun q => absurd q (by decide)⟩⟩
    · simp (disch := first | with_reducible assumption | omega | exact Or.inl rfl | exact Or.inr rfl | exact bI_01 | exact c_cat | exact vt_ref | exact vt_null | rfl | with_reducible repeat (first | assumption | omega | apply S_I | apply S_L | apply S_D | apply ob_I | apply ob_L | apply ob_D | apply ob_R | apply ax_I | apply ax_L | apply ax_D | apply ax_R | apply o303 | apply o307 | apply o302 | apply o301 | apply ax304 | apply ax305 | apply ax306 | apply ax308 | apply ax309 | apply ax310 | apply lt_S | apply ar305 | apply ar308 | apply ar309)) only [g141_0, g141_1, g141_4, g141_7, g141_8, g141_9, g141_10, g141_11, g141_14, g141_15, g141_18, g141_19, g1_0, g1_1, g1_2, g1_5, g1_6, g1_7, g1_10, Option.toList, List.nil_append, List.cons_append, va_rf, x_noCellN hc, nI_ltI, nI_leI, nI_eq, nI_add, nI_sub, nI_lt0, nI_e0, nI_m1, m1_nI, Nat.reduceEqDiff, Nat.reduceLT, Nat.reduceLeDiff, Nat.reduceAdd, Nat.reduceSub, Nat.reduceMul, ↓reduceIte, eq_self, r1 _]
    · simp (disch := first | with_reducible assumption | omega | exact Or.inl rfl | exact Or.inr rfl | exact bI_01 | exact c_cat | exact vt_ref | exact vt_null | rfl | with_reducible repeat (first | assumption | omega | apply S_I | apply S_L | apply S_D | apply ob_I | apply ob_L | apply ob_D | apply ob_R | apply ax_I | apply ax_L | apply ax_D | apply ax_R | apply o303 | apply o307 | apply o302 | apply o301 | apply ax304 | apply ax305 | apply ax306 | apply ax308 | apply ax309 | apply ax310 | apply lt_S | apply ar305 | apply ar308 | apply ar309)) only [g186_0, g186_1, g186_4, g186_7, g186_8, g186_9, g186_10, g186_11, g186_14, g186_15, g186_18, g186_19, g186_20, g186_21, g186_22, g186_25, g186_26, g186_27, g186_28, g186_29, Option.toList, List.nil_append, List.cons_append, va_rf, m_isCell1 hc, nI_ltI, nI_leI, nI_eq, nI_add, nI_sub, nI_lt0, nI_e0, nI_m1, m1_nI, Nat.reduceEqDiff, Nat.reduceLT, Nat.reduceLeDiff, Nat.reduceAdd, Nat.reduceSub, Nat.reduceMul, ↓reduceIte, eq_self, r2 _]
    · rw [hI_L, hI_I]
      by_cases e : a = 365
      · rw [if_pos e, if_neg hk]
      · rw [if_neg e]
    · rw [hL_L]
      by_cases e : a = 370
      · rw [if_pos e, if_neg hk]; rfl
      · rw [if_neg e]; rfl
    · rw [fr_rdI F3 (by omega), fr_rdI Y.2.1 (by omega), hI_L, rI_eq]
    · rw [fr_rdL F3 (by omega), fr_rdL Y.2.1 (by omega), rL_eq, rL_eq]
  · refine ⟨-1, h, h, fun Q => ?_, fun Q => ?_, I⟩
    · simp (disch := first | with_reducible assumption | omega | exact Or.inl rfl | exact Or.inr rfl | exact bI_01 | exact c_cat | exact vt_ref | exact vt_null | rfl | with_reducible repeat (first | assumption | omega | apply S_I | apply S_L | apply S_D | apply ob_I | apply ob_L | apply ob_D | apply ob_R | apply ax_I | apply ax_L | apply ax_D | apply ax_R | apply o303 | apply o307 | apply o302 | apply o301 | apply ax304 | apply ax305 | apply ax306 | apply ax308 | apply ax309 | apply ax310 | apply lt_S | apply ar305 | apply ar308 | apply ar309)) only [g141_0, g141_1, g141_4, g141_7, g141_8, g141_9, g141_10, g141_11, g141_14, g141_15, g141_18, g141_19, Option.toList, List.nil_append, List.cons_append, va_rf, x_noCell1 hx, nI_ltI, nI_leI, nI_eq, nI_add, nI_sub, nI_lt0, nI_e0, nI_m1, m1_nI, Nat.reduceEqDiff, Nat.reduceLT, Nat.reduceLeDiff, Nat.reduceAdd, Nat.reduceSub, Nat.reduceMul, ↓reduceIte, eq_self]
    · simp (disch := first | with_reducible assumption | omega | exact Or.inl rfl | exact Or.inr rfl | exact bI_01 | exact c_cat | exact vt_ref | exact vt_null | rfl | with_reducible repeat (first | assumption | omega | apply S_I | apply S_L | apply S_D | apply ob_I | apply ob_L | apply ob_D | apply ob_R | apply ax_I | apply ax_L | apply ax_D | apply ax_R | apply o303 | apply o307 | apply o302 | apply o301 | apply ax304 | apply ax305 | apply ax306 | apply ax308 | apply ax309 | apply ax310 | apply lt_S | apply ar305 | apply ar308 | apply ar309)) only [g186_0, g186_1, g186_4, g186_7, g186_8, g186_9, g186_10, g186_11, g186_14, g186_15, g186_18, g186_19, g186_20, g186_21, g186_22, g186_25, g186_26, g186_27, g186_28, g186_29, Option.toList, List.nil_append, List.cons_append, va_rf, m_isCell0 hx, nI_ltI, nI_leI, nI_eq, nI_add, nI_sub, nI_lt0, nI_e0, nI_m1, m1_nI, Nat.reduceEqDiff, Nat.reduceLT, Nat.reduceLeDiff, Nat.reduceAdd, Nat.reduceSub, Nat.reduceMul, ↓reduceIte, eq_self]
theorem o_empty (I : Inv q h) : ∃ r h1 h2, am_run (d + 1) 145 [some (.ref 4), some (.int x)] h (some (.int r)) h1 ∧ am_run (d + 1) 190 [some (.ref 349), some (.int x)] h1 (some (.int r)) h2 ∧ Inv q h2 := by
  have S := I.1
  have G := I.2.1
  by_cases hx : isCl x
  · obtain ⟨c, hc, rfl⟩ := hx
    obtain ⟨hs, -⟩ := slot_of I hc
    obtain ⟨-, -, -, -, -, -, -, -, -, nf, fe, fX, fM, fA, nc, ce, cX, cM, cd, lab, -, -, g3, -, -⟩ := id I
    obtain ⟨st, s6, ⟨v1, v2, -⟩, -⟩ := g3 c hc
    have O := o22 S hc
    by_cases s0 : st = 0
    · subst s0
      refine ⟨nI 0, h, h, fun Q => ?_, fun Q => ?_, I⟩
      · simp (disch := first | with_reducible assumption | omega | exact Or.inl rfl | exact Or.inr rfl | exact bI_01 | exact c_cat | exact vt_ref | exact vt_null | rfl | with_reducible repeat (first | assumption | omega | apply S_I | apply S_L | apply S_D | apply ob_I | apply ob_L | apply ob_D | apply ob_R | apply ax_I | apply ax_L | apply ax_D | apply ax_R | apply o303 | apply o307 | apply o302 | apply o301 | apply ax304 | apply ax305 | apply ax306 | apply ax308 | apply ax309 | apply ax310 | apply lt_S | apply ar305 | apply ar308 | apply ar309)) only [g145_0, g145_1, g145_4, g145_7, g145_8, g145_9, g145_10, g145_13, g145_14, g145_15, g145_18, g145_21, g145_22, g145_23, g145_24, g145_25, g145_28, g145_29, g145_32, g145_33, Option.toList, List.nil_append, List.cons_append, va_rf, x_noCellN hc, nI_ltI, nI_leI, nI_eq, nI_add, nI_sub, nI_lt0, nI_e0, nI_m1, m1_nI, Nat.reduceEqDiff, Nat.reduceLT, Nat.reduceLeDiff, Nat.reduceAdd, Nat.reduceSub, Nat.reduceMul, ↓reduceIte, eq_self, v1]
      · simp (disch := first | with_reducible assumption | omega | exact Or.inl rfl | exact Or.inr rfl | exact bI_01 | exact c_cat | exact vt_ref | exact vt_null | rfl | with_reducible repeat (first | assumption | omega | apply S_I | apply S_L | apply S_D | apply ob_I | apply ob_L | apply ob_D | apply ob_R | apply ax_I | apply ax_L | apply ax_D | apply ax_R | apply o303 | apply o307 | apply o302 | apply o301 | apply ax304 | apply ax305 | apply ax306 | apply ax308 | apply ax309 | apply ax310 | apply lt_S | apply ar305 | apply ar308 | apply ar309)) only [g190_0, g190_1, g190_4, g190_7, g190_8, g190_9, g190_10, g190_13, g190_14, g190_15, g190_18, g190_19, g190_20, g190_21, g190_22, g190_25, g190_26, g190_29, g190_30, g190_31, g190_32, g190_33, Option.toList, List.nil_append, List.cons_append, va_rf, m_isCell1 hc, nI_ltI, nI_leI, nI_eq, nI_add, nI_sub, nI_lt0, nI_e0, nI_m1, m1_nI, Nat.reduceEqDiff, Nat.reduceLT, Nat.reduceLeDiff, Nat.reduceAdd, Nat.reduceSub, Nat.reduceMul, ↓reduceIte, eq_self, v2]
    · obtain ⟨g, r1, X⟩ := x_tell (d := d) S G hc
      have Sg := X.2.1
      have Og := o22 Sg hc
      have F1 : am_fr (fun a => a = 22 + c) g (am_setL (am_setI g (22 + c) 0 (nI 0)) (22 + c) 1 (lN 0)) := fr_L (fr_I fr_refl rfl) rfl
      have e369 : am_I (am_setL (am_setI g (22 + c) 0 (nI 0)) (22 + c) 1 (lN 0)) 369 c = am_I h 369 c := (fr_rdI F1 (by omega)).trans (X.1.2.2 369 c (am_S_lt S (by decide)) (by omega)).1
      have e365 : am_I (am_setL (am_setI g (22 + c) 0 (nI 0)) (22 + c) 1 (lN 0)) 365 c = nI st := (fr_rdI F1 (by omega)).trans ((X.1.2.2 365 c (am_S_lt S (by decide)) (by omega)).1.trans v2)
      have Sg1 := fr_S F1 Sg
      obtain ⟨g', r2, Y⟩ := m_noF (d := d) Sg1 hc (by rw [e369]; exact hs)
      have Sg2 := fr_S Y.2.1 Sg1
      have F3 : am_fr (fun a => a = 365 ∨ a = 370 ∨ a = 371) g' (am_setI g' 365 c (nI 0)) := fr_I fr_refl (by omega)
      refine ⟨nI 1, am_setL (am_setI g (22 + c) 0 (nI 0)) (22 + c) 1 (lN 0), am_setI g' 365 c (nI 0), fun Q => ?_, fun Q => ?_, Inv_tell I hc X F1 (fun j hj => by rw [hI_L, rI_k hj]) Y F3 (fun a k hk => ⟨?_, rfl, rfl⟩) ⟨0, by decide, ?_, rI_eq, fun q => absurd q (by decide), fun q => absurd q (by decide), fun q => absurd q (by decide)⟩⟩
      · simp (disch := first | with_reducible assumption | omega | exact Or.inl rfl | exact Or.inr rfl | exact bI_01 | exact c_cat | exact vt_ref | exact vt_null | rfl | with_reducible repeat (first | assumption | omega | apply S_I | apply S_L | apply S_D | apply ob_I | apply ob_L | apply ob_D | apply ob_R | apply ax_I | apply ax_L | apply ax_D | apply ax_R | apply o303 | apply o307 | apply o302 | apply o301 | apply ax304 | apply ax305 | apply ax306 | apply ax308 | apply ax309 | apply ax310 | apply lt_S | apply ar305 | apply ar308 | apply ar309)) only [g145_0, g145_1, g145_4, g145_7, g145_8, g145_9, g145_10, g145_13, g145_14, g145_15, g145_18, g145_21, g145_22, g145_23, g145_24, g145_25, g145_28, g145_29, g145_32, g145_33, g3_0, g3_1, g3_2, g3_5, g3_6, g3_7, g3_10, Option.toList, List.nil_append, List.cons_append, va_rf, x_noCellN hc, nI_ltI, nI_leI, nI_eq, nI_add, nI_sub, nI_lt0, nI_e0, nI_m1, m1_nI, Nat.reduceEqDiff, Nat.reduceLT, Nat.reduceLeDiff, Nat.reduceAdd, Nat.reduceSub, Nat.reduceMul, ↓reduceIte, eq_self, v1, s0, r1 _]
      · simp (disch := first | with_reducible assumption | omega | exact Or.inl rfl | exact Or.inr rfl | exact bI_01 | exact c_cat | exact vt_ref | exact vt_null | rfl | with_reducible repeat (first | assumption | omega | apply S_I | apply S_L | apply S_D | apply ob_I | apply ob_L | apply ob_D | apply ob_R | apply ax_I | apply ax_L | apply ax_D | apply ax_R | apply o303 | apply o307 | apply o302 | apply o301 | apply ax304 | apply ax305 | apply ax306 | apply ax308 | apply ax309 | apply ax310 | apply lt_S | apply ar305 | apply ar308 | apply ar309)) only [g190_0, g190_1, g190_4, g190_7, g190_8, g190_9, g190_10, g190_13, g190_14, g190_15, g190_18, g190_19, g190_20, g190_21, g190_22, g190_25, g190_26, g190_29, g190_30, g190_31, g190_32, g190_33, Option.toList, List.nil_append, List.cons_append, va_rf, m_isCell1 hc, nI_ltI, nI_leI, nI_eq, nI_add, nI_sub, nI_lt0, nI_e0, nI_m1, m1_nI, Nat.reduceEqDiff, Nat.reduceLT, Nat.reduceLeDiff, Nat.reduceAdd, Nat.reduceSub, Nat.reduceMul, ↓reduceIte, eq_self, e365, s0, r2 _]
      · rw [hI_I]
        by_cases e : a = 365
        · rw [if_pos e, if_neg hk]
        · rw [if_neg e]
      · rw [fr_rdI F3 (by omega), fr_rdI Y.2.1 (by omega), hI_L, rI_eq]
  · refine ⟨-1, h, h, fun Q => ?_, fun Q => ?_, I⟩
    · simp (disch := first | with_reducible assumption | omega | exact Or.inl rfl | exact Or.inr rfl | exact bI_01 | exact c_cat | exact vt_ref | exact vt_null | rfl | with_reducible repeat (first | assumption | omega | apply S_I | apply S_L | apply S_D | apply ob_I | apply ob_L | apply ob_D | apply ob_R | apply ax_I | apply ax_L | apply ax_D | apply ax_R | apply o303 | apply o307 | apply o302 | apply o301 | apply ax304 | apply ax305 | apply ax306 | apply ax308 | apply ax309 | apply ax310 | apply lt_S | apply ar305 | apply ar308 | apply ar309)) only [g145_0, g145_1, g145_4, g145_7, g145_8, g145_9, g145_10, g145_13, g145_14, g145_15, g145_18, g145_21, g145_22, g145_23, g145_24, g145_25, g145_28, g145_29, g145_32, g145_33, Option.toList, List.nil_append, List.cons_append, va_rf, x_noCell1 hx, nI_ltI, nI_leI, nI_eq, nI_add, nI_sub, nI_lt0, nI_e0, nI_m1, m1_nI, Nat.reduceEqDiff, Nat.reduceLT, Nat.reduceLeDiff, Nat.reduceAdd, Nat.reduceSub, Nat.reduceMul, ↓reduceIte, eq_self]
    · simp (disch := first | with_reducible assumption | omega | exact Or.inl rfl | exact Or.inr rfl | exact bI_01 | exact c_cat | exact vt_ref | exact vt_null | rfl | with_reducible repeat (first | assumption | omega | apply S_I | apply S_L | apply S_D | apply ob_I | apply ob_L | apply ob_D | apply ob_R | apply ax_I | apply ax_L | apply ax_D | apply ax_R | apply o303 | apply o307 | apply o302 | apply o301 | apply ax304 | apply ax305 | apply ax306 | apply ax308 | apply ax309 | apply ax310 | apply lt_S | apply ar305 | apply ar308 | apply ar309)) only [g190_0, g190_1, g190_4, g190_7, g190_8, g190_9, g190_10, g190_13, g190_14, g190_15, g190_18, g190_19, g190_20, g190_21, g190_22, g190_25, g190_26, g190_29, g190_30, g190_31, g190_32, g190_33, Option.toList, List.nil_append, List.cons_append, va_rf, m_isCell0 hx, nI_ltI, nI_leI, nI_eq, nI_add, nI_sub, nI_lt0, nI_e0, nI_m1, m1_nI, Nat.reduceEqDiff, Nat.reduceLT, Nat.reduceLeDiff, Nat.reduceAdd, Nat.reduceSub, Nat.reduceMul, ↓reduceIte, eq_self]
end TEL

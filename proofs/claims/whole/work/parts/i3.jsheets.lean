/-! RECALCULATE: all sheets' constants -/
/-- a sheet behind the working out: class and model -/
def C2 (gx gm : am_H) (s nc : Nat) : Prop := am_I gx (321 + 7 * s) 2 = nI 0 ∧ am_I gx (321 + 7 * s) 3 = am_I gm 381 s ∧ (∃ j, j ≤ 11 ∧ am_I gm 381 s = nI j) ∧ am_I gx (321 + 7 * s) 4 = am_I gm 382 s ∧ ∀ i, i < nc → ∃ st, st ≤ 3 ∧ iV gx (323 + 7 * s + i) (am_I gm 379 (5 * s + i)) (am_L gm 383 (5 * s + i)) (am_D gm 384 (5 * s + i)) (am_I gm 380 (5 * s + i)) st ∧ (am_I gm 381 s = nI 0 → st = 1 ∨ st = 2)
def pXC (a k : Nat) : Prop := ∃ s, s < 4 ∧ pXc s a k
/-- what the model changes for a sheet -/
def MFt (s : Nat) (h g : am_H) : Prop := am_fr mcA h g ∧ (∀ a k, ¬ (msK s a k ∨ (a = 382 ∧ k = s)) → am_I g a k = am_I h a k) ∧ ∀ k, ¬ (5 * s ≤ k ∧ k < 5 * s + 5) → am_L g 383 k = am_L h 383 k ∧ am_D g 384 k = am_D h 384 k
def MFC (h g : am_H) : Prop := am_fr mcA h g ∧ (∀ k, k < 56 ∨ 70 < k → am_I g 349 k = am_I h 349 k) ∧ (∀ k, k < 6144 → am_I g 372 k = am_I h 372 k) ∧ ∀ k, k < 256 → am_I g 373 k = am_I h 373 k
section JSH
variable {h g gx gm gx' gm' : am_H} {s s' nc : Nat}
theorem MFC_refl : MFC h h := ⟨fr_refl, fun _ _ => rfl, fun _ _ => rfl, fun _ _ => rfl⟩
theorem MFC_trans (A : MFC h g) (B : MFC g gx) : MFC h gx := ⟨fr_trans A.1 B.1, fun k hk => (B.2.1 k hk).trans (A.2.1 k hk), fun k hk => (B.2.2.1 k hk).trans (A.2.2.1 k hk), fun k hk => (B.2.2.2 k hk).trans (A.2.2.2 k hk)⟩
theorem MFC_of (A : MFt s h g) : MFC h g := ⟨A.1, fun k hk => A.2.1 349 k (by omega), fun k hk => A.2.1 372 k (by omega), fun k hk => A.2.1 373 k (by omega)⟩
theorem C2_keep (s4 : s < 4) (hne : s' ≠ s) (h4 : 402 ≤ gx.1) (K : kp (pXc s') gx gx') (F : MFt s' gm gm') (n5 : nc ≤ 5) (C : C2 gx gm s nc) : C2 gx' gm' s nc := by
  obtain ⟨c0, c1, c2, c3, c4⟩ := C
  have P1 : ∀ a k, 321 + 7 * s ≤ a → a < 328 + 7 * s → ¬ pXc s' a k := fun a k h1 h2 q => by unfold pXc at q; omega
  have G := fun a k h1 h2 => K.2.2 a k (by omega) (P1 a k h1 h2)
  have e381 : am_I gm' 381 s = am_I gm 381 s := F.2.1 381 s (by omega)
  have e382 : am_I gm' 382 s = am_I gm 382 s := F.2.1 382 s (by omega)
  refine ⟨(G _ 2 (by omega) (by omega)).1.trans c0, ?_, ?_, ?_, fun i hi => ?_⟩
  · rw [(G _ 3 (by omega) (by omega)).1, e381]; exact c1
  · rw [e381]; exact c2
  · rw [(G _ 4 (by omega) (by omega)).1, e382]; exact c3
  · obtain ⟨st, s1, s2, s3⟩ := c4 i hi
    refine ⟨st, s1, ?_, by rw [e381]; exact s3⟩
    have g' := fun k => G (323 + 7 * s + i) k (by omega) (by omega)
    rw [F.2.1 379 (5 * s + i) (by omega), F.2.1 380 (5 * s + i) (by omega), (F.2.2 (5 * s + i) (by omega)).1, (F.2.2 (5 * s + i) (by omega)).2]
    exact iV_eq (fun k => ⟨(g' k).1, (g' k).2.1 (by omega), (g' k).2.2.1 (by omega) (by omega)⟩) s2
theorem MFt_of (A : MFs s h g) : MFt s h g := ⟨A.1, fun a k hk => A.2.1 a k (fun q => hk (Or.inl q)), A.2.2⟩
theorem MFt_trans (A : MFt s h g) (B : MFt s g gx) : MFt s h gx := ⟨fr_trans A.1 B.1, fun a k hk => (B.2.1 a k hk).trans (A.2.1 a k hk), fun k hk => ⟨(B.2.2 k hk).1.trans (A.2.2 k hk).1, (B.2.2 k hk).2.trans (A.2.2 k hk).2⟩⟩
theorem MFt_1 {v : Int32} : MFt s h (am_setI (am_setI h 382 s v) 381 s (nI 0)) := ⟨fr_I (fr_I fr_refl (by omega)) (by omega), fun a k hk => by
  have n1 : ¬ (a = 381 ∧ k = s) := fun q => hk (Or.inl (by omega))
  have n2 : ¬ (a = 382 ∧ k = s) := fun q => hk (Or.inr q)
  by_cases c : a = 381
  · subst c; rw [rI_k (by omega), rI_a (by decide)]
  · rw [rI_a c]
    by_cases c2 : a = 382
    · subst c2; rw [rI_k (by omega)]
    · rw [rI_a c2], fun _ _ => ⟨rfl, rfl⟩⟩
theorem CSx_kp {P : Nat → Nat → Prop} {nf : Nat} {ce : Nat → Nat} {Gc : Nat → List (Nat × Nat)} (h4 : 402 ≤ gx.1) (K : kp P gx gx') (np : ∀ a k, 402 ≤ a ∨ (a = 321 + 7 * s ∧ k = 1) ∨ (323 + 7 * s ≤ a ∧ a < 328 + 7 * s ∧ k = 3) → ¬ P a k) (C : CSx gx s nc nf ce Gc) : CSx gx' s nc nf ce Gc := by
  obtain ⟨c1, c2, c3, c4⟩ := C
  refine ⟨c1, c2, (K.2.2 _ 1 (by omega) (np _ 1 (by omega))).1.trans c3, fun i hi => ?_⟩
  obtain ⟨y1, y2, y3, y4, y5⟩ := c4 i hi
  exact ⟨(K.2.2 _ 3 (by omega) (np _ 3 (by omega))).2.2.2.trans y1, y2, kp_ob K y3, (K.2.2 _ 8 y3.1 (np _ 8 (by omega))).1.trans y4, y5⟩
end JSH
section JSG
variable {d e nf : Nat} {tt : Nat → ntT} {rt : Nat → Nat} {nc : Nat → Nat} {ce : Nat → Nat → Nat} {Gc : Nat → Nat → List (Nat × Nat)} {pF : Nat → List Nat} {fe : Nat → Nat} {tl b r : Nat → Bool} {x : Int32} {v2 : Option Value}
theorem J_sheets (hd : 1350 ≤ d) (n8 : nf ≤ 8) (hb : ∀ s, s < 4 → b s = (tl s || orU (fun i => hit r (Gc s i)) (nc s))) (B : SB x r) : ∀ q s gx gm chg v4 v5 v6, 4 - s = q → s ≤ 4 → am_S gx →
    (∀ s', s' < 4 → nc s' ≤ 5 ∧ SXs gx tt rt s' (nc s') (ce s') pF fe ∧ SMs gm tt rt s' (nc s') pF ∧ CSx gx s' (nc s') nf (ce s') (Gc s')) → am_S gm → (∀ s', s' < s → C2 gx gm s' (nc s')) →
    (∀ s', s ≤ s' → s' < 4 → (b s' = false → C2 gx gm s' (nc s')) ∧ am_I gx (321 + 7 * s') 2 = bI (tl s') ∧ am_I gx (321 + 7 * s') 4 = am_I gm 382 s' ∧ am_I gm 378 s' = bI (b s')) → SB chg (fun j => decide (j < s) && b j) →
    ∃ gx' gm' chg', (∀ Q, am_J (e + 7) 156 4 [some (.ref 4), some (.int x), some (.int chg), some (.int (nI s)), v4, v5, v6] [] gx Q ↔ Q (some (.int chg')) gx') ∧ (∀ Q, am_J (d + 2) 227 10 [some (.ref 349), some (.int (nI s)), v2] [] gm Q ↔ am_J (d + 2) 227 35 [some (.ref 349), some (.int (nI 4)), v2] [] gm' Q) ∧ SB chg' (fun j => decide (j < 4) && b j) ∧ (∀ s', s' < 4 → C2 gx' gm' s' (nc s')) ∧ kp pXC gx gx' ∧ am_S gx' ∧ MFC gm gm' := by
  intro q
  induction q with
  | zero =>
    intro s gx gm chg v4 v5 v6 hq hs S H Sm C D E
    obtain rfl : s = 4 := by omega
    refine ⟨gx, gm, chg, fun Q => ?_, fun Q => ?_, E, C, kp_refl, S, MFC_refl⟩
    · rw [g156_4]
      simp (disch := first | with_reducible assumption | omega | exact Or.inl rfl | exact Or.inr rfl | exact bI_01 | exact c_cat | exact vt_ref | exact vt_null | rfl | with_reducible repeat (first | assumption | omega | apply S_I | apply S_L | apply S_D | apply ob_I | apply ob_L | apply ob_D | apply ob_R | apply ax_I | apply ax_L | apply ax_D | apply ax_R | apply o303 | apply o307 | apply o302 | apply o301 | apply ax304 | apply ax305 | apply ax306 | apply ax308 | apply ax309 | apply ax310 | apply lt_S | apply ar305 | apply ar308 | apply ar309)) only [g156_5, g156_6, g156_113, g156_114, Option.toList, List.nil_append, List.cons_append, va_rf, nI_ltI, nI_leI, nI_eq, nI_add, nI_sub, nI_lt0, nI_e0, nI_m1, m1_nI, Nat.reduceEqDiff, Nat.reduceLT, Nat.reduceLeDiff, Nat.reduceAdd, Nat.reduceSub, Nat.reduceMul, ↓reduceIte, eq_self, Nat.le_refl]
    · rw [g227_10]
      simp (disch := first | with_reducible assumption | omega | exact Or.inl rfl | exact Or.inr rfl | exact bI_01 | exact c_cat | exact vt_ref | exact vt_null | rfl | with_reducible repeat (first | assumption | omega | apply S_I | apply S_L | apply S_D | apply ob_I | apply ob_L | apply ob_D | apply ob_R | apply ax_I | apply ax_L | apply ax_D | apply ax_R | apply o303 | apply o307 | apply o302 | apply o301 | apply ax304 | apply ax305 | apply ax306 | apply ax308 | apply ax309 | apply ax310 | apply lt_S | apply ar305 | apply ar308 | apply ar309)) only [g227_11, g227_12, Option.toList, List.nil_append, List.cons_append, va_rf, nI_ltI, nI_leI, nI_eq, nI_add, nI_sub, nI_lt0, nI_e0, nI_m1, m1_nI, Nat.reduceEqDiff, Nat.reduceLT, Nat.reduceLeDiff, Nat.reduceAdd, Nat.reduceSub, Nat.reduceMul, ↓reduceIte, eq_self, Nat.le_refl]
  | succ q ih =>
    intro s gx gm chg v4 v5 v6 hq hs S H Sm C D E
    have s4 : s < 4 := by omega
    have h4 := S.1
    obtain ⟨n5, X, M, CX⟩ := H s s4
    obtain ⟨d1, d2, d3, d4⟩ := D s (Nat.le_refl _) s4
    have ic := x_isChanged (d := e + 6) S CX n8 B d2
    rw [← hb s s4] at ic
    obtain ⟨O, R, A⟩ := o321 S s4
    cases hbs : b s with
    | false =>
      rw [hbs, bI_f] at ic d4
      obtain ⟨gx', gm', chg', R1, R2, E', C', K', S', F'⟩ := ih (s + 1) gx gm chg (some (.ref (321 + 7 * s))) v5 v6 (by omega) (by omega) S H Sm (fun s' h1 => by
        by_cases es : s' = s
        · subst es; exact d1 hbs
        · exact C s' (by omega)) (fun s' h1 h2 => D s' (by omega) h2) (SB_ext E (fun j hj => by
          by_cases ej : j = s
          · subst ej; rw [hbs]; simp
          · by_cases c : j < s
            · rw [decide_eq_true c, decide_eq_true (show j < s + 1 by omega)]
            · rw [decide_eq_false c, decide_eq_false (show ¬ j < s + 1 by omega)]))
      refine ⟨gx', gm', chg', fun Q => ?_, fun Q => ?_, E', C', K', S', F'⟩
      · rw [← R1 Q, g156_4]
        simp (disch := first | with_reducible assumption | omega | exact Or.inl rfl | exact Or.inr rfl | exact bI_01 | exact c_cat | exact vt_ref | exact vt_null | rfl | with_reducible repeat (first | assumption | omega | apply S_I | apply S_L | apply S_D | apply ob_I | apply ob_L | apply ob_D | apply ob_R | apply ax_I | apply ax_L | apply ax_D | apply ax_R | apply o303 | apply o307 | apply o302 | apply o301 | apply ax304 | apply ax305 | apply ax306 | apply ax308 | apply ax309 | apply ax310 | apply lt_S | apply ar305 | apply ar308 | apply ar309)) only [g156_5, g156_6, g156_9, g156_10, g156_13, g156_14, g156_15, g156_17, g156_19, g156_20, g156_23, g156_26, g156_107, g156_110, Option.toList, List.nil_append, List.cons_append, va_rf, nI_ltI, nI_leI, nI_eq, nI_add, nI_sub, nI_lt0, nI_e0, nI_m1, m1_nI, Nat.reduceEqDiff, Nat.reduceLT, Nat.reduceLeDiff, Nat.reduceAdd, Nat.reduceSub, Nat.reduceMul, ↓reduceIte, eq_self, show ¬ 4 ≤ s by omega, ic _]
      · rw [← R2 Q, g227_10]
        simp (disch := first | with_reducible assumption | omega | exact Or.inl rfl | exact Or.inr rfl | exact bI_01 | exact c_cat | exact vt_ref | exact vt_null | rfl | with_reducible repeat (first | assumption | omega | apply S_I | apply S_L | apply S_D | apply ob_I | apply ob_L | apply ob_D | apply ob_R | apply ax_I | apply ax_L | apply ax_D | apply ax_R | apply o303 | apply o307 | apply o302 | apply o301 | apply ax304 | apply ax305 | apply ax306 | apply ax308 | apply ax309 | apply ax310 | apply lt_S | apply ar305 | apply ar308 | apply ar309)) only [g227_11, g227_12, g227_15, g227_16, g227_19, g227_20, g227_21, g227_24, g227_25, g227_26, g227_29, g227_32, Option.toList, List.nil_append, List.cons_append, va_rf, nI_ltI, nI_leI, nI_eq, nI_add, nI_sub, nI_lt0, nI_e0, nI_m1, m1_nI, Nat.reduceEqDiff, Nat.reduceLT, Nat.reduceLeDiff, Nat.reduceAdd, Nat.reduceSub, Nat.reduceMul, ↓reduceIte, eq_self, show ¬ 4 ≤ s by omega, d4]
    | true =>
      rw [hbs, bI_t] at ic d4
      obtain ⟨g1, ba, B1⟩ := x_beginAnew (d := e + 5) S s4 n5 X.2.2.1
      obtain ⟨b1, b2, b3, b4, b5, b6, b7⟩ := B1
      have S1 := fr_S b1 S
      have Sm1 : am_S (am_setI (am_setI gm 382 s (am_I gm 382 s + nI 1)) 381 s (nI 0)) := Sm
      have Fm1 : MFt s gm (am_setI (am_setI gm 382 s (am_I gm 382 s + nI 1)) 381 s (nI 0)) := MFt_1
      have X1 : SXs g1 tt rt s (nc s) (ce s) pF fe := SXs_kp s4 n5 b7 S1 (fun a k hf => by unfold pXc; omega) X
      have M1 := SMs_fr Fm1.1 (fun a ha => by omega) M
      obtain ⟨g2, gm2, sp, v5', v6', R1, R2, J2, K2, S2, F2⟩ := J_consts (d := d) (e := e) (x1 := some (.int x)) (x2 := some (.int (chg ||| (nI 1 <<< (nI s &&& 31))))) s4 n5 hd (nc s) 0 g1 _ v6 none (Nat.sub_zero _) (Nat.zero_le _) X1 M1 ⟨b4, rI_eq, by decide, fun j hj => absurd hj (Nat.not_lt_zero _), fun j _ h2 => b6 j h2⟩
      have K12 : kp (pXc s) gx g2 := kp_trans b7 (kp_mono (fun a k q => by unfold pXd at q; unfold pXc; omega) K2)
      have F12 : MFt s gm gm2 := MFt_trans Fm1 (MFt_of F2)
      obtain ⟨j1, j2, j3, j4, j5⟩ := J2
      have C2s : C2 g2 gm2 s (nc s) := by
        have h41 := S1.1
        refine ⟨?_, j1.trans j2.symm, ⟨sp, j3, j2⟩, ?_, fun i hi => ?_⟩
        · exact (K2.2.2 _ 2 (by omega) (by unfold pXd; omega)).1.trans b3
        · rw [(K2.2.2 _ 4 (by omega) (by unfold pXd; omega)).1, b5, d3, F2.2.1 382 s (by omega), rI_a (by decide), rI_eq]
        · obtain ⟨st, q1, q2, q3⟩ := j4 i hi
          refine ⟨st, q1, q2, fun e0 => q3 ?_⟩
          rw [j2] at e0
          exact (nI_eq (by omega) (by omega)).mp e0
      obtain ⟨gx', gm', chg', R3, R4, E', C', K', S', F'⟩ := ih (s + 1) g2 gm2 (chg ||| (nI 1 <<< (nI s &&& 31))) (some (.ref (321 + 7 * s))) v5' v6' (by omega) (by omega) S2 (fun s' hs' => by
          obtain ⟨a1, a2, a3, a4⟩ := H s' hs'
          exact ⟨a1, SXs_kp hs' a1 K12 S2 (fun a k hf => by unfold pXc; omega) a2, SMs_fr F12.1 (fun a ha => by omega) a3, CSx_kp h4 K12 (fun a k hf => by unfold pXc; omega) a4⟩) (fr_S F12.1 Sm) (fun s' h1 => by
          by_cases es : s' = s
          · subst es; exact C2s
          · exact C2_keep (by omega) (by omega) h4 K12 F12 (H s' (by omega)).1 (C s' (by omega))) (fun s' h1 h2 => by
          obtain ⟨a1, a2, a3, a4⟩ := D s' (by omega) h2
          have np : ∀ k, ¬ pXc s (321 + 7 * s') k := fun k q => by unfold pXc at q; omega
          refine ⟨fun q => C2_keep h2 (by omega) h4 K12 F12 (H s' h2).1 (a1 q), (K12.2.2 _ 2 (by omega) (np 2)).1.trans a2, ?_, (F12.2.1 378 s' (by omega)).trans a4⟩
          rw [(K12.2.2 _ 4 (by omega) (np 4)).1, F12.2.1 382 s' (by omega)]; exact a3) (SB_ext (SB_or E (by omega)) (fun j hj => by
          by_cases ej : j = s
          · subst ej; rw [hbs]; simp
          · by_cases c : j < s
            · rw [decide_eq_true c, decide_eq_true (show j < s + 1 by omega), decide_eq_false ej, Bool.or_false]
            · rw [decide_eq_false c, decide_eq_false (show ¬ j < s + 1 by omega), decide_eq_false ej]; rfl))
      refine ⟨gx', gm', chg', fun Q => ?_, fun Q => ?_, E', C', kp_trans (kp_mono (fun a k q => ⟨s, s4, q⟩) K12) K', S', MFC_trans (MFC_of F12) F'⟩
      · rw [← R3 Q]
        have st : am_J (e + 7) 156 4 [some (.ref 4), some (.int x), some (.int chg), some (.int (nI s)), v4, v5, v6] [] gx Q ↔ am_J (e + 7) 156 43 [some (.ref 4), some (.int x), some (.int (chg ||| (nI 1 <<< (nI s &&& 31)))), some (.int (nI s)), some (.ref (321 + 7 * s)), some (.int (nI 0)), v6] [] g1 Q := by
          rw [g156_4]
          simp (disch := first | with_reducible assumption | omega | exact Or.inl rfl | exact Or.inr rfl | exact bI_01 | exact c_cat | exact vt_ref | exact vt_null | rfl | with_reducible repeat (first | assumption | omega | apply S_I | apply S_L | apply S_D | apply ob_I | apply ob_L | apply ob_D | apply ob_R | apply ax_I | apply ax_L | apply ax_D | apply ax_R | apply o303 | apply o307 | apply o302 | apply o301 | apply ax304 | apply ax305 | apply ax306 | apply ax308 | apply ax309 | apply ax310 | apply lt_S | apply ar305 | apply ar308 | apply ar309)) only [g156_5, g156_6, g156_9, g156_10, g156_13, g156_14, g156_15, g156_17, g156_19, g156_20, g156_23, g156_26, g156_29, g156_30, g156_31, g156_32, g156_33, g156_34, g156_35, g156_37, g156_40, g156_41, Option.toList, List.nil_append, List.cons_append, va_rf, nI_ltI, nI_leI, nI_eq, nI_add, nI_sub, nI_lt0, nI_e0, nI_m1, m1_nI, Nat.reduceEqDiff, Nat.reduceLT, Nat.reduceLeDiff, Nat.reduceAdd, Nat.reduceSub, Nat.reduceMul, ↓reduceIte, eq_self, show ¬ 4 ≤ s by omega, ic _, ba _]
        rw [st, R1 Q]
        simp (disch := first | with_reducible assumption | omega | exact Or.inl rfl | exact Or.inr rfl | exact bI_01 | exact c_cat | exact vt_ref | exact vt_null | rfl | with_reducible repeat (first | assumption | omega | apply S_I | apply S_L | apply S_D | apply ob_I | apply ob_L | apply ob_D | apply ob_R | apply ax_I | apply ax_L | apply ax_D | apply ax_R | apply o303 | apply o307 | apply o302 | apply o301 | apply ax304 | apply ax305 | apply ax306 | apply ax308 | apply ax309 | apply ax310 | apply lt_S | apply ar305 | apply ar308 | apply ar309)) only [g156_107, g156_110, Option.toList, List.nil_append, List.cons_append, va_rf, nI_ltI, nI_leI, nI_eq, nI_add, nI_sub, nI_lt0, nI_e0, nI_m1, m1_nI, Nat.reduceEqDiff, Nat.reduceLT, Nat.reduceLeDiff, Nat.reduceAdd, Nat.reduceSub, Nat.reduceMul, ↓reduceIte, eq_self]
      · have wc : am_run (d + 1) 239 [some (.ref 349), some (.int (nI s)), none, none] gm none gm2 := fun Q => by
          rw [← R2 Q]
          simp (disch := first | with_reducible assumption | omega | exact Or.inl rfl | exact Or.inr rfl | exact bI_01 | exact c_cat | exact vt_ref | exact vt_null | rfl | with_reducible repeat (first | assumption | omega | apply S_I | apply S_L | apply S_D | apply ob_I | apply ob_L | apply ob_D | apply ob_R | apply ax_I | apply ax_L | apply ax_D | apply ax_R | apply o303 | apply o307 | apply o302 | apply o301 | apply ax304 | apply ax305 | apply ax306 | apply ax308 | apply ax309 | apply ax310 | apply lt_S | apply ar305 | apply ar308 | apply ar309)) only [g239_0, g239_1, g239_4, g239_5, g239_6, g239_7, g239_8, g239_9, g239_10, g239_11, g239_14, g239_15, g239_16, g239_17, g239_18, g239_5 (a := 0), Option.toList, List.nil_append, List.cons_append, va_rf, nI_ltI, nI_leI, nI_eq, nI_add, nI_sub, nI_lt0, nI_e0, nI_m1, m1_nI, Nat.reduceEqDiff, Nat.reduceLT, Nat.reduceLeDiff, Nat.reduceAdd, Nat.reduceSub, Nat.reduceMul, ↓reduceIte, eq_self]
        rw [← R4 Q, g227_10]
        simp (disch := first | with_reducible assumption | omega | exact Or.inl rfl | exact Or.inr rfl | exact bI_01 | exact c_cat | exact vt_ref | exact vt_null | rfl | with_reducible repeat (first | assumption | omega | apply S_I | apply S_L | apply S_D | apply ob_I | apply ob_L | apply ob_D | apply ob_R | apply ax_I | apply ax_L | apply ax_D | apply ax_R | apply o303 | apply o307 | apply o302 | apply o301 | apply ax304 | apply ax305 | apply ax306 | apply ax308 | apply ax309 | apply ax310 | apply lt_S | apply ar305 | apply ar308 | apply ar309)) only [g227_11, g227_12, g227_15, g227_16, g227_19, g227_20, g227_21, g227_24, g227_25, g227_26, g227_29, g227_32, Option.toList, List.nil_append, List.cons_append, va_rf, nI_ltI, nI_leI, nI_eq, nI_add, nI_sub, nI_lt0, nI_e0, nI_m1, m1_nI, Nat.reduceEqDiff, Nat.reduceLT, Nat.reduceLeDiff, Nat.reduceAdd, Nat.reduceSub, Nat.reduceMul, ↓reduceIte, eq_self, show ¬ 4 ≤ s by omega, d4, wc _]
end JSG

/-! RECALCULATE: the constants of a sheet, on both sides -/
/-- the code of constant i of sheet s -/
def CTx (g : am_H) (tt : Nat → ntT) (rt : Nat → Nat) (s i e : Nat) (pF : Nat → List Nat) : Prop := ∃ pN D E k m G, k ≤ 40 ∧ m ≤ k ∧ Rp false (1000 + i) (tt (56 + 5 * s + i)) m pN pF (k + 410) (rt (56 + 5 * s + i)) D E [] G ∧ cdK g e D
abbrev mcA : Nat → Prop := fun a => a = 349 ∨ a = 372 ∨ a = 373 ∨ (379 ≤ a ∧ a ≤ 389)
abbrev msK (s a k : Nat) : Prop := (a = 349 ∧ 56 ≤ k ∧ k ≤ 70) ∨ (a = 381 ∧ k = s) ∨ ((a = 379 ∨ a = 380) ∧ 5 * s ≤ k ∧ k < 5 * s + 5) ∨ (a = 372 ∧ 6144 ≤ k) ∨ (a = 373 ∧ k = 256) ∨ (385 ≤ a ∧ a ≤ 389)
def MFs (s : Nat) (h g : am_H) : Prop := am_fr mcA h g ∧ (∀ a k, ¬ msK s a k → am_I g a k = am_I h a k) ∧ ∀ k, ¬ (5 * s ≤ k ∧ k < 5 * s + 5) → am_L g 383 k = am_L h 383 k ∧ am_D g 384 k = am_D h 384 k
section MSS
variable {s a k : Nat} {h g g' : am_H}
theorem MFs_refl : MFs s h h := ⟨fr_refl, fun _ _ _ => rfl, fun _ _ => ⟨rfl, rfl⟩⟩
theorem MFs_trans (A : MFs s h g) (B : MFs s g g') : MFs s h g' := ⟨fr_trans A.1 B.1, fun a k hk => (B.2.1 a k hk).trans (A.2.1 a k hk), fun k hk => ⟨(B.2.2 k hk).1.trans (A.2.2 k hk).1, (B.2.2 k hk).2.trans (A.2.2 k hk).2⟩⟩
theorem MFs_I {v : Int32} (F : MFs s h g) (h1 : mcA a) (h2 : msK s a k) : MFs s h (am_setI g a k v) := ⟨fr_I F.1 h1, fun b j hb => by
  rw [hI_I]
  split
  · split
    · subst_vars; exact absurd h2 hb
    · exact F.2.1 b j hb
  · exact F.2.1 b j hb, F.2.2⟩
theorem MFs_L {v : Int64} (F : MFs s h g) (h1 : a = 383 ∧ 5 * s ≤ k ∧ k < 5 * s + 5) : MFs s h (am_setL g a k v) := ⟨fr_L F.1 (by omega), F.2.1, fun j hj => ⟨by
  obtain ⟨rfl, h2⟩ := h1
  rw [rL_k (by omega)]; exact (F.2.2 j hj).1, (F.2.2 j hj).2⟩⟩
theorem MFs_D {v : UInt64} (F : MFs s h g) (h1 : a = 384 ∧ 5 * s ≤ k ∧ k < 5 * s + 5) : MFs s h (am_setD g a k v) := ⟨fr_D F.1 (by omega), F.2.1, fun j hj => ⟨(F.2.2 j hj).1, by
  obtain ⟨rfl, h2⟩ := h1
  rw [rD_k (by omega)]; exact (F.2.2 j hj).2⟩⟩
theorem MFs_W {dp t : Nat} {σ : SR} (A : MW h g 256 dp t σ) : MFs s h g := by
  obtain ⟨a1, a2, a3, a4, a5, a6, a7, a8, a9, a10, a11⟩ := A
  refine ⟨fr_mono (fun a ha => by omega) a1, fun a k hk => ?_, fun k hk => ⟨fr_rdL a1 (by decide), fr_rdD a1 (by decide)⟩⟩
  by_cases c1 : a = 349
  · subst c1; exact a2 k (by omega)
  · by_cases c2 : a = 372
    · subst c2; exact a11 k (by omega)
    · by_cases c3 : a = 373
      · subst c3; exact a10 k (by omega)
      · exact fr_rdI a1 (by omega)
end MSS
section JCO
variable {d s i nc e : Nat} {g h gx gm : am_H} {tt : Nat → ntT} {rt : Nat → Nat} {pF : Nat → List Nat} {cs : Nat → Nat → VL}
theorem x_const1 (h4 : 402 ≤ g.1) (S : am_S g) (s4 : s < 4) (i5 : i < nc) (n5 : nc ≤ 5) (er : am_R g (323 + 7 * s + i) 8 = none) (ec : am_R g (323 + 7 * s + i) 3 = some e) (C : CTx g tt rt s i e pF) (F : FC g tt rt none pF) (hn : am_I g (321 + 7 * s) 1 = nI nc) (hcs : ∀ k, k < i → csX g s k (cs s k)) :
    ∃ g', am_run (d + 6) 32 [some (.ref 9), some (.ref (323 + 7 * s + i)), some (.int (-1)), some (.ref (321 + 7 * s)), none, none, none] g none g' ∧ WO g g' (323 + 7 * s + i) none (-1) (ev tt rt cvN cs 1001 (56 + 5 * s + i) [] s 0 (rt (56 + 5 * s + i)) (1000, [])) := by
  obtain ⟨pN, D, E, k, m, G, c1, c2, c3, c4⟩ := C
  obtain ⟨O, R, A⟩ := o321 S s4
  obtain ⟨A1, A2, A3⟩ := A i (by omega)
  exact x_workOut (d := d) (P := fun _ => False) (nc := nc) h4 S (by omega) (by omega) (by omega) A3 ec er (fun a q => by cases q) (fun a q => by cases q) c4 (fun c hc => hc.elim) F c3 (by omega) (by omega) (by omega) ⟨s4, rfl, n5, hn, fun k hk => ⟨by omega, hcs k (by omega)⟩⟩ (fun c hc => by cases hc)
/-- the model's step, where the sheet is not spoiled -/
theorem m_const1 (S : am_S g) (s4 : s < 4) (i5 : i < nc) (n5 : nc ≤ 5) (en : am_I g 362 s = nI nc) (e0 : am_I g 381 s = nI 0) (er : am_I g 356 (56 + 5 * s + i) = nI (rt (56 + 5 * s + i))) (F : FN g rt pF) (hr : rt (56 + 5 * s + i) < 48)
    (hR : ∃ pN D E k m G, k ≤ 40 ∧ m ≤ k ∧ Rp false (1000 + i) (tb g (48 * (56 + 5 * s + i))) m pN pF (k + 410) (rt (56 + 5 * s + i)) D E [] G) (hcs : ∀ k, k < i → csv g (5 * s + k) (cs s k)) (hd : 1350 ≤ d) {v3 : Option Value} :
    ∃ g' v3', (∀ Q, am_J (d + 1) 239 19 [some (.ref 349), some (.int (nI s)), some (.int (nI i)), v3] [] g Q ↔ am_J (d + 1) 239 19 [some (.ref 349), some (.int (nI s)), some (.int (nI (i + 1))), v3'] [] g' Q) ∧ MFs s g g' ∧ (∀ j, j ≠ 5 * s + i → am_I g' 379 j = am_I g 379 j ∧ am_I g' 380 j = am_I g 380 j ∧ am_L g' 383 j = am_L g 383 j ∧ am_D g' 384 j = am_D g 384 j) ∧
      match (ev (fun s => tb g (48 * s)) rt cvN cs 1001 (56 + 5 * s + i) [] s 0 (rt (56 + 5 * s + i)) (1000, [])).1 with
      | .inl (.inl v) => am_I g' 379 (5 * s + i) = nI 1 ∧ am_L g' 383 (5 * s + i) = v ∧ am_I g' 381 s = nI 0
      | .inl (.inr y) => am_I g' 379 (5 * s + i) = nI 2 ∧ am_D g' 384 (5 * s + i) = y ∧ okD y ∧ am_I g' 381 s = nI 0
      | .inr (.inl k) => am_I g' 379 (5 * s + i) = nI 3 ∧ am_I g' 380 (5 * s + i) = nI k ∧ am_I g' 381 s = nI k
      | .inr (.inr _) => False := by
  obtain ⟨pN, D, E, k, m, G, c1, c2, c3⟩ := hR
  have nr := ev_nr (tt := fun s => tb g (48 * s)) (rt := rt) (cs := cs) 1001 (56 + 5 * s + i) [] s 0 (rt (56 + 5 * s + i)) (1000, [])
  have q20 : 5 * s + i < 20 := by omega
  have S1 : am_S (am_setI (am_setI g 379 (5 * s + i) (nI 0)) 380 (5 * s + i) (nI 0)) := S
  have C1 : cvH (am_setI (am_setI g 379 (5 * s + i) (nI 0)) 380 (5 * s + i) (nI 0)) cvN (fun _ => False) := fun c hc => hc.elim
  have F1 : FN (am_setI (am_setI g 379 (5 * s + i) (nI 0)) 380 (5 * s + i) (nI 0)) rt pF := F
  have hcs1 : ∀ k, k < (1000 + i) % 1000 → 5 * s + k < 20 ∧ csv (am_setI (am_setI g 379 (5 * s + i) (nI 0)) 380 (5 * s + i) (nI 0)) (5 * s + k) (cs s k) := fun k hk => by
    have hk' : k < i := by omega
    refine ⟨by omega, ?_⟩
    have := hcs k hk'
    match cs s k, this with
    | .inl _, ⟨b1, b2⟩ => exact ⟨by rw [rI_a (by decide), rI_k (by omega)]; exact b1, b2⟩
    | .inr _, ⟨b1, b2, b3⟩ => exact ⟨by rw [rI_a (by decide), rI_k (by omega)]; exact b1, b2, b3⟩
  obtain ⟨g1, R1, A1, O1⟩ := m_workOut (d := d) (r := 256) (s := 56 + 5 * s + i) (nn := rt (56 + 5 * s + i)) (sh := s) S1 C1 (fun c hc => hc.elim) F1 (c3 : Rp false (1000 + i) (tb (am_setI (am_setI g 379 (5 * s + i) (nI 0)) 380 (5 * s + i) (nI 0)) (48 * (56 + 5 * s + i))) m pN pF (k + 410) (rt (56 + 5 * s + i)) D E [] G) (by omega) (by omega) (by omega) (by omega) hcs1 (fun c hc => by cases hc) (Nat.le_refl _) (fun q => absurd q (by decide)) hd
  have A1 : MW (am_setI (am_setI g 379 (5 * s + i) (nI 0)) 380 (5 * s + i) (nI 0)) g1 256 0 0 (ev (fun s => tb g (48 * s)) rt cvN cs 1001 (56 + 5 * s + i) [] s 0 (rt (56 + 5 * s + i)) (1000, [])).2 := A1
  have O1 : MO (am_setI (am_setI g 379 (5 * s + i) (nI 0)) 380 (5 * s + i) (nI 0)) g1 256 (ev (fun s => tb g (48 * s)) rt cvN cs 1001 (56 + 5 * s + i) [] s 0 (rt (56 + 5 * s + i)) (1000, [])).1 := O1
  have mb := m_wbegin (d := d) (r := 256) S1
  have p356 : am_I (mbH (am_setI (am_setI g 379 (5 * s + i) (nI 0)) 380 (5 * s + i) (nI 0)) 256) 356 (56 + (5 * s + i)) = nI (rt (56 + 5 * s + i)) := by
    rw [mb_I (by decide), rI_a (by decide), rI_a (by decide), ← Nat.add_assoc]; exact er
  have W0 : MFs s g (am_setI (am_setI g 379 (5 * s + i) (nI 0)) 380 (5 * s + i) (nI 0)) := MFs_I (MFs_I MFs_refl (by omega) (by omega)) (by omega) (by omega)
  have W1 : MFs s g g1 := MFs_trans W0 (MFs_W A1)
  have Sg1 : am_S g1 := MW_S A1 S1
  have Smb : am_S (mbH (am_setI (am_setI g 379 (5 * s + i) (nI 0)) 380 (5 * s + i) (nI 0)) 256) := S
  have w379 : ∀ j, j ≠ 5 * s + i → am_I g1 379 j = am_I g 379 j := fun j hj => (fr_rdI A1.1 (by decide)).trans (by rw [rI_a (by decide), rI_k hj])
  have w380 : ∀ j, j ≠ 5 * s + i → am_I g1 380 j = am_I g 380 j := fun j hj => (fr_rdI A1.1 (by decide)).trans (by rw [rI_k hj, rI_a (by decide)])
  have w383 : ∀ j, am_L g1 383 j = am_L g 383 j := fun j => (fr_rdL A1.1 (by decide)).trans rfl
  have w384 : ∀ j, am_D g1 384 j = am_D g 384 j := fun j => (fr_rdD A1.1 (by decide)).trans rfl
  have w381 : am_I g1 381 s = nI 0 := (fr_rdI A1.1 (by decide)).trans (by rw [rI_a (by decide), rI_a (by decide)]; exact e0)
  have go : ∀ Q, am_J (d + 1) 239 19 [some (.ref 349), some (.int (nI s)), some (.int (nI i)), v3] [] g Q ↔ am_J (d + 1) 239 87 [some (.ref 349), some (.int (nI s)), some (.int (nI i)), some (.int (nI (5 * s + i)))] [] g1 Q := fun Q => by
    have R1' := R1
    rw [show 56 + 5 * s + i = 56 + (5 * s + i) by omega] at R1'
    rw [g239_19]
    simp (disch := first | with_reducible assumption | omega | exact Or.inl rfl | exact Or.inr rfl | exact bI_01 | exact c_cat | exact vt_ref | exact vt_null | rfl | with_reducible repeat (first | assumption | omega | apply S_I | apply S_L | apply S_D | apply ob_I | apply ob_L | apply ob_D | apply ob_R | apply ax_I | apply ax_L | apply ax_D | apply ax_R | apply o303 | apply o307 | apply o302 | apply o301 | apply ax304 | apply ax305 | apply ax306 | apply ax308 | apply ax309 | apply ax310 | apply lt_S | apply ar305 | apply ar308 | apply ar309)) only [g239_20, g239_21, g239_24, g239_25, g239_26, g239_29, g239_30, g239_31, g239_32, g239_33, g239_34, g239_35, g239_36, g239_39, g239_40, g239_41, g239_42, g239_43, g239_46, g239_47, g239_48, g239_49, g239_50, g239_53, g239_54, g239_55, g239_58, g239_61, g239_62, g239_65, g239_68, g239_69, g239_71, g239_72, g239_73, g239_74, g239_75, g239_76, g239_79, g239_81, g239_82, g239_83, g239_84, Option.toList, List.nil_append, List.cons_append, va_rf, nI_ltI, nI_leI, nI_eq, nI_add, nI_sub, nI_lt0, nI_e0, nI_m1, m1_nI, Nat.reduceEqDiff, Nat.reduceLT, Nat.reduceLeDiff, Nat.reduceAdd, Nat.reduceSub, Nat.reduceMul, ↓reduceIte, eq_self, nI_mul, en, show ¬ nc ≤ i by omega, rI_a (show (381 : Nat) ≠ 380 by decide), rI_a (show (381 : Nat) ≠ 379 by decide), e0, p356, mb _, R1' _, Nat.add_assoc]
  generalize ev (fun s => tb g (48 * s)) rt cvN cs 1001 (56 + 5 * s + i) [] s 0 (rt (56 + 5 * s + i)) (1000, []) = r at O1 nr ⊢
  obtain ⟨o, σ⟩ := r
  match o, O1, nr with
  | .inl (.inl v), ⟨⟨t1, t2⟩, t3⟩, _ =>
    refine ⟨am_setD (am_setL (am_setI g1 379 (5 * s + i) (nI 1)) 383 (5 * s + i) v) 384 (5 * s + i) (am_D g1 349 66), some (.int (nI (5 * s + i))), fun Q => ?_, MFs_D (MFs_L (MFs_I W1 (by omega) (by omega)) ⟨rfl, by omega, by omega⟩) ⟨rfl, by omega, by omega⟩, fun j hj => ⟨?_, ?_, ?_, ?_⟩, ?_, ?_, ?_⟩
    · rw [go Q]
      simp (disch := first | with_reducible assumption | omega | exact Or.inl rfl | exact Or.inr rfl | exact bI_01 | exact c_cat | exact vt_ref | exact vt_null | rfl | with_reducible repeat (first | assumption | omega | apply S_I | apply S_L | apply S_D | apply ob_I | apply ob_L | apply ob_D | apply ob_R | apply ax_I | apply ax_L | apply ax_D | apply ax_R | apply o303 | apply o307 | apply o302 | apply o301 | apply ax304 | apply ax305 | apply ax306 | apply ax308 | apply ax309 | apply ax310 | apply lt_S | apply ar305 | apply ar308 | apply ar309)) only [g239_87, g239_88, g239_91, g239_92, g239_93, g239_96, g239_99, g239_100, g239_103, g239_104, g239_107, g239_108, g239_109, g239_112, g239_113, g239_114, g239_117, g239_118, g239_119, g239_122, g239_123, g239_124, g239_127, g239_128, g239_129, g239_132, g239_135, g239_138, g239_139, g239_142, g239_143, g239_144, g239_147, g239_148, g239_149, g239_152, g239_153, g239_154, g239_157, g239_158, g239_161, Option.toList, List.nil_append, List.cons_append, va_rf, nI_ltI, nI_leI, nI_eq, nI_add, nI_sub, nI_lt0, nI_e0, nI_m1, m1_nI, Nat.reduceEqDiff, Nat.reduceLT, Nat.reduceLeDiff, Nat.reduceAdd, Nat.reduceSub, Nat.reduceMul, ↓reduceIte, eq_self, hI_I, hI_L, hI_D, hI_R, hL_I, hL_L, hL_D, hL_R, hD_I, hD_L, hD_D, hD_R, hR_I, hR_L, hR_D, ↓reduceIte, Nat.reduceEqDiff, t1, t2]
    · rw [hI_D, hI_L, rI_k hj]; exact w379 j hj
    · rw [hI_D, hI_L, rI_a (by decide)]; exact w380 j hj
    · rw [hL_D, rL_k hj, hL_I]; exact w383 j
    · rw [rD_k hj, hD_L, hD_I]; exact w384 j
    · rw [hI_D, hI_L, rI_eq]
    · rw [hL_D, rL_eq]
    · rw [hI_D, hI_L, rI_a (by decide)]; exact w381
  | .inl (.inr y), ⟨⟨t1, t2, t4⟩, t3⟩, _ =>
    refine ⟨am_setD (am_setL (am_setI g1 379 (5 * s + i) (nI 2)) 383 (5 * s + i) (am_L g1 349 65)) 384 (5 * s + i) y, some (.int (nI (5 * s + i))), fun Q => ?_, MFs_D (MFs_L (MFs_I W1 (by omega) (by omega)) ⟨rfl, by omega, by omega⟩) ⟨rfl, by omega, by omega⟩, fun j hj => ⟨?_, ?_, ?_, ?_⟩, ?_, ?_, t4, ?_⟩
    · rw [go Q]
      simp (disch := first | with_reducible assumption | omega | exact Or.inl rfl | exact Or.inr rfl | exact bI_01 | exact c_cat | exact vt_ref | exact vt_null | rfl | with_reducible repeat (first | assumption | omega | apply S_I | apply S_L | apply S_D | apply ob_I | apply ob_L | apply ob_D | apply ob_R | apply ax_I | apply ax_L | apply ax_D | apply ax_R | apply o303 | apply o307 | apply o302 | apply o301 | apply ax304 | apply ax305 | apply ax306 | apply ax308 | apply ax309 | apply ax310 | apply lt_S | apply ar305 | apply ar308 | apply ar309)) only [g239_87, g239_88, g239_91, g239_92, g239_93, g239_96, g239_99, g239_100, g239_103, g239_104, g239_107, g239_108, g239_109, g239_112, g239_113, g239_114, g239_117, g239_118, g239_119, g239_122, g239_123, g239_124, g239_127, g239_128, g239_129, g239_132, g239_135, g239_138, g239_139, g239_142, g239_143, g239_144, g239_147, g239_148, g239_149, g239_152, g239_153, g239_154, g239_157, g239_158, g239_161, Option.toList, List.nil_append, List.cons_append, va_rf, nI_ltI, nI_leI, nI_eq, nI_add, nI_sub, nI_lt0, nI_e0, nI_m1, m1_nI, Nat.reduceEqDiff, Nat.reduceLT, Nat.reduceLeDiff, Nat.reduceAdd, Nat.reduceSub, Nat.reduceMul, ↓reduceIte, eq_self, hI_I, hI_L, hI_D, hI_R, hL_I, hL_L, hL_D, hL_R, hD_I, hD_L, hD_D, hD_R, hR_I, hR_L, hR_D, ↓reduceIte, Nat.reduceEqDiff, t1, t2]
    · rw [hI_D, hI_L, rI_k hj]; exact w379 j hj
    · rw [hI_D, hI_L, rI_a (by decide)]; exact w380 j hj
    · rw [hL_D, rL_k hj, hL_I]; exact w383 j
    · rw [rD_k hj, hD_L, hD_I]; exact w384 j
    · rw [hI_D, hI_L, rI_eq]
    · rw [rD_eq]
    · rw [hI_D, hI_L, rI_a (by decide)]; exact w381
  | .inr (.inl k), ⟨t1, t2, t3, t4, t5, t6⟩, _ =>
    refine ⟨am_setI (am_setI (am_setD (am_setL (am_setI g1 379 (5 * s + i) (nI 3)) 383 (5 * s + i) (am_L g1 349 65)) 384 (5 * s + i) (am_D g1 349 66)) 380 (5 * s + i) (nI k)) 381 s (nI k), some (.int (nI (5 * s + i))), fun Q => ?_, MFs_I (MFs_I (MFs_D (MFs_L (MFs_I W1 (by omega) (by omega)) ⟨rfl, by omega, by omega⟩) ⟨rfl, by omega, by omega⟩) (by omega) (by omega)) (by omega) (by omega), fun j hj => ⟨?_, ?_, ?_, ?_⟩, ?_, ?_, ?_⟩
    · rw [go Q]
      simp (disch := first | with_reducible assumption | omega | exact Or.inl rfl | exact Or.inr rfl | exact bI_01 | exact c_cat | exact vt_ref | exact vt_null | rfl | with_reducible repeat (first | assumption | omega | apply S_I | apply S_L | apply S_D | apply ob_I | apply ob_L | apply ob_D | apply ob_R | apply ax_I | apply ax_L | apply ax_D | apply ax_R | apply o303 | apply o307 | apply o302 | apply o301 | apply ax304 | apply ax305 | apply ax306 | apply ax308 | apply ax309 | apply ax310 | apply lt_S | apply ar305 | apply ar308 | apply ar309)) only [g239_87, g239_88, g239_91, g239_92, g239_93, g239_96, g239_99, g239_100, g239_103, g239_104, g239_107, g239_108, g239_109, g239_112, g239_113, g239_114, g239_117, g239_118, g239_119, g239_122, g239_123, g239_124, g239_127, g239_128, g239_129, g239_132, g239_135, g239_138, g239_139, g239_142, g239_143, g239_144, g239_147, g239_148, g239_149, g239_152, g239_153, g239_154, g239_157, g239_158, g239_161, Option.toList, List.nil_append, List.cons_append, va_rf, nI_ltI, nI_leI, nI_eq, nI_add, nI_sub, nI_lt0, nI_e0, nI_m1, m1_nI, Nat.reduceEqDiff, Nat.reduceLT, Nat.reduceLeDiff, Nat.reduceAdd, Nat.reduceSub, Nat.reduceMul, ↓reduceIte, eq_self, hI_I, hI_L, hI_D, hI_R, hL_I, hL_L, hL_D, hL_R, hD_I, hD_L, hD_D, hD_R, hR_I, hR_L, hR_D, ↓reduceIte, Nat.reduceEqDiff, t1, t2]
    · rw [rI_a (by decide), rI_a (by decide), hI_D, hI_L, rI_k hj]; exact w379 j hj
    · rw [rI_a (by decide), rI_k hj, hI_D, hI_L, rI_a (by decide)]; exact w380 j hj
    · rw [hL_I, hL_I, hL_D, rL_k hj, hL_I]; exact w383 j
    · rw [hD_I, hD_I, rD_k hj, hD_L, hD_I]; exact w384 j
    · rw [rI_a (by decide), rI_a (by decide), hI_D, hI_L, rI_eq]
    · rw [rI_a (by decide), rI_eq]
    · rw [rI_eq]
  | .inr (.inr c), _, nr => exact absurd rfl (nr c)
/-- the model's steps, where the sheet is spoiled -/
theorem m_constS (s4 : s < 4) (n5 : nc ≤ 5) {sp : Nat} (h0 : sp ≠ 0) (h11 : sp ≤ 11) : ∀ q i g v3, nc - i = q → i ≤ nc → am_S g → am_I g 362 s = nI nc → am_I g 381 s = nI sp → ∃ g', (∀ Q, am_J (d + 1) 239 19 [some (.ref 349), some (.int (nI s)), some (.int (nI i)), v3] [] g Q ↔ Q none g') ∧ MFs s g g' ∧ (∀ j, j < 5 * s + i → am_I g' 379 j = am_I g 379 j ∧ am_I g' 380 j = am_I g 380 j) ∧ (∀ j, am_L g' 383 j = am_L g 383 j ∧ am_D g' 384 j = am_D g 384 j) ∧ am_I g' 381 s = nI sp ∧ ∀ j, i ≤ j → j < nc → am_I g' 379 (5 * s + j) = nI 0 := by
  intro q
  induction q with
  | zero =>
    intro i g v3 hq hi S en esp
    obtain rfl : i = nc := by omega
    refine ⟨g, fun Q => ?_, MFs_refl, fun _ _ => ⟨rfl, rfl⟩, fun _ => ⟨rfl, rfl⟩, esp, fun j h1 h2 => by omega⟩
    rw [g239_19]
    simp (disch := first | with_reducible assumption | omega | exact Or.inl rfl | exact Or.inr rfl | exact bI_01 | exact c_cat | exact vt_ref | exact vt_null | rfl | with_reducible repeat (first | assumption | omega | apply S_I | apply S_L | apply S_D | apply ob_I | apply ob_L | apply ob_D | apply ob_R | apply ax_I | apply ax_L | apply ax_D | apply ax_R | apply o303 | apply o307 | apply o302 | apply o301 | apply ax304 | apply ax305 | apply ax306 | apply ax308 | apply ax309 | apply ax310 | apply lt_S | apply ar305 | apply ar308 | apply ar309)) only [g239_20, g239_21, g239_24, g239_25, g239_26, g239_164, Option.toList, List.nil_append, List.cons_append, va_rf, nI_ltI, nI_leI, nI_eq, nI_add, nI_sub, nI_lt0, nI_e0, nI_m1, m1_nI, Nat.reduceEqDiff, Nat.reduceLT, Nat.reduceLeDiff, Nat.reduceAdd, Nat.reduceSub, Nat.reduceMul, ↓reduceIte, eq_self, en, Nat.le_refl]
  | succ q ih =>
    intro i g v3 hq hi S en esp
    have q20 : 5 * s + i < 20 := by omega
    have W0 : MFs s g (am_setI (am_setI g 379 (5 * s + i) (nI 0)) 380 (5 * s + i) (nI 0)) := MFs_I (MFs_I MFs_refl (by omega) (by omega)) (by omega) (by omega)
    obtain ⟨g', R, W, w1, w2, w3, w4⟩ := ih (i + 1) (am_setI (am_setI g 379 (5 * s + i) (nI 0)) 380 (5 * s + i) (nI 0)) (some (.int (nI (5 * s + i)))) (by omega) (by omega) S (by rw [rI_a (by decide), rI_a (by decide)]; exact en) (by rw [rI_a (by decide), rI_a (by decide)]; exact esp)
    refine ⟨g', fun Q => ?_, MFs_trans W0 W, fun j hj => ⟨(w1 j (by omega)).1.trans (by rw [rI_a (by decide), rI_k (by omega)]), (w1 j (by omega)).2.trans (by rw [rI_k (by omega), rI_a (by decide)])⟩, w2, w3, fun j h1 h2 => ?_⟩
    · rw [← R Q, g239_19]
      simp (disch := first | with_reducible assumption | omega | exact Or.inl rfl | exact Or.inr rfl | exact bI_01 | exact c_cat | exact vt_ref | exact vt_null | rfl | with_reducible repeat (first | assumption | omega | apply S_I | apply S_L | apply S_D | apply ob_I | apply ob_L | apply ob_D | apply ob_R | apply ax_I | apply ax_L | apply ax_D | apply ax_R | apply o303 | apply o307 | apply o302 | apply o301 | apply ax304 | apply ax305 | apply ax306 | apply ax308 | apply ax309 | apply ax310 | apply lt_S | apply ar305 | apply ar308 | apply ar309)) only [g239_20, g239_21, g239_24, g239_25, g239_26, g239_29, g239_30, g239_31, g239_32, g239_33, g239_34, g239_35, g239_36, g239_39, g239_40, g239_41, g239_42, g239_43, g239_46, g239_47, g239_48, g239_49, g239_50, g239_53, g239_54, g239_55, g239_58, g239_158, g239_161, Option.toList, List.nil_append, List.cons_append, va_rf, nI_ltI, nI_leI, nI_eq, nI_add, nI_sub, nI_lt0, nI_e0, nI_m1, m1_nI, Nat.reduceEqDiff, Nat.reduceLT, Nat.reduceLeDiff, Nat.reduceAdd, Nat.reduceSub, Nat.reduceMul, ↓reduceIte, eq_self, nI_mul, en, show ¬ nc ≤ i by omega, rI_a (show (381 : Nat) ≠ 380 by decide), rI_a (show (381 : Nat) ≠ 379 by decide), esp, h0]
    · by_cases ej : j = i
      · subst ej
        rw [(w1 (5 * s + j) (by omega)).1, rI_a (by decide), rI_eq]
      · exact w4 j (by omega) h2
end JCO

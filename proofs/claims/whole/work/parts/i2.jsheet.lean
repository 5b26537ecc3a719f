/-! RECALCULATE: a sheet's constants are worked out anew -/
theorem cdK_kp {P : Nat → Nat → Prop} {h g : am_H} {e : Nat} {D : List (Int32 × Int64)} (K : kp P h g) (np : ∀ a k, e ≤ a → a < e + 7 → ¬ P a k) (C : cdK h e D) : cdK g e D := by
  obtain ⟨c1, c2, t0, t2, t3, r0, r1, i5, v1, b1⟩ := C
  have R := fun a k (h1 : e ≤ a) (h2 : a < e + 7) => K.2.2 a k (by omega) (np a k h1 h2)
  have h1 := K.1
  exact ⟨c1, by omega, (K.2.1 e (by omega)).trans t0, (K.2.1 (e + 2) (by omega)).trans t2, (K.2.1 (e + 3) (by omega)).trans t3, (R e 0 (by omega) (by omega)).2.2.2.trans r0, (R e 1 (by omega) (by omega)).2.2.2.trans r1, (R e 5 (by omega) (by omega)).1.trans i5, fun i x hx => ⟨(R (e + 2) i (by omega) (by omega)).1.trans (v1 i x hx).1, ((R (e + 3) i (by omega) (by omega)).2.1 (by omega)).trans (v1 i x hx).2⟩, b1⟩
/-- the functions' codes, by their addresses -/
def FCe (h : am_H) (tt : Nat → ntT) (rt : Nat → Nat) (pF : Nat → List Nat) (fe : Nat → Nat) : Prop := ∀ g v, 1 ≤ v → v ≤ 3 → pF (4 * g + v) ≠ [] → g < 8 ∧ ∃ pN m k r0 D E L G, k ≤ 40 ∧ m ≤ k ∧ r0 < m ∧ Rp true v (tt (48 + g)) m pN pF (k + 410) r0 D E L G ∧ rt (48 + g) = r0 ∧ am_R h 11 g = some (fe g) ∧ cdK h (fe g) D
section FCS
variable {P : Nat → Nat → Prop} {h g : am_H} {tt : Nat → ntT} {rt : Nat → Nat} {pF : Nat → List Nat} {fe : Nat → Nat} {rr : Option Nat}
theorem FC_of (F : FCe h tt rt pF fe) (hr : ∀ g, g < 8 → am_R h 11 g = some (fe g) → ∀ a, rr = some a → a < fe g ∨ fe g + 7 ≤ a) : FC h tt rt rr pF := fun g v h1 h2 h3 => by
  obtain ⟨b1, pN, m, k, r0, D, E, L, G, b2, b3, b4, b5, b6, b7, b8⟩ := F g v h1 h2 h3
  exact ⟨b1, pN, m, k, r0, D, E, L, G, fe g, b2, b3, b4, b5, b6, b7, b8, hr g b1 b7⟩
theorem FCe_kp (h4 : 402 ≤ h.1) (K : kp P h g) (n11 : ∀ k, ¬ P 11 k) (np : ∀ g, g < 8 → am_R h 11 g = some (fe g) → 402 ≤ fe g → ∀ a k, fe g ≤ a → a < fe g + 7 → ¬ P a k) (F : FCe h tt rt pF fe) : FCe g tt rt pF fe := fun f v h1 h2 h3 => by
  obtain ⟨b1, pN, m, k, r0, D, E, L, G, b2, b3, b4, b5, b6, b7, b8⟩ := F f v h1 h2 h3
  exact ⟨b1, pN, m, k, r0, D, E, L, G, b2, b3, b4, b5, b6, (K.2.2 11 f (by omega) (n11 f)).2.2.2.trans b7, cdK_kp K (np f b1 b7 b8.1) b8⟩
end FCS
/-- what stands of a sheet in the class -/
def SXs (g : am_H) (tt : Nat → ntT) (rt : Nat → Nat) (s nc : Nat) (ce : Nat → Nat) (pF : Nat → List Nat) (fe : Nat → Nat) : Prop := am_S g ∧ FCe g tt rt pF fe ∧ am_I g (321 + 7 * s) 1 = nI nc ∧ ∀ i, i < nc → am_R g (323 + 7 * s + i) 3 = some (ce i) ∧ am_R g (323 + 7 * s + i) 8 = none ∧ CTx g tt rt s i (ce i) pF
/-- what stands of a sheet in the model -/
def SMs (g : am_H) (tt : Nat → ntT) (rt : Nat → Nat) (s nc : Nat) (pF : Nat → List Nat) : Prop := am_S g ∧ FN g rt pF ∧ (fun s => tb g (48 * s)) = tt ∧ am_I g 362 s = nI nc ∧ ∀ i, i < nc → am_I g 356 (56 + 5 * s + i) = nI (rt (56 + 5 * s + i)) ∧ rt (56 + 5 * s + i) < 48 ∧ ∃ pN D E k m G, k ≤ 40 ∧ m ≤ k ∧ Rp false (1000 + i) (tt (56 + 5 * s + i)) m pN pF (k + 410) (rt (56 + 5 * s + i)) D E [] G
section SXM
variable {P : Nat → Nat → Prop} {h g : am_H} {tt : Nat → ntT} {rt : Nat → Nat} {s s' nc : Nat} {ce : Nat → Nat} {pF : Nat → List Nat} {fe : Nat → Nat}
theorem SXs_kp (s4 : s < 4) (n5 : nc ≤ 5) (K : kp P h g) (Sg : am_S g) (np : ∀ a k, a = 11 ∨ 402 ≤ a ∨ (a = 321 + 7 * s ∧ k = 1) ∨ (323 + 7 * s ≤ a ∧ a < 328 + 7 * s ∧ (k = 3 ∨ k = 8)) → ¬ P a k) (X : SXs h tt rt s nc ce pF fe) : SXs g tt rt s nc ce pF fe := by
  obtain ⟨x1, x2, x3, x4⟩ := X
  have h4 := x1.1
  refine ⟨Sg, FCe_kp h4 K (fun k => np 11 k (Or.inl rfl)) (fun f f8 hf he a k h1 h2 => np a k (by omega)) x2, (K.2.2 _ 1 (by omega) (np _ 1 (by omega))).1.trans x3, fun i hi => ?_⟩
  · obtain ⟨y1, y2, pN, D, E, k, m, G, y3, y4, y5, y6⟩ := x4 i hi
    have he := y6.1
    exact ⟨(K.2.2 _ 3 (by omega) (np _ 3 (by omega))).2.2.2.trans y1, (K.2.2 _ 8 (by omega) (np _ 8 (by omega))).2.2.2.trans y2, pN, D, E, k, m, G, y3, y4, y5, cdK_kp K (fun a k h1 h2 => np a k (by omega)) y6⟩
theorem SMs_fr {Pa : Nat → Prop} (F : am_fr Pa h g) (np : ∀ a, (352 ≤ a ∧ a ≤ 364) → ¬ Pa a) (X : SMs h tt rt s nc pF) : SMs g tt rt s nc pF := by
  obtain ⟨x1, x2, x3, x4, x5⟩ := X
  have e : (fun s => tb g (48 * s)) = (fun s => tb h (48 * s)) := by
    funext s n
    unfold tb
    rw [fr_rdI F (np 352 (by decide)), fr_rdI F (np 353 (by decide)), fr_rdI F (np 354 (by decide)), fr_rdI F (np 355 (by decide)), fr_rdL F (np 357 (by decide))]
  refine ⟨fr_S F x1, fun f v h1 h2 h3 => ?_, e.trans x3, (fr_rdI F (np 362 (by decide))).trans x4, fun i hi => ?_⟩
  · obtain ⟨b1, pN', m, k, r0, D', E', L', G', b2, b3, b4, b5, b6, b7⟩ := x2 f v h1 h2 h3
    exact ⟨b1, pN', m, k, r0, D', E', L', G', b2, b3, b4, by rw [congrFun e (48 + f)]; exact b5, (fr_rdI F (np 356 (by decide))).trans b6, b7⟩
  · obtain ⟨y1, y2⟩ := x5 i hi
    exact ⟨(fr_rdI F (np 356 (by decide))).trans y1, y2⟩
end SXM
def pXd (s a k : Nat) : Prop := (a = 9 ∧ 9 ≤ k) ∨ (12 ≤ a ∧ a ≤ 15) ∨ (17 ≤ a ∧ a ≤ 21) ∨ (278 ≤ a ∧ a ≤ 299) ∨ (a = 321 + 7 * s ∧ k = 3) ∨ (323 + 7 * s ≤ a ∧ a < 328 + 7 * s ∧ k ≠ 3 ∧ k ≠ 8)
def CJ (gx gm : am_H) (s nc i sp : Nat) : Prop := am_I gx (321 + 7 * s) 3 = nI sp ∧ am_I gm 381 s = nI sp ∧ sp ≤ 11 ∧ (∀ j, j < i → ∃ st, st ≤ 3 ∧ iV gx (323 + 7 * s + j) (am_I gm 379 (5 * s + j)) (am_L gm 383 (5 * s + j)) (am_D gm 384 (5 * s + j)) (am_I gm 380 (5 * s + j)) st ∧ (sp = 0 → st = 1 ∨ st = 2)) ∧ ∀ j, i ≤ j → j < nc → am_I gx (323 + 7 * s + j) 0 = nI 0
section JCS
variable {d e s nc : Nat} {tt : Nat → ntT} {rt : Nat → Nat} {ce : Nat → Nat} {pF : Nat → List Nat} {fe : Nat → Nat} {x1 x2 : Option Value}
theorem J_consts (s4 : s < 4) (n5 : nc ≤ 5) (hd : 1350 ≤ d) : ∀ q i gx gm v6 v3, nc - i = q → i ≤ nc → SXs gx tt rt s nc ce pF fe → SMs gm tt rt s nc pF → CJ gx gm s nc i 0 →
    ∃ gx' gm' sp v5' v6', (∀ Q, am_J (e + 7) 156 43 [some (.ref 4), x1, x2, some (.int (nI s)), some (.ref (321 + 7 * s)), some (.int (nI i)), v6] [] gx Q ↔ am_J (e + 7) 156 107 [some (.ref 4), x1, x2, some (.int (nI s)), some (.ref (321 + 7 * s)), v5', v6'] [] gx' Q) ∧ (∀ Q, am_J (d + 1) 239 19 [some (.ref 349), some (.int (nI s)), some (.int (nI i)), v3] [] gm Q ↔ Q none gm') ∧ CJ gx' gm' s nc nc sp ∧ kp (pXd s) gx gx' ∧ am_S gx' ∧ MFs s gm gm' := by
  intro q
  induction q with
  | zero =>
    intro i gx gm v6 v3 hq hi X M J
    obtain rfl : i = nc := by omega
    obtain ⟨S, -, e1, -⟩ := X
    obtain ⟨Sm, -, -, en, -⟩ := M
    obtain ⟨O, R, A⟩ := o321 S s4
    refine ⟨gx, gm, 0, some (.int (nI i)), v6, fun Q => ?_, fun Q => ?_, J, kp_refl, S, MFs_refl⟩
    · rw [g156_43]
      simp (disch := first | with_reducible assumption | omega | exact Or.inl rfl | exact Or.inr rfl | exact bI_01 | exact c_cat | exact vt_ref | exact vt_null | rfl | with_reducible repeat (first | assumption | omega | apply S_I | apply S_L | apply S_D | apply ob_I | apply ob_L | apply ob_D | apply ob_R | apply ax_I | apply ax_L | apply ax_D | apply ax_R | apply o303 | apply o307 | apply o302 | apply o301 | apply ax304 | apply ax305 | apply ax306 | apply ax308 | apply ax309 | apply ax310 | apply lt_S | apply ar305 | apply ar308 | apply ar309)) only [g156_45, g156_47, g156_50, Option.toList, List.nil_append, List.cons_append, va_rf, nI_ltI, nI_leI, nI_eq, nI_add, nI_sub, nI_lt0, nI_e0, nI_m1, m1_nI, Nat.reduceEqDiff, Nat.reduceLT, Nat.reduceLeDiff, Nat.reduceAdd, Nat.reduceSub, Nat.reduceMul, ↓reduceIte, eq_self, e1, Nat.le_refl]
    · rw [g239_19]
      simp (disch := first | with_reducible assumption | omega | exact Or.inl rfl | exact Or.inr rfl | exact bI_01 | exact c_cat | exact vt_ref | exact vt_null | rfl | with_reducible repeat (first | assumption | omega | apply S_I | apply S_L | apply S_D | apply ob_I | apply ob_L | apply ob_D | apply ob_R | apply ax_I | apply ax_L | apply ax_D | apply ax_R | apply o303 | apply o307 | apply o302 | apply o301 | apply ax304 | apply ax305 | apply ax306 | apply ax308 | apply ax309 | apply ax310 | apply lt_S | apply ar305 | apply ar308 | apply ar309)) only [g239_20, g239_21, g239_24, g239_25, g239_26, g239_164, Option.toList, List.nil_append, List.cons_append, va_rf, nI_ltI, nI_leI, nI_eq, nI_add, nI_sub, nI_lt0, nI_e0, nI_m1, m1_nI, Nat.reduceEqDiff, Nat.reduceLT, Nat.reduceLeDiff, Nat.reduceAdd, Nat.reduceSub, Nat.reduceMul, ↓reduceIte, eq_self, en, Nat.le_refl]
  | succ q ih =>
    intro i gx gm v6 v3 hq hi X M J
    obtain ⟨S, FX, e1, X4⟩ := id X
    obtain ⟨Sm, FM, et, en, M5⟩ := id M
    obtain ⟨j1, j2, j3, j4, j5⟩ := J
    have h4 := S.1
    have hi' : i < nc := by omega
    obtain ⟨O, R, A⟩ := o321 S s4
    obtain ⟨A1, A2, A3⟩ := A i (by omega)
    obtain ⟨y1, y2, y3⟩ := X4 i hi'
    obtain ⟨m1, m2, m3⟩ := M5 i hi'
    obtain ⟨cs, hcs⟩ : ∃ cs : Nat → Nat → VL, ∀ k, k < i → csX gx s k (cs s k) ∧ csv gm (5 * s + k) (cs s k) := by
      refine ⟨fun s k => if am_I gm 379 (5 * s + k) = nI 1 then .inl (am_L gm 383 (5 * s + k)) else .inr (am_D gm 384 (5 * s + k)), fun k hk => ?_⟩
      obtain ⟨st, s1, ⟨v1, v2, v3, v4, v5⟩, s3⟩ := j4 k hk
      rcases s3 rfl with rfl | rfl
      · dsimp only
        rw [if_pos v2]
        exact ⟨⟨v1, v3 rfl⟩, v2, rfl⟩
      · have : ¬ am_I gm 379 (5 * s + k) = nI 1 := fun q => by rw [v2] at q; exact absurd q (by decide)
        dsimp only
        rw [if_neg this]
        obtain ⟨w1, w2, w3⟩ := v4 rfl
        exact ⟨⟨v1, w1, w3⟩, v2, rfl, w3⟩
    have FX' : FC gx tt rt none pF := FC_of FX (fun _ _ _ a q => (by cases q))
    obtain ⟨g1, r1, k1, S1, -, o1⟩ := x_const1 (d := e) (cs := cs) h4 S s4 hi' n5 y2 y1 y3 FX' e1 (fun k hk => (hcs k hk).1)
    obtain ⟨gm1, v3', r2, f2, n2, o2⟩ := m_const1 (d := d) (cs := cs) (v3 := v3) Sm s4 hi' n5 en j2 m1 FM m2 (by rw [congrFun et (56 + 5 * s + i)]; exact m3) (fun k hk => (hcs k hk).2) hd
    rw [et] at o2
    have K1 : kp (pXd s) gx g1 := kp_mono (fun a k q => by
      unfold pXd
      rcases q with (q | q | q | q | q | q) | q
      · omega
      · omega
      · omega
      · omega
      · omega
      · cases q
      · omega) k1
    have nP : ∀ a k, (321 + 7 * s ≤ a ∧ a < 328 + 7 * s ∧ a ≠ 323 + 7 * s + i) → ¬ woP (323 + 7 * s + i) none a k := fun a k h1 q => by
      rcases q with (q | q | q | q | q | q) | q
      · omega
      · omega
      · omega
      · omega
      · omega
      · cases q
      · omega
    have G1 := fun a k h1 => k1.2.2 a k (by omega) (nP a k h1)
    have X1 : SXs g1 tt rt s nc ce pF fe := SXs_kp s4 n5 K1 S1 (fun a k hf => by unfold pXd; omega) X
    have M1 : SMs gm1 tt rt s nc pF := SMs_fr f2.1 (fun a ha => by omega) M
    obtain ⟨O', R', A'⟩ := o321 S1 s4
    obtain ⟨A1', A2', A3'⟩ := A' i (by omega)
    have e1' : am_I g1 (321 + 7 * s) 1 = nI nc := X1.2.2.1
    have sp1 : am_I g1 (321 + 7 * s) 3 = nI 0 := (G1 _ 3 (by omega)).1.trans j1
    have old : ∀ j, j < i → ∃ st, st ≤ 3 ∧ iV g1 (323 + 7 * s + j) (am_I gm1 379 (5 * s + j)) (am_L gm1 383 (5 * s + j)) (am_D gm1 384 (5 * s + j)) (am_I gm1 380 (5 * s + j)) st ∧ (st = 1 ∨ st = 2) := fun j hj => by
      obtain ⟨st, s1, s2, s3⟩ := j4 j hj
      obtain ⟨n21, n22, n23, n24⟩ := n2 (5 * s + j) (by omega)
      refine ⟨st, s1, ?_, s3 rfl⟩
      rw [n21, n22, n23, n24]
      have G := fun k => G1 (323 + 7 * s + j) k (by omega)
      exact iV_eq (fun k => ⟨(G k).1, (G k).2.1 (by omega), (G k).2.2.1 (by omega) (by omega)⟩) s2
    have rest : ∀ j, i + 1 ≤ j → j < nc → am_I g1 (323 + 7 * s + j) 0 = nI 0 := fun j h1 h2 => (G1 _ 0 (by omega)).1.trans (j5 j (by omega) h2)
    generalize ev tt rt cvN cs 1001 (56 + 5 * s + i) [] s 0 (rt (56 + 5 * s + i)) (1000, []) = r at o1 o2
    obtain ⟨o, σ⟩ := r
    have good : ∀ st, (st = 1 ∨ st = 2) → am_I g1 (323 + 7 * s + i) 0 = nI st → iV g1 (323 + 7 * s + i) (am_I gm1 379 (5 * s + i)) (am_L gm1 383 (5 * s + i)) (am_D gm1 384 (5 * s + i)) (am_I gm1 380 (5 * s + i)) st → am_I gm1 381 s = nI 0 → ∃ gx' gm' sp v5' v6', (∀ Q, am_J (e + 7) 156 43 [some (.ref 4), x1, x2, some (.int (nI s)), some (.ref (321 + 7 * s)), some (.int (nI i)), v6] [] gx Q ↔ am_J (e + 7) 156 107 [some (.ref 4), x1, x2, some (.int (nI s)), some (.ref (321 + 7 * s)), v5', v6'] [] gx' Q) ∧ (∀ Q, am_J (d + 1) 239 19 [some (.ref 349), some (.int (nI s)), some (.int (nI i)), v3] [] gm Q ↔ Q none gm') ∧ CJ gx' gm' s nc nc sp ∧ kp (pXd s) gx gx' ∧ am_S gx' ∧ MFs s gm gm' := fun st hst hs0 iv e381 => by
      obtain ⟨gx', gm', sp, v5', v6', R1, R2, J', K', S', F'⟩ := ih (i + 1) g1 gm1 (some (.ref (323 + 7 * s + i))) v3' (by omega) (by omega) X1 M1 ⟨sp1, e381, by decide, fun j hj => by
        by_cases ej : j = i
        · subst ej; exact ⟨st, by omega, iv, fun _ => hst⟩
        · obtain ⟨st', q1, q2, q3⟩ := old j (by omega)
          exact ⟨st', q1, q2, fun _ => q3⟩, rest⟩
      refine ⟨gx', gm', sp, v5', v6', fun Q => ?_, fun Q => (r2 Q).trans (R2 Q), J', kp_trans K1 K', S', MFs_trans f2 F'⟩
      have br : ∀ Q, am_J (e + 6) 6 0 [some (.ref (323 + 7 * s + i))] [] g1 Q ↔ Q (some (.int (nI 0))) g1 := fun Q => by
        rcases hst with rfl | rfl <;> simp (disch := first | with_reducible assumption | omega | exact Or.inl rfl | exact Or.inr rfl | exact bI_01 | exact c_cat | exact vt_ref | exact vt_null | rfl | with_reducible repeat (first | assumption | omega | apply S_I | apply S_L | apply S_D | apply ob_I | apply ob_L | apply ob_D | apply ob_R | apply ax_I | apply ax_L | apply ax_D | apply ax_R | apply o303 | apply o307 | apply o302 | apply o301 | apply ax304 | apply ax305 | apply ax306 | apply ax308 | apply ax309 | apply ax310 | apply lt_S | apply ar305 | apply ar308 | apply ar309)) only [g6_0, g6_1, g6_4, g6_5, g6_8, g6_9, g6_12, g6_13, g6_16, g6_17, g6_20, g6_21, g6_24, g6_25, g6_28, g6_29, nI_ltI, nI_leI, nI_eq, nI_add, nI_sub, nI_lt0, nI_e0, nI_m1, m1_nI, Nat.reduceEqDiff, Nat.reduceLT, Nat.reduceLeDiff, Nat.reduceAdd, Nat.reduceSub, Nat.reduceMul, ↓reduceIte, eq_self, hs0]
      rw [← R1 Q, g156_43]
      simp (disch := first | with_reducible assumption | omega | exact Or.inl rfl | exact Or.inr rfl | exact bI_01 | exact c_cat | exact vt_ref | exact vt_null | rfl | with_reducible repeat (first | assumption | omega | apply S_I | apply S_L | apply S_D | apply ob_I | apply ob_L | apply ob_D | apply ob_R | apply ax_I | apply ax_L | apply ax_D | apply ax_R | apply o303 | apply o307 | apply o302 | apply o301 | apply ax304 | apply ax305 | apply ax306 | apply ax308 | apply ax309 | apply ax310 | apply lt_S | apply ar305 | apply ar308 | apply ar309)) only [g156_45, g156_47, g156_50, g156_53, g156_55, g156_58, g156_61, g156_63, g156_66, g156_68, g156_69, g156_71, g156_72, g156_75, g156_77, g156_78, g156_80, g156_83, g156_85, g156_88, g156_91, g156_93, g156_95, g156_98, g156_101, g156_104, Option.toList, List.nil_append, List.cons_append, va_rf, nI_ltI, nI_leI, nI_eq, nI_add, nI_sub, nI_lt0, nI_e0, nI_m1, m1_nI, Nat.reduceEqDiff, Nat.reduceLT, Nat.reduceLeDiff, Nat.reduceAdd, Nat.reduceSub, Nat.reduceMul, ↓reduceIte, eq_self, e1, show ¬ nc ≤ i by omega, j1, R, A2, r1 _, br _]
    match o, o1, o2 with
    | .inl (.inl v), ⟨p1, p2⟩, ⟨u1, u2, u3⟩ => exact good 1 (Or.inl rfl) p1 ⟨p1, u1, fun _ => p2.trans u2.symm, fun q => (by cases q), fun q => absurd q (by decide)⟩ u3
    | .inl (.inr y), ⟨p1, p2, p3, p4⟩, ⟨u1, u2, u3, u4⟩ => exact good 2 (Or.inr rfl) p1 ⟨p1, u1, fun q => (by cases q), fun _ => ⟨p2.trans u2.symm, by rw [u2]; exact p3, by rw [u2]; exact p4⟩, fun q => absurd q (by decide)⟩ u4
    | .inr (.inr c), _, hf => exact hf.elim
    | .inr (.inl k), ⟨p1, p2, p3, p4, p5, p6⟩, ⟨u1, u2, u3⟩ =>
      obtain ⟨gm', R2, F2, w1, w2, w3, w4⟩ := m_constS (d := d) s4 n5 (sp := k) (by omega) p6 (nc - (i + 1)) (i + 1) gm1 v3' rfl (by omega) M1.1 M1.2.2.2.1 u3
      have S2 : am_S (am_setI g1 (321 + 7 * s) 3 (nI k)) := S1
      have O2 : am_ob (am_setI g1 (321 + 7 * s) 3 (nI k)) (321 + 7 * s) 9 := O'
      have h321 : 4 ≤ 321 + 7 * s := by omega
      refine ⟨am_setI g1 (321 + 7 * s) 3 (nI k), gm', k, some (.int (nI (i + 1))), some (.ref (323 + 7 * s + i)), fun Q => ?_, fun Q => (r2 Q).trans (R2 Q), ⟨rI_eq, w3, p6, fun j hj => ?_, fun j h1 h2 => by omega⟩, kp_I K1 (by unfold pXd; omega), S2, MFs_trans f2 F2⟩
      · have br : ∀ Q, am_J (e + 6) 6 0 [some (.ref (323 + 7 * s + i))] [] g1 Q ↔ Q (some (.int (nI 1))) g1 := fun Q => by
          simp (disch := first | with_reducible assumption | omega | exact Or.inl rfl | exact Or.inr rfl | exact bI_01 | exact c_cat | exact vt_ref | exact vt_null | rfl | with_reducible repeat (first | assumption | omega | apply S_I | apply S_L | apply S_D | apply ob_I | apply ob_L | apply ob_D | apply ob_R | apply ax_I | apply ax_L | apply ax_D | apply ax_R | apply o303 | apply o307 | apply o302 | apply o301 | apply ax304 | apply ax305 | apply ax306 | apply ax308 | apply ax309 | apply ax310 | apply lt_S | apply ar305 | apply ar308 | apply ar309)) only [g6_0, g6_1, g6_4, g6_5, g6_8, g6_9, g6_12, g6_13, g6_16, g6_17, g6_20, g6_21, g6_24, g6_25, g6_28, g6_29, nI_ltI, nI_leI, nI_eq, nI_add, nI_sub, nI_lt0, nI_e0, nI_m1, m1_nI, Nat.reduceEqDiff, Nat.reduceLT, Nat.reduceLeDiff, Nat.reduceAdd, Nat.reduceSub, Nat.reduceMul, ↓reduceIte, eq_self, p1]
        have st : am_J (e + 7) 156 43 [some (.ref 4), x1, x2, some (.int (nI s)), some (.ref (321 + 7 * s)), some (.int (nI i)), v6] [] gx Q ↔ am_J (e + 7) 156 43 [some (.ref 4), x1, x2, some (.int (nI s)), some (.ref (321 + 7 * s)), some (.int (nI (i + 1))), some (.ref (323 + 7 * s + i))] [] (am_setI g1 (321 + 7 * s) 3 (nI k)) Q := by
          rw [g156_43]
          simp (disch := first | with_reducible assumption | omega | exact Or.inl rfl | exact Or.inr rfl | exact bI_01 | exact c_cat | exact vt_ref | exact vt_null | rfl | with_reducible repeat (first | assumption | omega | apply S_I | apply S_L | apply S_D | apply ob_I | apply ob_L | apply ob_D | apply ob_R | apply ax_I | apply ax_L | apply ax_D | apply ax_R | apply o303 | apply o307 | apply o302 | apply o301 | apply ax304 | apply ax305 | apply ax306 | apply ax308 | apply ax309 | apply ax310 | apply lt_S | apply ar305 | apply ar308 | apply ar309)) only [g156_45, g156_47, g156_50, g156_53, g156_55, g156_58, g156_61, g156_63, g156_66, g156_68, g156_69, g156_71, g156_72, g156_75, g156_77, g156_78, g156_80, g156_83, g156_85, g156_88, g156_91, g156_93, g156_95, g156_98, g156_101, g156_104, Option.toList, List.nil_append, List.cons_append, va_rf, nI_ltI, nI_leI, nI_eq, nI_add, nI_sub, nI_lt0, nI_e0, nI_m1, m1_nI, Nat.reduceEqDiff, Nat.reduceLT, Nat.reduceLeDiff, Nat.reduceAdd, Nat.reduceSub, Nat.reduceMul, ↓reduceIte, eq_self, e1, show ¬ nc ≤ i by omega, j1, R, A2, r1 _, br _, p2]
        rw [st, g156_43]
        have e1s : am_I (am_setI g1 (321 + 7 * s) 3 (nI k)) (321 + 7 * s) 1 = nI nc := by rw [rI_k (by decide)]; exact e1'
        have e3s : am_I (am_setI g1 (321 + 7 * s) 3 (nI k)) (321 + 7 * s) 3 = nI k := rI_eq
        by_cases c : nc ≤ i + 1
        · simp (disch := first | with_reducible assumption | omega | exact Or.inl rfl | exact Or.inr rfl | exact bI_01 | exact c_cat | exact vt_ref | exact vt_null | rfl | with_reducible repeat (first | assumption | omega | apply S_I | apply S_L | apply S_D | apply ob_I | apply ob_L | apply ob_D | apply ob_R | apply ax_I | apply ax_L | apply ax_D | apply ax_R | apply o303 | apply o307 | apply o302 | apply o301 | apply ax304 | apply ax305 | apply ax306 | apply ax308 | apply ax309 | apply ax310 | apply lt_S | apply ar305 | apply ar308 | apply ar309)) only [g156_45, g156_47, g156_50, Option.toList, List.nil_append, List.cons_append, va_rf, nI_ltI, nI_leI, nI_eq, nI_add, nI_sub, nI_lt0, nI_e0, nI_m1, m1_nI, Nat.reduceEqDiff, Nat.reduceLT, Nat.reduceLeDiff, Nat.reduceAdd, Nat.reduceSub, Nat.reduceMul, ↓reduceIte, eq_self, e1s, c]
        · simp (disch := first | with_reducible assumption | omega | exact Or.inl rfl | exact Or.inr rfl | exact bI_01 | exact c_cat | exact vt_ref | exact vt_null | rfl | with_reducible repeat (first | assumption | omega | apply S_I | apply S_L | apply S_D | apply ob_I | apply ob_L | apply ob_D | apply ob_R | apply ax_I | apply ax_L | apply ax_D | apply ax_R | apply o303 | apply o307 | apply o302 | apply o301 | apply ax304 | apply ax305 | apply ax306 | apply ax308 | apply ax309 | apply ax310 | apply lt_S | apply ar305 | apply ar308 | apply ar309)) only [g156_45, g156_47, g156_50, g156_53, g156_55, g156_58, Option.toList, List.nil_append, List.cons_append, va_rf, nI_ltI, nI_leI, nI_eq, nI_add, nI_sub, nI_lt0, nI_e0, nI_m1, m1_nI, Nat.reduceEqDiff, Nat.reduceLT, Nat.reduceLeDiff, Nat.reduceAdd, Nat.reduceSub, Nat.reduceMul, ↓reduceIte, eq_self, e1s, c, e3s, show ¬ k = 0 by omega]
      · by_cases c1 : j ≤ i
        · obtain ⟨w11, w12⟩ := w1 (5 * s + j) (by omega)
          obtain ⟨w21, w22⟩ := w2 (5 * s + j)
          rw [w11, w12, w21, w22]
          have ng : ∀ k', am_I (am_setI g1 (321 + 7 * s) 3 (nI k)) (323 + 7 * s + j) k' = am_I g1 (323 + 7 * s + j) k' := fun k' => rI_a (by omega)
          by_cases ej : j = i
          · subst ej
            exact ⟨3, by decide, iV_eq (fun k' => ⟨ng k', rfl, rfl⟩) ⟨p1, u1, fun q => (by cases q), fun q => (by cases q), fun _ _ => ⟨p2.trans u2.symm, k, p5, p6, u2⟩⟩, fun q => by omega⟩
          · obtain ⟨st', q1, q2, q3⟩ := old j (by omega)
            exact ⟨st', q1, iV_eq (fun k' => ⟨ng k', rfl, rfl⟩) q2, fun q => by omega⟩
        · have z1 : am_I (am_setI g1 (321 + 7 * s) 3 (nI k)) (323 + 7 * s + j) 0 = nI 0 := by rw [rI_a (by omega)]; exact rest j (by omega) hj
          exact ⟨0, by decide, ⟨z1, w4 j (by omega) hj, fun q => (by cases q), fun q => (by cases q), fun q => absurd q (by decide)⟩, fun q => by omega⟩
end JCS

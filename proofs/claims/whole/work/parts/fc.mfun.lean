/-! THE MODEL: work on a function's call and on a root -/
/-- what entering a function comes to -/
def apX (tt : Nat → ntT) (rt : Nat → Nat) (cv : Nat → Option (Option VL)) (cs : Nat → Nat → VL) (f dp gf : Nat) (as : List VL) (σ : SR) : FO := if dp = 20 then (oF 4, σ) else ev tt rt cv cs f (48 + gf) as 0 (dp + 1) (rt (48 + gf)) σ
def okN (o : OC) : Nat := match o with
  | .inl _ => 1
  | .inr _ => 0
section MFN
variable {h : am_H} {r : Nat} {rt : Nat → Nat} {cv : Nat → Option (Option VL)} {cs : Nat → Nat → VL} {P : Nat → Prop} {f s b sh dp tm tmc tmf d n t t2 gf : Nat} {as as' : List VL} {g g' : am_H} {σ : SR} {tt : Nat → ntT}
theorem MW_dp {dp' : Nat} (A : MW h g r dp t σ) : MW h (am_setI g 349 57 (nI dp')) r dp' t σ := by
  obtain ⟨a1, a2, a3, a4, a5, a6, a7, a8, a9, a10, a11⟩ := A
  exact ⟨fr_I a1 (Or.inl rfl), fun j hj => by rw [rI_k (by omega)]; exact a2 j hj, a3, by rw [rI_k (by decide)]; exact a4, rI_eq, by rw [rI_k (by decide)]; exact a6, a7, by rw [rI_k (by decide)]; exact a8, fun q => by rw [rI_a (by decide)]; exact ⟨(a9 q).1, fun i h1 h2 => by rw [rI_a (by decide)]; exact (a9 q).2 i h1 h2⟩, fun j hj => by rw [rI_a (by decide)]; exact a10 j hj, fun j hj => by rw [rI_a (by decide)]; exact a11 j hj⟩
theorem MO_I {o : OC} {k : Nat} {x : Int32} (hk : k < 59 ∨ 66 < k) (O : MO h g r o) : MO h (am_setI g 349 k x) r o := by
  have e : ∀ j, 59 ≤ j → j ≤ 66 → am_I (am_setI g 349 k x) 349 j = am_I g 349 j := fun j h1 h2 => rI_k (by omega)
  match o, O with
  | .inl (.inl v), ⟨⟨e1, e2⟩, e3⟩ => exact ⟨⟨(e 59 (by omega) (by omega)).trans e1, e2⟩, (e 64 (by omega) (by omega)).trans e3⟩
  | .inl (.inr v), ⟨⟨e1, e2, e4⟩, e3⟩ => exact ⟨⟨(e 59 (by omega) (by omega)).trans e1, e2, e4⟩, (e 64 (by omega) (by omega)).trans e3⟩
  | .inr (.inl c), ⟨e1, e2, e3, e4, e5, e6⟩ => exact ⟨(e 59 (by omega) (by omega)).trans e1, (e 60 (by omega) (by omega)).trans e2, (e 61 (by omega) (by omega)).trans e3, (e 62 (by omega) (by omega)).trans e4, (e 63 (by omega) (by omega)).trans e5, (e 64 (by omega) (by omega)).trans e6⟩
  | .inr (.inr c), ⟨e1, e2, e3, e4, e5, e6⟩ => exact ⟨(e 59 (by omega) (by omega)).trans e1, (e 60 (by omega) (by omega)).trans e2, (e 61 (by omega) (by omega)).trans e3, (e 62 (by omega) (by omega)).trans e4, (e 63 (by omega) (by omega)).trans e5, (e 64 (by omega) (by omega)).trans e6⟩
theorem m_enter {r0 : Nat} (S : am_S h) (hg : gf < 8) (A : MW h g r dp t2 σ) (sp : am_I g 349 64 = nI 0) (V : AV g t as') (hl : t + as'.length ≤ t2) (ht2 : t2 ≤ tmf) (er : am_I h 356 (48 + gf) = nI r0) (ert : rt (48 + gf) = r0) (hf : σ.1 < f) (hdp : dp ≤ 20) (W : dp < 20 → Wk h r tt rt cv cs f (48 + gf) as' t 0 (dp + 1) tmf (d + 1) r0) :
    ∃ g', am_run (d + 2) 252 [some (.ref 349), some (.int (nI gf)), some (.int (nI t))] g none g' ∧ MW h g' r dp t2 (apX tt rt cv cs f dp gf as' σ).2 ∧ AK g g' t2 ∧ MO h g' r (apX tt rt cv cs f dp gf as' σ).1 ∧ (apX tt rt cv cs f dp gf as' σ).2.1 ≤ σ.1 := by
  have Sg := MW_S A S
  have ed := A.2.2.2.2.1
  unfold apX
  by_cases c : dp = 20
  · subst c
    rw [if_pos rfl]
    have fl := m_fail (d := d + 1) (k := 4) A S
    refine ⟨gFa g 4 r, fun Q => ?_, gFa_W A, gFa_A, gFa_O (by decide) sp, Nat.le_refl _⟩
    simp (disch := first | with_reducible assumption | omega | exact Or.inl rfl | exact Or.inr rfl | exact bI_01 | exact c_cat | exact vt_ref | exact vt_null | rfl | with_reducible repeat (first | assumption | omega | apply S_I | apply S_L | apply S_D | apply ob_I | apply ob_L | apply ob_D | apply ob_R | apply ax_I | apply ax_L | apply ax_D | apply ax_R | apply o303 | apply o307 | apply o302 | apply o301 | apply ax304 | apply ax305 | apply ax306 | apply ax308 | apply ax309 | apply ax310 | apply lt_S | apply ar305 | apply ar308 | apply ar309)) only [g252_0, g252_1, g252_4, g252_6, g252_9, g252_10, g252_11, g252_14, g252_15, g252_16, g252_17, g252_20, g252_21, g252_22, g252_25, g252_26, g252_28, g252_29, g252_30, g252_31, g252_32, g252_33, g252_36, g252_38, g252_39, g252_40, g252_41, g252_44, g252_45, g252_46, g252_49, g252_50, g252_51, g252_54, Option.toList, List.nil_append, List.cons_append, va_rf, nI_ltI, nI_leI, nI_eq, nI_add, nI_sub, nI_lt0, nI_e0, nI_m1, m1_nI, Nat.reduceEqDiff, Nat.reduceLT, Nat.reduceLeDiff, Nat.reduceAdd, Nat.reduceSub, Nat.reduceMul, ↓reduceIte, eq_self, ed, fl _]
  · rw [if_neg c, ert]
    have A1 := MW_dp (dp' := dp + 1) A
    have S1 := MW_S A1 S
    have e1 : am_I g 356 (48 + gf) = nI r0 := (fr_rdI A.1 (by decide)).trans er
    obtain ⟨g2, r2, A2, K2, O2, L2⟩ := W (by omega) t2 (am_setI g 349 57 (nI (dp + 1))) σ ht2 hl hf A1 (by rw [rI_k (by decide)]; exact sp) (AV_keep V (AK_I (t := t2)) hl)
    have S2 := MW_S A2 S
    have e2 := A2.2.2.2.2.1
    refine ⟨am_setI g2 349 57 (nI dp), fun Q => ?_, MW_dp A2, AK_trans AK_I (AK_trans K2 AK_I), MO_I (by omega) O2, L2⟩
    simp (disch := first | with_reducible assumption | omega | exact Or.inl rfl | exact Or.inr rfl | exact bI_01 | exact c_cat | exact vt_ref | exact vt_null | rfl | with_reducible repeat (first | assumption | omega | apply S_I | apply S_L | apply S_D | apply ob_I | apply ob_L | apply ob_D | apply ob_R | apply ax_I | apply ax_L | apply ax_D | apply ax_R | apply o303 | apply o307 | apply o302 | apply o301 | apply ax304 | apply ax305 | apply ax306 | apply ax308 | apply ax309 | apply ax310 | apply lt_S | apply ar305 | apply ar308 | apply ar309)) only [g252_0, g252_1, g252_4, g252_6, g252_9, g252_10, g252_11, g252_14, g252_15, g252_16, g252_17, g252_20, g252_21, g252_22, g252_25, g252_26, g252_28, g252_29, g252_30, g252_31, g252_32, g252_33, g252_36, g252_38, g252_39, g252_40, g252_41, g252_44, g252_45, g252_46, g252_49, g252_50, g252_51, g252_54, Option.toList, List.nil_append, List.cons_append, va_rf, nI_ltI, nI_leI, nI_eq, nI_add, nI_sub, nI_lt0, nI_e0, nI_m1, m1_nI, Nat.reduceEqDiff, Nat.reduceLT, Nat.reduceLeDiff, Nat.reduceAdd, Nat.reduceSub, Nat.reduceMul, ↓reduceIte, eq_self, hI_I, hI_L, hI_D, hI_R, hL_I, hL_L, hL_D, hL_R, hD_I, hD_L, hD_D, hD_R, hR_I, hR_L, hR_D, ↓reduceIte, Nat.reduceEqDiff, ed, c, e1, r2 _, e2, Nat.add_sub_cancel]
theorem AV_push {v : VL} (V : AV g t as') (K : AK g g' (t + as'.length)) (U : argv g' (t + as'.length) v) : AV g' t (as' ++ [v]) := fun i w hi => by
  by_cases c : i < as'.length
  · rw [List.getElem?_append_left c] at hi
    exact AV_keep V K (Nat.le_refl _) i w hi
  · have hl := (List.getElem?_eq_some_iff.mp hi).1
    rw [List.length_append, List.length_cons, List.length_nil] at hl
    obtain rfl : i = as'.length := by omega
    rw [List.getElem?_append_right (Nat.le_refl _), Nat.sub_self] at hi
    obtain rfl : v = w := Option.some.inj hi
    exact U
theorem AV_nil : AV g t [] := fun i v hi => by simp at hi
/-- a value that is pushed: the state behind it -/
theorem m_push2 {v : VL} (S : am_S h) (A : MW h g r dp t2 σ) (sp : am_I g 349 64 = nI 0) (ht : t2 < 600) (U : rv g v) : ∃ g', am_run d 251 [some (.ref 349)] g none g' ∧ MW h g' r dp (t2 + 1) σ ∧ AK g g' t2 ∧ argv g' t2 v ∧ am_I g' 349 64 = nI 0 ∧ am_I g' 349 59 = am_I g 349 59 := by
  obtain ⟨g', r1, A1, K1, U1, e1⟩ := m_push (d := d) A S ht U
  exact ⟨g', r1, A1, K1, U1, (e1 64 (by decide)).trans sp, e1 59 (by decide)⟩
theorem nd_fun1 {i r0 : Nat} (S : am_S h) (hs : s < 77) (hn : n < 48) (hi : i < 48) (hg : gf < 8) (hdp : dp ≤ 20) (ht : tb h (48 * s) n = (nI 8, nI i, -1, -1, lN gf)) (h1c : tm + 2 ≤ tmc) (h1f : tm + 3 ≤ tmf) (h6 : tmf ≤ 600) (er : am_I h 356 (48 + gf) = nI r0) (ert : rt (48 + gf) = r0) (W : Wk h r (fun s => tb h (48 * s)) rt cv cs f s as b sh dp tmc (d + 2) i) (WF : ∀ as' t, as'.length = 1 → dp < 20 → Wk h r (fun s => tb h (48 * s)) rt cv cs f (48 + gf) as' t 0 (dp + 1) tmf (d + 1) r0) : Nd h r (fun s => tb h (48 * s)) rt cv cs f s as b sh dp tm (d + 4) n := by
  intro t g σ h1 h2 h3 A sp V
  have Sg := MW_S A S
  obtain ⟨u1, u2, -, -, -⟩ := mw_nd A ht
  have et := A.2.2.2.2.2.2.2.1
  have e : evX (fun s => tb h (48 * s)) rt cv cs f s as sh dp n σ = andThen (ev (fun s => tb h (48 * s)) rt cv cs f s as sh dp i σ) (fun v σ => apX (fun s => tb h (48 * s)) rt cv cs f dp gf [v] σ) := by
    unfold evX evN
    simp (disch := omega) only [ht, nI_eq, Nat.reduceEqDiff, ↓reduceIte, xN_n, lN_i8, chL, evArgs]
    generalize ev (fun s => tb h (48 * s)) rt cv cs f s as sh dp i σ = q
    obtain ⟨q, σ1⟩ := q
    cases q <;> rfl
  rw [e]
  obtain ⟨g1, r1, A1, K1, O1, L1⟩ := W t g σ (by omega) h2 h3 A sp V
  have S1 := MW_S A1 S
  obtain ⟨-, -, y3, y4, y5⟩ := mw_nd A1 ht
  generalize ev (fun s => tb h (48 * s)) rt cv cs f s as sh dp i σ = q at A1 O1 L1 ⊢
  obtain ⟨q, σ1⟩ := q
  match q, O1 with
  | .inr q, O1 =>
    have t0 := MO_t0 O1
    refine ⟨am_setI g1 349 70 (nI t), fun Q => ?_, MW_top A1, AK_trans K1 AK_I, MO_I (by omega) O1, L1⟩
    simp (disch := first | with_reducible assumption | omega | exact Or.inl rfl | exact Or.inr rfl | exact bI_01 | exact c_cat | exact vt_ref | exact vt_null | rfl | with_reducible repeat (first | assumption | omega | apply S_I | apply S_L | apply S_D | apply ob_I | apply ob_L | apply ob_D | apply ob_R | apply ax_I | apply ax_L | apply ax_D | apply ax_R | apply o303 | apply o307 | apply o302 | apply o301 | apply ax304 | apply ax305 | apply ax306 | apply ax308 | apply ax309 | apply ax310 | apply lt_S | apply ar305 | apply ar308 | apply ar309)) only [g241_8, g241_10, g241_11, g241_12, g241_14, g241_15, g241_17, g241_18, g241_21, g241_23, g241_24_8, g241_271, g241_272, g241_273, g241_274, g241_275, g241_277, g241_280, g250_0, g250_1, g250_4, g250_6, g250_7, g250_8, g250_9, g250_10, g250_11, g250_14, g250_16, g250_17, g250_20, g250_21, g250_24, g250_27, g250_28, g250_31, g250_32, g250_35, g250_38, g250_39, g250_42, g250_44, g250_45, g250_46, g250_49, g250_50, g250_51, g250_52, g250_53, g250_54, g250_57, g250_59, g250_60, g250_63, g250_64, g250_67, g250_70, g250_71, g250_74, g250_75, g250_78, g250_81, g250_82, g250_85, g250_87, g250_88, g250_89, g250_92, g250_93, g250_94, g250_95, g250_96, g250_97, g250_100, g250_102, g250_103, g250_106, g250_107, g250_110, g250_113, g250_114, g250_117, g250_118, g250_121, g250_124, g250_125, g250_126, g250_129, g250_131, g250_132, g250_133, g250_135, g250_138, g250_139, g250_141, g250_144, Option.toList, List.nil_append, List.cons_append, va_rf, nI_ltI, nI_leI, nI_eq, nI_add, nI_sub, nI_lt0, nI_e0, nI_m1, m1_nI, Nat.reduceEqDiff, Nat.reduceLT, Nat.reduceLeDiff, Nat.reduceAdd, Nat.reduceSub, Nat.reduceMul, ↓reduceIte, eq_self, nI_mul, u1, u2, et, r1 _, t0]
  | .inl u, ⟨U, sp1⟩ =>
    obtain ⟨τ, hτ, eτ⟩ := rv_t U
    obtain ⟨g2, r2, A2, K2, U2, sp2, e2⟩ := m_push2 (d := d + 2) S A1 sp1 (by omega) U
    have S2 := MW_S A2 S
    rw [eτ] at e2
    obtain ⟨-, -, z3, z4, z5⟩ := mw_nd A2 ht
    have V2 : AV g2 t [u] := AV_push (as' := []) AV_nil K2 U2
    obtain ⟨g3, r3, A3, K3, O3, L3⟩ := m_enter (d := d) (tmf := tmf) S hg A2 sp2 V2 (Nat.le_refl _) (by omega) er ert (Nat.lt_of_le_of_lt L1 h3) hdp (WF [u] t rfl)
    have S3 := MW_S A3 S
    refine ⟨am_setI g3 349 70 (nI t), fun Q => ?_, MW_top A3, AK_trans K1 (AK_trans K2 (AK_trans (AK_le K3 (by omega)) AK_I)), MO_I (by omega) O3, Nat.le_trans L3 L1⟩
    simp (disch := first | with_reducible assumption | omega | exact Or.inl rfl | exact Or.inr rfl | exact bI_01 | exact c_cat | exact vt_ref | exact vt_null | rfl | with_reducible repeat (first | assumption | omega | apply S_I | apply S_L | apply S_D | apply ob_I | apply ob_L | apply ob_D | apply ob_R | apply ax_I | apply ax_L | apply ax_D | apply ax_R | apply o303 | apply o307 | apply o302 | apply o301 | apply ax304 | apply ax305 | apply ax306 | apply ax308 | apply ax309 | apply ax310 | apply lt_S | apply ar305 | apply ar308 | apply ar309)) only [g241_8, g241_10, g241_11, g241_12, g241_14, g241_15, g241_17, g241_18, g241_21, g241_23, g241_24_8, g241_271, g241_272, g241_273, g241_274, g241_275, g241_277, g241_280, g250_0, g250_1, g250_4, g250_6, g250_7, g250_8, g250_9, g250_10, g250_11, g250_14, g250_16, g250_17, g250_20, g250_21, g250_24, g250_27, g250_28, g250_31, g250_32, g250_35, g250_38, g250_39, g250_42, g250_44, g250_45, g250_46, g250_49, g250_50, g250_51, g250_52, g250_53, g250_54, g250_57, g250_59, g250_60, g250_63, g250_64, g250_67, g250_70, g250_71, g250_74, g250_75, g250_78, g250_81, g250_82, g250_85, g250_87, g250_88, g250_89, g250_92, g250_93, g250_94, g250_95, g250_96, g250_97, g250_100, g250_102, g250_103, g250_106, g250_107, g250_110, g250_113, g250_114, g250_117, g250_118, g250_121, g250_124, g250_125, g250_126, g250_129, g250_131, g250_132, g250_133, g250_135, g250_138, g250_139, g250_141, g250_144, Option.toList, List.nil_append, List.cons_append, va_rf, nI_ltI, nI_leI, nI_eq, nI_add, nI_sub, nI_lt0, nI_e0, nI_m1, m1_nI, Nat.reduceEqDiff, Nat.reduceLT, Nat.reduceLeDiff, Nat.reduceAdd, Nat.reduceSub, Nat.reduceMul, ↓reduceIte, eq_self, nI_mul, u1, u2, et, r1 _, eτ, show ¬ τ = 0 by omega, r2 _, e2, z3, z4, z5, lN_i8, r3 _]
theorem nd_fun2 {i j r0 : Nat} (S : am_S h) (hs : s < 77) (hn : n < 48) (hi : i < 48) (hj : j < 48) (hg : gf < 8) (hdp : dp ≤ 20) (ht : tb h (48 * s) n = (nI 8, nI i, nI j, -1, lN gf)) (h1c : tm + 2 ≤ tmc) (h1f : tm + 3 ≤ tmf) (h6 : tmf ≤ 600) (er : am_I h 356 (48 + gf) = nI r0) (ert : rt (48 + gf) = r0) (W : Wk h r (fun s => tb h (48 * s)) rt cv cs f s as b sh dp tmc (d + 2) i) (W2 : Wk h r (fun s => tb h (48 * s)) rt cv cs f s as b sh dp tmc (d + 2) j) (WF : ∀ as' t, as'.length = 2 → dp < 20 → Wk h r (fun s => tb h (48 * s)) rt cv cs f (48 + gf) as' t 0 (dp + 1) tmf (d + 1) r0) : Nd h r (fun s => tb h (48 * s)) rt cv cs f s as b sh dp tm (d + 4) n := by
  intro t g σ h1 h2 h3 A sp V
  have Sg := MW_S A S
  obtain ⟨u1, u2, -, -, -⟩ := mw_nd A ht
  have et := A.2.2.2.2.2.2.2.1
  have e : evX (fun s => tb h (48 * s)) rt cv cs f s as sh dp n σ = andThen (ev (fun s => tb h (48 * s)) rt cv cs f s as sh dp i σ) (fun u σ => andThen (ev (fun s => tb h (48 * s)) rt cv cs f s as sh dp j σ) (fun v σ => apX (fun s => tb h (48 * s)) rt cv cs f dp gf [u, v] σ)) := by
    unfold evX evN
    simp (disch := omega) only [ht, nI_eq, nI_m1, Nat.reduceEqDiff, ↓reduceIte, xN_n, lN_i8, chL, evArgs]
    generalize ev (fun s => tb h (48 * s)) rt cv cs f s as sh dp i σ = q
    obtain ⟨q, σ1⟩ := q
    cases q with
    | inr q => rfl
    | inl q =>
      dsimp only [andThen]
      generalize ev (fun s => tb h (48 * s)) rt cv cs f s as sh dp j σ1 = p
      obtain ⟨p, σ2⟩ := p
      cases p <;> rfl
  rw [e]
  obtain ⟨g1, r1, A1, K1, O1, L1⟩ := W t g σ (by omega) h2 h3 A sp V
  have S1 := MW_S A1 S
  generalize ev (fun s => tb h (48 * s)) rt cv cs f s as sh dp i σ = q at A1 O1 L1 ⊢
  obtain ⟨q, σ1⟩ := q
  match q, O1 with
  | .inr q, O1 =>
    have t0 := MO_t0 O1
    refine ⟨am_setI g1 349 70 (nI t), fun Q => ?_, MW_top A1, AK_trans K1 AK_I, MO_I (by omega) O1, L1⟩
    simp (disch := first | with_reducible assumption | omega | exact Or.inl rfl | exact Or.inr rfl | exact bI_01 | exact c_cat | exact vt_ref | exact vt_null | rfl | with_reducible repeat (first | assumption | omega | apply S_I | apply S_L | apply S_D | apply ob_I | apply ob_L | apply ob_D | apply ob_R | apply ax_I | apply ax_L | apply ax_D | apply ax_R | apply o303 | apply o307 | apply o302 | apply o301 | apply ax304 | apply ax305 | apply ax306 | apply ax308 | apply ax309 | apply ax310 | apply lt_S | apply ar305 | apply ar308 | apply ar309)) only [g241_8, g241_10, g241_11, g241_12, g241_14, g241_15, g241_17, g241_18, g241_21, g241_23, g241_24_8, g241_271, g241_272, g241_273, g241_274, g241_275, g241_277, g241_280, g250_0, g250_1, g250_4, g250_6, g250_7, g250_8, g250_9, g250_10, g250_11, g250_14, g250_16, g250_17, g250_20, g250_21, g250_24, g250_27, g250_28, g250_31, g250_32, g250_35, g250_38, g250_39, g250_42, g250_44, g250_45, g250_46, g250_49, g250_50, g250_51, g250_52, g250_53, g250_54, g250_57, g250_59, g250_60, g250_63, g250_64, g250_67, g250_70, g250_71, g250_74, g250_75, g250_78, g250_81, g250_82, g250_85, g250_87, g250_88, g250_89, g250_92, g250_93, g250_94, g250_95, g250_96, g250_97, g250_100, g250_102, g250_103, g250_106, g250_107, g250_110, g250_113, g250_114, g250_117, g250_118, g250_121, g250_124, g250_125, g250_126, g250_129, g250_131, g250_132, g250_133, g250_135, g250_138, g250_139, g250_141, g250_144, Option.toList, List.nil_append, List.cons_append, va_rf, nI_ltI, nI_leI, nI_eq, nI_add, nI_sub, nI_lt0, nI_e0, nI_m1, m1_nI, Nat.reduceEqDiff, Nat.reduceLT, Nat.reduceLeDiff, Nat.reduceAdd, Nat.reduceSub, Nat.reduceMul, ↓reduceIte, eq_self, nI_mul, u1, u2, et, r1 _, t0]
  | .inl u, ⟨U, sp1⟩ =>
    obtain ⟨τ, hτ, eτ⟩ := rv_t U
    obtain ⟨g2, r2, A2, K2, U2, sp2, e2⟩ := m_push2 (d := d + 2) S A1 sp1 (by omega) U
    have S2 := MW_S A2 S
    rw [eτ] at e2
    obtain ⟨-, -, z3, -, -⟩ := mw_nd A2 ht
    have V2 : AV g2 t [u] := AV_push (as' := []) AV_nil K2 U2
    have K02 := AK_trans K1 K2
    obtain ⟨g3, r3, A3, K3, O3, L3⟩ := W2 (t + 1) g2 σ1 (by omega) (by omega) (Nat.lt_of_le_of_lt L1 h3) A2 sp2 (AV_keep V K02 h2)
    have S3 := MW_S A3 S
    dsimp only [andThen]
    generalize ev (fun s => tb h (48 * s)) rt cv cs f s as sh dp j σ1 = p at A3 O3 L3 ⊢
    obtain ⟨p, σ2⟩ := p
    match p, O3 with
    | .inr q, O3 =>
      have t0 := MO_t0 O3
      refine ⟨am_setI g3 349 70 (nI t), fun Q => ?_, MW_top A3, AK_trans K02 (AK_trans (AK_le K3 (by omega)) AK_I), MO_I (by omega) O3, Nat.le_trans L3 L1⟩
      simp (disch := first | with_reducible assumption | omega | exact Or.inl rfl | exact Or.inr rfl | exact bI_01 | exact c_cat | exact vt_ref | exact vt_null | rfl | with_reducible repeat (first | assumption | omega | apply S_I | apply S_L | apply S_D | apply ob_I | apply ob_L | apply ob_D | apply ob_R | apply ax_I | apply ax_L | apply ax_D | apply ax_R | apply o303 | apply o307 | apply o302 | apply o301 | apply ax304 | apply ax305 | apply ax306 | apply ax308 | apply ax309 | apply ax310 | apply lt_S | apply ar305 | apply ar308 | apply ar309)) only [g241_8, g241_10, g241_11, g241_12, g241_14, g241_15, g241_17, g241_18, g241_21, g241_23, g241_24_8, g241_271, g241_272, g241_273, g241_274, g241_275, g241_277, g241_280, g250_0, g250_1, g250_4, g250_6, g250_7, g250_8, g250_9, g250_10, g250_11, g250_14, g250_16, g250_17, g250_20, g250_21, g250_24, g250_27, g250_28, g250_31, g250_32, g250_35, g250_38, g250_39, g250_42, g250_44, g250_45, g250_46, g250_49, g250_50, g250_51, g250_52, g250_53, g250_54, g250_57, g250_59, g250_60, g250_63, g250_64, g250_67, g250_70, g250_71, g250_74, g250_75, g250_78, g250_81, g250_82, g250_85, g250_87, g250_88, g250_89, g250_92, g250_93, g250_94, g250_95, g250_96, g250_97, g250_100, g250_102, g250_103, g250_106, g250_107, g250_110, g250_113, g250_114, g250_117, g250_118, g250_121, g250_124, g250_125, g250_126, g250_129, g250_131, g250_132, g250_133, g250_135, g250_138, g250_139, g250_141, g250_144, Option.toList, List.nil_append, List.cons_append, va_rf, nI_ltI, nI_leI, nI_eq, nI_add, nI_sub, nI_lt0, nI_e0, nI_m1, m1_nI, Nat.reduceEqDiff, Nat.reduceLT, Nat.reduceLeDiff, Nat.reduceAdd, Nat.reduceSub, Nat.reduceMul, ↓reduceIte, eq_self, nI_mul, u1, u2, et, r1 _, eτ, show ¬ τ = 0 by omega, r2 _, e2, z3, r3 _, t0]
    | .inl v, ⟨U3, sp3⟩ =>
      obtain ⟨τ3, hτ3, eτ3⟩ := rv_t U3
      obtain ⟨g4, r4, A4, K4, U4, sp4, e4⟩ := m_push2 (d := d + 2) S A3 sp3 (by omega) U3
      have S4 := MW_S A4 S
      rw [eτ3] at e4
      obtain ⟨-, -, -, z4, z5⟩ := mw_nd A4 ht
      have V4 : AV g4 t [u, v] := AV_push (as' := [u]) V2 (AK_trans K3 K4) U4
      obtain ⟨g5, r5, A5, K5, O5, L5⟩ := m_enter (d := d) (tmf := tmf) S hg A4 sp4 V4 (Nat.le_refl _) (by omega) er ert (Nat.lt_of_le_of_lt (Nat.le_trans L3 L1) h3) hdp (WF [u, v] t rfl)
      have S5 := MW_S A5 S
      refine ⟨am_setI g5 349 70 (nI t), fun Q => ?_, MW_top A5, AK_trans K02 (AK_trans (AK_le (AK_trans K3 K4) (by omega)) (AK_trans (AK_le K5 (by omega)) AK_I)), MO_I (by omega) O5, Nat.le_trans L5 (Nat.le_trans L3 L1)⟩
      simp (disch := first | with_reducible assumption | omega | exact Or.inl rfl | exact Or.inr rfl | exact bI_01 | exact c_cat | exact vt_ref | exact vt_null | rfl | with_reducible repeat (first | assumption | omega | apply S_I | apply S_L | apply S_D | apply ob_I | apply ob_L | apply ob_D | apply ob_R | apply ax_I | apply ax_L | apply ax_D | apply ax_R | apply o303 | apply o307 | apply o302 | apply o301 | apply ax304 | apply ax305 | apply ax306 | apply ax308 | apply ax309 | apply ax310 | apply lt_S | apply ar305 | apply ar308 | apply ar309)) only [g241_8, g241_10, g241_11, g241_12, g241_14, g241_15, g241_17, g241_18, g241_21, g241_23, g241_24_8, g241_271, g241_272, g241_273, g241_274, g241_275, g241_277, g241_280, g250_0, g250_1, g250_4, g250_6, g250_7, g250_8, g250_9, g250_10, g250_11, g250_14, g250_16, g250_17, g250_20, g250_21, g250_24, g250_27, g250_28, g250_31, g250_32, g250_35, g250_38, g250_39, g250_42, g250_44, g250_45, g250_46, g250_49, g250_50, g250_51, g250_52, g250_53, g250_54, g250_57, g250_59, g250_60, g250_63, g250_64, g250_67, g250_70, g250_71, g250_74, g250_75, g250_78, g250_81, g250_82, g250_85, g250_87, g250_88, g250_89, g250_92, g250_93, g250_94, g250_95, g250_96, g250_97, g250_100, g250_102, g250_103, g250_106, g250_107, g250_110, g250_113, g250_114, g250_117, g250_118, g250_121, g250_124, g250_125, g250_126, g250_129, g250_131, g250_132, g250_133, g250_135, g250_138, g250_139, g250_141, g250_144, Option.toList, List.nil_append, List.cons_append, va_rf, nI_ltI, nI_leI, nI_eq, nI_add, nI_sub, nI_lt0, nI_e0, nI_m1, m1_nI, Nat.reduceEqDiff, Nat.reduceLT, Nat.reduceLeDiff, Nat.reduceAdd, Nat.reduceSub, Nat.reduceMul, ↓reduceIte, eq_self, nI_mul, u1, u2, et, r1 _, eτ, show ¬ τ = 0 by omega, r2 _, e2, z3, r3 _, eτ3, show ¬ τ3 = 0 by omega, r4 _, e4, z4, z5, lN_i8, r5 _]
theorem nd_fun3 {i j l r0 : Nat} (S : am_S h) (hs : s < 77) (hn : n < 48) (hi : i < 48) (hj : j < 48) (hl : l < 48) (hg : gf < 8) (hdp : dp ≤ 20) (ht : tb h (48 * s) n = (nI 8, nI i, nI j, nI l, lN gf)) (h1c : tm + 2 ≤ tmc) (h1f : tm + 3 ≤ tmf) (h6 : tmf ≤ 600) (er : am_I h 356 (48 + gf) = nI r0) (ert : rt (48 + gf) = r0) (W : Wk h r (fun s => tb h (48 * s)) rt cv cs f s as b sh dp tmc (d + 2) i) (W2 : Wk h r (fun s => tb h (48 * s)) rt cv cs f s as b sh dp tmc (d + 2) j) (W3 : Wk h r (fun s => tb h (48 * s)) rt cv cs f s as b sh dp tmc (d + 2) l) (WF : ∀ as' t, as'.length = 3 → dp < 20 → Wk h r (fun s => tb h (48 * s)) rt cv cs f (48 + gf) as' t 0 (dp + 1) tmf (d + 1) r0) : Nd h r (fun s => tb h (48 * s)) rt cv cs f s as b sh dp tm (d + 4) n := by
  intro t g σ h1 h2 h3 A sp V
  have Sg := MW_S A S
  obtain ⟨u1, u2, -, -, -⟩ := mw_nd A ht
  have et := A.2.2.2.2.2.2.2.1
  have e : evX (fun s => tb h (48 * s)) rt cv cs f s as sh dp n σ = andThen (ev (fun s => tb h (48 * s)) rt cv cs f s as sh dp i σ) (fun u σ => andThen (ev (fun s => tb h (48 * s)) rt cv cs f s as sh dp j σ) (fun v σ => andThen (ev (fun s => tb h (48 * s)) rt cv cs f s as sh dp l σ) (fun w σ => apX (fun s => tb h (48 * s)) rt cv cs f dp gf [u, v, w] σ))) := by
    unfold evX evN
    simp (disch := omega) only [ht, nI_eq, nI_m1, Nat.reduceEqDiff, ↓reduceIte, xN_n, lN_i8, chL, evArgs]
    generalize ev (fun s => tb h (48 * s)) rt cv cs f s as sh dp i σ = q
    obtain ⟨q, σ1⟩ := q
    cases q with
    | inr q => rfl
    | inl q =>
      dsimp only [andThen]
      generalize ev (fun s => tb h (48 * s)) rt cv cs f s as sh dp j σ1 = p
      obtain ⟨p, σ2⟩ := p
      cases p with
      | inr p => rfl
      | inl p =>
        dsimp only
        generalize ev (fun s => tb h (48 * s)) rt cv cs f s as sh dp l σ2 = o
        obtain ⟨o, σ3⟩ := o
        cases o <;> rfl
  rw [e]
  obtain ⟨g1, r1, A1, K1, O1, L1⟩ := W t g σ (by omega) h2 h3 A sp V
  have S1 := MW_S A1 S
  generalize ev (fun s => tb h (48 * s)) rt cv cs f s as sh dp i σ = q at A1 O1 L1 ⊢
  obtain ⟨q, σ1⟩ := q
  match q, O1 with
  | .inr q, O1 =>
    have t0 := MO_t0 O1
    refine ⟨am_setI g1 349 70 (nI t), fun Q => ?_, MW_top A1, AK_trans K1 AK_I, MO_I (by omega) O1, L1⟩
    simp (disch := first | with_reducible assumption | omega | exact Or.inl rfl | exact Or.inr rfl | exact bI_01 | exact c_cat | exact vt_ref | exact vt_null | rfl | with_reducible repeat (first | assumption | omega | apply S_I | apply S_L | apply S_D | apply ob_I | apply ob_L | apply ob_D | apply ob_R | apply ax_I | apply ax_L | apply ax_D | apply ax_R | apply o303 | apply o307 | apply o302 | apply o301 | apply ax304 | apply ax305 | apply ax306 | apply ax308 | apply ax309 | apply ax310 | apply lt_S | apply ar305 | apply ar308 | apply ar309)) only [g241_8, g241_10, g241_11, g241_12, g241_14, g241_15, g241_17, g241_18, g241_21, g241_23, g241_24_8, g241_271, g241_272, g241_273, g241_274, g241_275, g241_277, g241_280, g250_0, g250_1, g250_4, g250_6, g250_7, g250_8, g250_9, g250_10, g250_11, g250_14, g250_16, g250_17, g250_20, g250_21, g250_24, g250_27, g250_28, g250_31, g250_32, g250_35, g250_38, g250_39, g250_42, g250_44, g250_45, g250_46, g250_49, g250_50, g250_51, g250_52, g250_53, g250_54, g250_57, g250_59, g250_60, g250_63, g250_64, g250_67, g250_70, g250_71, g250_74, g250_75, g250_78, g250_81, g250_82, g250_85, g250_87, g250_88, g250_89, g250_92, g250_93, g250_94, g250_95, g250_96, g250_97, g250_100, g250_102, g250_103, g250_106, g250_107, g250_110, g250_113, g250_114, g250_117, g250_118, g250_121, g250_124, g250_125, g250_126, g250_129, g250_131, g250_132, g250_133, g250_135, g250_138, g250_139, g250_141, g250_144, Option.toList, List.nil_append, List.cons_append, va_rf, nI_ltI, nI_leI, nI_eq, nI_add, nI_sub, nI_lt0, nI_e0, nI_m1, m1_nI, Nat.reduceEqDiff, Nat.reduceLT, Nat.reduceLeDiff, Nat.reduceAdd, Nat.reduceSub, Nat.reduceMul, ↓reduceIte, eq_self, nI_mul, u1, u2, et, r1 _, t0]
  | .inl u, ⟨U, sp1⟩ =>
    obtain ⟨τ, hτ, eτ⟩ := rv_t U
    obtain ⟨g2, r2, A2, K2, U2, sp2, e2⟩ := m_push2 (d := d + 2) S A1 sp1 (by omega) U
    have S2 := MW_S A2 S
    rw [eτ] at e2
    obtain ⟨-, -, z3, -, -⟩ := mw_nd A2 ht
    have V2 : AV g2 t [u] := AV_push (as' := []) AV_nil K2 U2
    have K02 := AK_trans K1 K2
    obtain ⟨g3, r3, A3, K3, O3, L3⟩ := W2 (t + 1) g2 σ1 (by omega) (by omega) (Nat.lt_of_le_of_lt L1 h3) A2 sp2 (AV_keep V K02 h2)
    have S3 := MW_S A3 S
    dsimp only [andThen]
    generalize ev (fun s => tb h (48 * s)) rt cv cs f s as sh dp j σ1 = p at A3 O3 L3 ⊢
    obtain ⟨p, σ2⟩ := p
    match p, O3 with
    | .inr q, O3 =>
      have t0 := MO_t0 O3
      refine ⟨am_setI g3 349 70 (nI t), fun Q => ?_, MW_top A3, AK_trans K02 (AK_trans (AK_le K3 (by omega)) AK_I), MO_I (by omega) O3, Nat.le_trans L3 L1⟩
      simp (disch := first | with_reducible assumption | omega | exact Or.inl rfl | exact Or.inr rfl | exact bI_01 | exact c_cat | exact vt_ref | exact vt_null | rfl | with_reducible repeat (first | assumption | omega | apply S_I | apply S_L | apply S_D | apply ob_I | apply ob_L | apply ob_D | apply ob_R | apply ax_I | apply ax_L | apply ax_D | apply ax_R | apply o303 | apply o307 | apply o302 | apply o301 | apply ax304 | apply ax305 | apply ax306 | apply ax308 | apply ax309 | apply ax310 | apply lt_S | apply ar305 | apply ar308 | apply ar309)) only [g241_8, g241_10, g241_11, g241_12, g241_14, g241_15, g241_17, g241_18, g241_21, g241_23, g241_24_8, g241_271, g241_272, g241_273, g241_274, g241_275, g241_277, g241_280, g250_0, g250_1, g250_4, g250_6, g250_7, g250_8, g250_9, g250_10, g250_11, g250_14, g250_16, g250_17, g250_20, g250_21, g250_24, g250_27, g250_28, g250_31, g250_32, g250_35, g250_38, g250_39, g250_42, g250_44, g250_45, g250_46, g250_49, g250_50, g250_51, g250_52, g250_53, g250_54, g250_57, g250_59, g250_60, g250_63, g250_64, g250_67, g250_70, g250_71, g250_74, g250_75, g250_78, g250_81, g250_82, g250_85, g250_87, g250_88, g250_89, g250_92, g250_93, g250_94, g250_95, g250_96, g250_97, g250_100, g250_102, g250_103, g250_106, g250_107, g250_110, g250_113, g250_114, g250_117, g250_118, g250_121, g250_124, g250_125, g250_126, g250_129, g250_131, g250_132, g250_133, g250_135, g250_138, g250_139, g250_141, g250_144, Option.toList, List.nil_append, List.cons_append, va_rf, nI_ltI, nI_leI, nI_eq, nI_add, nI_sub, nI_lt0, nI_e0, nI_m1, m1_nI, Nat.reduceEqDiff, Nat.reduceLT, Nat.reduceLeDiff, Nat.reduceAdd, Nat.reduceSub, Nat.reduceMul, ↓reduceIte, eq_self, nI_mul, u1, u2, et, r1 _, eτ, show ¬ τ = 0 by omega, r2 _, e2, z3, r3 _, t0]
    | .inl v, ⟨U3, sp3⟩ =>
      obtain ⟨τ3, hτ3, eτ3⟩ := rv_t U3
      obtain ⟨g4, r4, A4, K4, U4, sp4, e4⟩ := m_push2 (d := d + 2) S A3 sp3 (by omega) U3
      have S4 := MW_S A4 S
      rw [eτ3] at e4
      obtain ⟨-, -, -, z4, -⟩ := mw_nd A4 ht
      have V4 : AV g4 t [u, v] := AV_push (as' := [u]) V2 (AK_trans K3 K4) U4
      have K04 := AK_trans K02 (AK_le (AK_trans K3 K4) (show t ≤ t + 1 by omega))
      obtain ⟨g5, r5, A5, K5, O5, L5⟩ := W3 (t + 1 + 1) g4 σ2 (by omega) (by omega) (Nat.lt_of_le_of_lt (Nat.le_trans L3 L1) h3) A4 sp4 (AV_keep V K04 h2)
      have S5 := MW_S A5 S
      dsimp only
      generalize ev (fun s => tb h (48 * s)) rt cv cs f s as sh dp l σ2 = o at A5 O5 L5 ⊢
      obtain ⟨o, σ3⟩ := o
      match o, O5 with
      | .inr q, O5 =>
        have t0 := MO_t0 O5
        refine ⟨am_setI g5 349 70 (nI t), fun Q => ?_, MW_top A5, AK_trans K04 (AK_trans (AK_le K5 (by omega)) AK_I), MO_I (by omega) O5, Nat.le_trans L5 (Nat.le_trans L3 L1)⟩
        simp (disch := first | with_reducible assumption | omega | exact Or.inl rfl | exact Or.inr rfl | exact bI_01 | exact c_cat | exact vt_ref | exact vt_null | rfl | with_reducible repeat (first | assumption | omega | apply S_I | apply S_L | apply S_D | apply ob_I | apply ob_L | apply ob_D | apply ob_R | apply ax_I | apply ax_L | apply ax_D | apply ax_R | apply o303 | apply o307 | apply o302 | apply o301 | apply ax304 | apply ax305 | apply ax306 | apply ax308 | apply ax309 | apply ax310 | apply lt_S | apply ar305 | apply ar308 | apply ar309)) only [g241_8, g241_10, g241_11, g241_12, g241_14, g241_15, g241_17, g241_18, g241_21, g241_23, g241_24_8, g241_271, g241_272, g241_273, g241_274, g241_275, g241_277, g241_280, g250_0, g250_1, g250_4, g250_6, g250_7, g250_8, g250_9, g250_10, g250_11, g250_14, g250_16, g250_17, g250_20, g250_21, g250_24, g250_27, g250_28, g250_31, g250_32, g250_35, g250_38, g250_39, g250_42, g250_44, g250_45, g250_46, g250_49, g250_50, g250_51, g250_52, g250_53, g250_54, g250_57, g250_59, g250_60, g250_63, g250_64, g250_67, g250_70, g250_71, g250_74, g250_75, g250_78, g250_81, g250_82, g250_85, g250_87, g250_88, g250_89, g250_92, g250_93, g250_94, g250_95, g250_96, g250_97, g250_100, g250_102, g250_103, g250_106, g250_107, g250_110, g250_113, g250_114, g250_117, g250_118, g250_121, g250_124, g250_125, g250_126, g250_129, g250_131, g250_132, g250_133, g250_135, g250_138, g250_139, g250_141, g250_144, Option.toList, List.nil_append, List.cons_append, va_rf, nI_ltI, nI_leI, nI_eq, nI_add, nI_sub, nI_lt0, nI_e0, nI_m1, m1_nI, Nat.reduceEqDiff, Nat.reduceLT, Nat.reduceLeDiff, Nat.reduceAdd, Nat.reduceSub, Nat.reduceMul, ↓reduceIte, eq_self, nI_mul, u1, u2, et, r1 _, eτ, show ¬ τ = 0 by omega, r2 _, e2, z3, r3 _, eτ3, show ¬ τ3 = 0 by omega, r4 _, e4, z4, r5 _, t0]
      | .inl w, ⟨U5, sp5⟩ =>
        obtain ⟨τ5, hτ5, eτ5⟩ := rv_t U5
        obtain ⟨g6, r6, A6, K6, U6, sp6, e6⟩ := m_push2 (d := d + 2) S A5 sp5 (by omega) U5
        have S6 := MW_S A6 S
        rw [eτ5] at e6
        obtain ⟨-, -, -, -, z5⟩ := mw_nd A6 ht
        have V6 : AV g6 t [u, v, w] := AV_push (as' := [u, v]) V4 (AK_trans K5 K6) U6
        obtain ⟨g7, r7, A7, K7, O7, L7⟩ := m_enter (d := d) (tmf := tmf) S hg A6 sp6 V6 (Nat.le_refl _) (by omega) er ert (Nat.lt_of_le_of_lt (Nat.le_trans L5 (Nat.le_trans L3 L1)) h3) hdp (WF [u, v, w] t rfl)
        have S7 := MW_S A7 S
        refine ⟨am_setI g7 349 70 (nI t), fun Q => ?_, MW_top A7, AK_trans K04 (AK_trans (AK_le (AK_trans K5 K6) (by omega)) (AK_trans (AK_le K7 (by omega)) AK_I)), MO_I (by omega) O7, Nat.le_trans L7 (Nat.le_trans L5 (Nat.le_trans L3 L1))⟩
        simp (disch := first | with_reducible assumption | omega | exact Or.inl rfl | exact Or.inr rfl | exact bI_01 | exact c_cat | exact vt_ref | exact vt_null | rfl | with_reducible repeat (first | assumption | omega | apply S_I | apply S_L | apply S_D | apply ob_I | apply ob_L | apply ob_D | apply ob_R | apply ax_I | apply ax_L | apply ax_D | apply ax_R | apply o303 | apply o307 | apply o302 | apply o301 | apply ax304 | apply ax305 | apply ax306 | apply ax308 | apply ax309 | apply ax310 | apply lt_S | apply ar305 | apply ar308 | apply ar309)) only [g241_8, g241_10, g241_11, g241_12, g241_14, g241_15, g241_17, g241_18, g241_21, g241_23, g241_24_8, g241_271, g241_272, g241_273, g241_274, g241_275, g241_277, g241_280, g250_0, g250_1, g250_4, g250_6, g250_7, g250_8, g250_9, g250_10, g250_11, g250_14, g250_16, g250_17, g250_20, g250_21, g250_24, g250_27, g250_28, g250_31, g250_32, g250_35, g250_38, g250_39, g250_42, g250_44, g250_45, g250_46, g250_49, g250_50, g250_51, g250_52, g250_53, g250_54, g250_57, g250_59, g250_60, g250_63, g250_64, g250_67, g250_70, g250_71, g250_74, g250_75, g250_78, g250_81, g250_82, g250_85, g250_87, g250_88, g250_89, g250_92, g250_93, g250_94, g250_95, g250_96, g250_97, g250_100, g250_102, g250_103, g250_106, g250_107, g250_110, g250_113, g250_114, g250_117, g250_118, g250_121, g250_124, g250_125, g250_126, g250_129, g250_131, g250_132, g250_133, g250_135, g250_138, g250_139, g250_141, g250_144, Option.toList, List.nil_append, List.cons_append, va_rf, nI_ltI, nI_leI, nI_eq, nI_add, nI_sub, nI_lt0, nI_e0, nI_m1, m1_nI, Nat.reduceEqDiff, Nat.reduceLT, Nat.reduceLeDiff, Nat.reduceAdd, Nat.reduceSub, Nat.reduceMul, ↓reduceIte, eq_self, nI_mul, u1, u2, et, r1 _, eτ, show ¬ τ = 0 by omega, r2 _, e2, z3, r3 _, eτ3, show ¬ τ3 = 0 by omega, r4 _, e4, z4, r5 _, eτ5, show ¬ τ5 = 0 by omega, r6 _, e6, z5, lN_i8, r7 _]
/-- one more asking of a root -/
theorem m_workOf {r0 : Nat} {x : UInt64} (S : am_S h) (hg : gf < 8) (A : MW h g r dp t σ) (sp : am_I g 349 64 = nI 0) (kx : okD x) (h1f : t + 1 ≤ tmf) (h6 : tmf ≤ 600) (er : am_I h 356 (48 + gf) = nI r0) (ert : rt (48 + gf) = r0) (hf : σ.1 < f + 1) (hdp : dp ≤ 20) (W : dp < 20 → ∀ as', as'.length = 1 → Wk h r tt rt cv cs f (48 + gf) as' t 0 (dp + 1) tmf (d + 1) r0) :
    ∃ g', am_run (d + 3) 254 [some (.ref 349), some (.int (nI gf)), some (.double x), none, none] g (some (.int (nI (okN (wo (apX tt rt cv cs f dp gf) x σ).1)))) g' ∧ MW h g' r dp t (wo (apX tt rt cv cs f dp gf) x σ).2 ∧ AK g g' t ∧ MO h g' r (wo (apX tt rt cv cs f dp gf) x σ).1 ∧ (wo (apX tt rt cv cs f dp gf) x σ).2.1 ≤ σ.1 := by
  have Sg := MW_S A S
  unfold wo
  by_cases s0 : σ.1 = 0
  · rw [if_pos s0]
    obtain ⟨g', r1, A1, K1, O1⟩ := m_stepN (d := d + 1) A S s0
    refine ⟨g', fun Q => ?_, A1, K1, O1, Nat.le_refl _⟩
    simp (disch := first | with_reducible assumption | omega | exact Or.inl rfl | exact Or.inr rfl | exact bI_01 | exact c_cat | exact vt_ref | exact vt_null | rfl | with_reducible repeat (first | assumption | omega | apply S_I | apply S_L | apply S_D | apply ob_I | apply ob_L | apply ob_D | apply ob_R | apply ax_I | apply ax_L | apply ax_D | apply ax_R | apply o303 | apply o307 | apply o302 | apply o301 | apply ax304 | apply ax305 | apply ax306 | apply ax308 | apply ax309 | apply ax310 | apply lt_S | apply ar305 | apply ar308 | apply ar309)) only [g254_0, g254_1, g254_4, g254_7, g254_8, g254_9, g254_10, g254_13, g254_15, g254_16, g254_17, g254_20, g254_21, g254_24, g254_25, g254_26, g254_28, g254_31, g254_32, g254_34, g254_37, g254_38, g254_41, g254_44, g254_45, g254_48, g254_49, Option.toList, List.nil_append, List.cons_append, va_rf, nI_ltI, nI_leI, nI_eq, nI_add, nI_sub, nI_lt0, nI_e0, nI_m1, m1_nI, Nat.reduceEqDiff, Nat.reduceLT, Nat.reduceLeDiff, Nat.reduceAdd, Nat.reduceSub, Nat.reduceMul, ↓reduceIte, eq_self, r1 _, oF, okN]
  · rw [if_neg s0]
    have st := m_stepY (d := d + 2) A S s0
    have A1 := MW_step A s0
    have S1 := MW_S A1 S
    have et := A.2.2.2.2.2.2.2.1
    obtain ⟨g2, r2, A2, K2, O2⟩ := m_giveD (d := d + 1) (x := x) A1 S (by rw [rI_k (by decide)]; exact sp) (okD_nn kx)
    rw [show gv x = .inl (.inr x) from if_pos (finB_ok.mpr kx)] at O2
    obtain ⟨U2, sp2⟩ := O2
    have S2 := MW_S A2 S
    obtain ⟨g3, r3, A3, K3, U3, sp3, -⟩ := m_push2 (d := d + 2) S A2 sp2 (by omega) U2
    have S3 := MW_S A3 S
    have V3 : AV g3 t [.inr x] := AV_push (as' := []) AV_nil K3 U3
    obtain ⟨g4, r4, A4, K4, O4, L4⟩ := m_enter (d := d) (tmf := tmf) (σ := (σ.1 - 1, σ.2)) S hg A3 sp3 V3 (Nat.le_refl _) (by omega) er ert (by show σ.1 - 1 < f; omega) hdp (fun c => W c [.inr x] rfl)
    have S4 := MW_S A4 S
    refine ⟨am_setI g4 349 70 (nI t), fun Q => ?_, MW_top A4, AK_trans AK_I (AK_trans K2 (AK_trans K3 (AK_trans (AK_le K4 (by omega)) AK_I))), MO_I (by omega) O4, Nat.le_trans L4 (Nat.sub_le _ _)⟩
    generalize apX tt rt cv cs f dp gf [.inr x] (σ.1 - 1, σ.2) = q at O4 ⊢
    obtain ⟨q, σ1⟩ := q
    cases q with
    | inr q =>
      have t0 := MO_t0 O4
      simp (disch := first | with_reducible assumption | omega | exact Or.inl rfl | exact Or.inr rfl | exact bI_01 | exact c_cat | exact vt_ref | exact vt_null | rfl | with_reducible repeat (first | assumption | omega | apply S_I | apply S_L | apply S_D | apply ob_I | apply ob_L | apply ob_D | apply ob_R | apply ax_I | apply ax_L | apply ax_D | apply ax_R | apply o303 | apply o307 | apply o302 | apply o301 | apply ax304 | apply ax305 | apply ax306 | apply ax308 | apply ax309 | apply ax310 | apply lt_S | apply ar305 | apply ar308 | apply ar309)) only [g254_0, g254_1, g254_4, g254_7, g254_8, g254_9, g254_10, g254_13, g254_15, g254_16, g254_17, g254_20, g254_21, g254_24, g254_25, g254_26, g254_28, g254_31, g254_32, g254_34, g254_37, g254_38, g254_41, g254_44, g254_45, g254_48, g254_49, Option.toList, List.nil_append, List.cons_append, va_rf, nI_ltI, nI_leI, nI_eq, nI_add, nI_sub, nI_lt0, nI_e0, nI_m1, m1_nI, Nat.reduceEqDiff, Nat.reduceLT, Nat.reduceLeDiff, Nat.reduceAdd, Nat.reduceSub, Nat.reduceMul, ↓reduceIte, eq_self, hI_I, hI_L, hI_D, hI_R, hL_I, hL_L, hL_D, hL_R, hD_I, hD_L, hD_D, hD_R, hR_I, hR_L, hR_D, ↓reduceIte, Nat.reduceEqDiff, st _, et, r2 _, r3 _, r4 _, t0, okN]
    | inl q =>
      obtain ⟨τ, hτ, eτ⟩ := rv_t O4.1
      simp (disch := first | with_reducible assumption | omega | exact Or.inl rfl | exact Or.inr rfl | exact bI_01 | exact c_cat | exact vt_ref | exact vt_null | rfl | with_reducible repeat (first | assumption | omega | apply S_I | apply S_L | apply S_D | apply ob_I | apply ob_L | apply ob_D | apply ob_R | apply ax_I | apply ax_L | apply ax_D | apply ax_R | apply o303 | apply o307 | apply o302 | apply o301 | apply ax304 | apply ax305 | apply ax306 | apply ax308 | apply ax309 | apply ax310 | apply lt_S | apply ar305 | apply ar308 | apply ar309)) only [g254_0, g254_1, g254_4, g254_7, g254_8, g254_9, g254_10, g254_13, g254_15, g254_16, g254_17, g254_20, g254_21, g254_24, g254_25, g254_26, g254_28, g254_31, g254_32, g254_34, g254_37, g254_38, g254_41, g254_44, g254_45, g254_48, g254_49, Option.toList, List.nil_append, List.cons_append, va_rf, nI_ltI, nI_leI, nI_eq, nI_add, nI_sub, nI_lt0, nI_e0, nI_m1, m1_nI, Nat.reduceEqDiff, Nat.reduceLT, Nat.reduceLeDiff, Nat.reduceAdd, Nat.reduceSub, Nat.reduceMul, ↓reduceIte, eq_self, hI_I, hI_L, hI_D, hI_R, hL_I, hL_L, hL_D, hL_R, hD_I, hD_L, hD_D, hD_R, hR_I, hR_L, hR_D, ↓reduceIte, Nat.reduceEqDiff, st _, et, r2 _, r3 _, r4 _, eτ, show ¬ τ = 0 by omega, okN]
end MFN

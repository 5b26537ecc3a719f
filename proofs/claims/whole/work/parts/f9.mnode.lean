/-! THE MODEL: work, node by node -/
def AV (g : am_H) (b : Nat) (as : List VL) : Prop := ∀ i v, as[i]? = some v → argv g (b + i) v
theorem AV_keep {g g' : am_H} {b t : Nat} {as : List VL} (A : AV g b as) (K : AK g g' t) (h : b + as.length ≤ t) : AV g' b as := fun i v hi => by
  have hl := (List.getElem?_eq_some_iff.mp hi).1
  obtain ⟨k1, k2, k3⟩ := K (b + i) (by omega)
  have := A i v hi
  match v, this with
  | .inl x, ⟨e1, e2⟩ => exact ⟨k1.trans e1, k2.trans e2⟩
  | .inr x, ⟨e1, e2, e3⟩ => exact ⟨k1.trans e1, k3.trans e2, e3⟩
/-- one node behind its step -/
def evX (tt : Nat → ntT) (rt : Nat → Nat) (cv : Nat → Option (Option VL)) (cs : Nat → Nat → VL) (f s : Nat) (as : List VL) (sh dp n : Nat) (σ : SR) : FO :=
  evN cv (fun k => if 48 ≤ s ∧ s < 56 then as.getD k (.inl 0) else cs sh k) (tt s) n (fun n σ => ev tt rt cv cs f s as sh dp n σ)
      (fun g as σ => if dp = 20 then (oF 4, σ) else ev tt rt cv cs f (48 + g) as 0 (dp + 1) (rt (48 + g)) σ) σ
/-- work(n) does what ev says -/
def Wk (h : am_H) (r : Nat) (tt : Nat → ntT) (rt : Nat → Nat) (cv : Nat → Option (Option VL)) (cs : Nat → Nat → VL) (f s : Nat) (as : List VL) (b sh dp tm d n : Nat) : Prop :=
  ∀ t g σ, t ≤ tm → b + as.length ≤ t → σ.1 < f → MW h g r dp t σ → am_I g 349 64 = nI 0 → AV g b as →
    ∃ g', am_run d 241 [some (.ref 349), some (.int (nI s)), some (.int (nI b)), some (.int (nI sh)), some (.int (nI n)), none, none, none, none, none, none] g none g' ∧ MW h g' r dp t (ev tt rt cv cs f s as sh dp n σ).2 ∧ AK g g' t ∧ MO h g' r (ev tt rt cv cs f s as sh dp n σ).1 ∧ (ev tt rt cv cs f s as sh dp n σ).2.1 ≤ σ.1
def Nd (h : am_H) (r : Nat) (tt : Nat → ntT) (rt : Nat → Nat) (cv : Nat → Option (Option VL)) (cs : Nat → Nat → VL) (f s : Nat) (as : List VL) (b sh dp tm d n : Nat) : Prop :=
  ∀ t g σ, t ≤ tm → b + as.length ≤ t → σ.1 < f → MW h g r dp t σ → am_I g 349 64 = nI 0 → AV g b as →
    ∃ g', (∀ Q, am_J d 241 8 [some (.ref 349), some (.int (nI s)), some (.int (nI b)), some (.int (nI sh)), some (.int (nI n)), none, none, none, none, none, none] [] g Q ↔ Q none g') ∧ MW h g' r dp t (evX tt rt cv cs f s as sh dp n σ).2 ∧ AK g g' t ∧ MO h g' r (evX tt rt cv cs f s as sh dp n σ).1 ∧ (evX tt rt cv cs f s as sh dp n σ).2.1 ≤ σ.1
section MND
variable {h : am_H} {r : Nat} {rt : Nat → Nat} {cv : Nat → Option (Option VL)} {cs : Nat → Nat → VL} {P : Nat → Prop} {f s b sh dp tm d n : Nat} {as : List VL}
theorem Wk_of {tt : Nat → ntT} (S : am_S h) (N : Nd h r tt rt cv cs f s as b sh dp tm (d + 2) n) : Wk h r tt rt cv cs (f + 1) s as b sh dp tm (d + 2) n := by
  intro t g σ ht hb hf A sp V
  have Sg := MW_S A S
  by_cases s0 : σ.1 = 0
  · have e : ev tt rt cv cs (f + 1) s as sh dp n σ = (oF 8, σ) := if_pos s0
    rw [e]
    obtain ⟨g', r1, A1, K1, O1⟩ := m_stepN (d := d) A S s0
    refine ⟨g', fun Q => ?_, A1, K1, O1, Nat.le_refl _⟩
    simp (disch := first | with_reducible assumption | omega | exact Or.inl rfl | exact Or.inr rfl | exact bI_01 | exact c_cat | exact vt_ref | exact vt_null | rfl | with_reducible repeat (first | assumption | omega | apply S_I | apply S_L | apply S_D | apply ob_I | apply ob_L | apply ob_D | apply ob_R | apply ax_I | apply ax_L | apply ax_D | apply ax_R | apply o303 | apply o307 | apply o302 | apply o301 | apply ax304 | apply ax305 | apply ax306 | apply ax308 | apply ax309 | apply ax310 | apply lt_S | apply ar305 | apply ar308 | apply ar309)) only [g241_0, g241_1, g241_4, g241_7, Option.toList, List.nil_append, List.cons_append, va_rf, nI_ltI, nI_leI, nI_eq, nI_add, nI_sub, nI_lt0, nI_e0, nI_m1, m1_nI, Nat.reduceEqDiff, Nat.reduceLT, Nat.reduceLeDiff, Nat.reduceAdd, Nat.reduceSub, Nat.reduceMul, ↓reduceIte, eq_self, r1 _]
  · have e : ev tt rt cv cs (f + 1) s as sh dp n σ = evX tt rt cv cs f s as sh dp n (σ.1 - 1, σ.2) := if_neg s0
    rw [e]
    have st := m_stepY (d := d + 1) A S s0
    have A1 := MW_step A s0
    obtain ⟨g', r1, A2, K2, O2, L2⟩ := N t (am_setI g 349 56 (nI (1000 - (σ.1 - 1)))) (σ.1 - 1, σ.2) ht hb (by show σ.1 - 1 < f; omega) A1 (by rw [rI_k (by decide)]; exact sp) (AV_keep V (AK_I (t := t)) hb)
    refine ⟨g', fun Q => ?_, A2, AK_trans AK_I K2, O2, Nat.le_trans L2 (Nat.sub_le _ _)⟩
    rw [← r1 Q]
    simp (disch := first | with_reducible assumption | omega | exact Or.inl rfl | exact Or.inr rfl | exact bI_01 | exact c_cat | exact vt_ref | exact vt_null | rfl | with_reducible repeat (first | assumption | omega | apply S_I | apply S_L | apply S_D | apply ob_I | apply ob_L | apply ob_D | apply ob_R | apply ax_I | apply ax_L | apply ax_D | apply ax_R | apply o303 | apply o307 | apply o302 | apply o301 | apply ax304 | apply ax305 | apply ax306 | apply ax308 | apply ax309 | apply ax310 | apply lt_S | apply ar305 | apply ar308 | apply ar309)) only [g241_0, g241_1, g241_4, g241_7, Option.toList, List.nil_append, List.cons_append, va_rf, nI_ltI, nI_leI, nI_eq, nI_add, nI_sub, nI_lt0, nI_e0, nI_m1, m1_nI, Nat.reduceEqDiff, Nat.reduceLT, Nat.reduceLeDiff, Nat.reduceAdd, Nat.reduceSub, Nat.reduceMul, ↓reduceIte, eq_self, st _]
theorem mw_nd {g : am_H} {t : Nat} {σ : SR} {k xa xb xc : Int32} {w : Int64} (A : MW h g r dp t σ) (ht : tb h (48 * s) n = (k, xa, xb, xc, w)) : am_I g 352 (48 * s + n) = k ∧ am_I g 353 (48 * s + n) = xa ∧ am_I g 354 (48 * s + n) = xb ∧ am_I g 355 (48 * s + n) = xc ∧ am_L g 357 (48 * s + n) = w := nd_at2 rfl A.1 (by decide) (by decide) (by decide) (by decide) (by decide) ht
theorem nd_long {v : Nat} (S : am_S h) (hs : s < 77) (hn : n < 48) (ht : tb h (48 * s) n = (nI 1, nI 0, nI 0, nI 0, lN v)) : Nd h r (fun s => tb h (48 * s)) rt cv cs f s as b sh dp tm (d + 1) n := by
  intro t g σ h1 h2 h3 A sp V
  have Sg := MW_S A S
  obtain ⟨u1, -, -, -, u5⟩ := mw_nd A ht
  have e : evX (fun s => tb h (48 * s)) rt cv cs f s as sh dp n σ = (oL (lN v), σ) := by
    unfold evX evN
    simp only [ht, ↓reduceIte]; rfl
  rw [e]
  obtain ⟨g', r1, A1, K1, O1⟩ := m_giveL (d := d) (x := lN v) A S sp
  refine ⟨g', fun Q => ?_, A1, K1, O1, Nat.le_refl _⟩
  simp (disch := first | with_reducible assumption | omega | exact Or.inl rfl | exact Or.inr rfl | exact bI_01 | exact c_cat | exact vt_ref | exact vt_null | rfl | with_reducible repeat (first | assumption | omega | apply S_I | apply S_L | apply S_D | apply ob_I | apply ob_L | apply ob_D | apply ob_R | apply ax_I | apply ax_L | apply ax_D | apply ax_R | apply o303 | apply o307 | apply o302 | apply o301 | apply ax304 | apply ax305 | apply ax306 | apply ax308 | apply ax309 | apply ax310 | apply lt_S | apply ar305 | apply ar308 | apply ar309)) only [g241_8, g241_10, g241_11, g241_12, g241_14, g241_15, g241_17, g241_18, g241_21, g241_23, g241_24_1, g241_76, g241_77, g241_78, g241_81, g241_83, g241_84, g241_87, Option.toList, List.nil_append, List.cons_append, va_rf, nI_ltI, nI_leI, nI_eq, nI_add, nI_sub, nI_lt0, nI_e0, nI_m1, m1_nI, Nat.reduceEqDiff, Nat.reduceLT, Nat.reduceLeDiff, Nat.reduceAdd, Nat.reduceSub, Nat.reduceMul, ↓reduceIte, eq_self, nI_mul, u1, u5, r1 _]
theorem nd_deci {v c : Nat} (S : am_S h) (hs : s < 77) (hn : n < 48) (hc : c < 16) (ht : tb h (48 * s) n = (nI 2, nI c, nI 0, nI 0, lN v)) : Nd h r (fun s => tb h (48 * s)) rt cv cs f s as b sh dp tm (d + 2) n := by
  intro t g σ h1 h2 h3 A sp V
  have Sg := MW_S A S
  obtain ⟨u1, u2, -, -, u5⟩ := mw_nd A ht
  have e : evX (fun s => tb h (48 * s)) rt cv cs f s as sh dp n σ = (.inl (.inr (Jvm.FP.ddiv (Jvm.FP.l2d (lN v)) (tp c))), σ) := by
    unfold evX evN
    simp (disch := omega) only [ht, nI_eq, Nat.reduceEqDiff, ↓reduceIte, xN_n]
  rw [e]
  have ok := sh_ok (lN v) hc
  have nn := okD_nn ok
  have pw := m_power (d := d + 1) (h := g) hc
  obtain ⟨g', r1, A1, K1, O1⟩ := m_giveD (d := d) A S sp nn
  rw [show gv (Jvm.FP.ddiv (Jvm.FP.l2d (lN v)) (tp c)) = .inl (.inr (Jvm.FP.ddiv (Jvm.FP.l2d (lN v)) (tp c))) from if_pos (finB_ok.mpr ok)] at O1
  refine ⟨g', fun Q => ?_, A1, K1, O1, Nat.le_refl _⟩
  simp (disch := first | with_reducible assumption | omega | exact Or.inl rfl | exact Or.inr rfl | exact bI_01 | exact c_cat | exact vt_ref | exact vt_null | rfl | with_reducible repeat (first | assumption | omega | apply S_I | apply S_L | apply S_D | apply ob_I | apply ob_L | apply ob_D | apply ob_R | apply ax_I | apply ax_L | apply ax_D | apply ax_R | apply o303 | apply o307 | apply o302 | apply o301 | apply ax304 | apply ax305 | apply ax306 | apply ax308 | apply ax309 | apply ax310 | apply lt_S | apply ar305 | apply ar308 | apply ar309)) only [g241_8, g241_10, g241_11, g241_12, g241_14, g241_15, g241_17, g241_18, g241_21, g241_23, g241_24_2, g241_88, g241_89, g241_90, g241_93, g241_95, g241_96, g241_97, g241_98, g241_101, g241_103, g241_104, g241_107, g241_108, g241_111, Option.toList, List.nil_append, List.cons_append, va_rf, nI_ltI, nI_leI, nI_eq, nI_add, nI_sub, nI_lt0, nI_e0, nI_m1, m1_nI, Nat.reduceEqDiff, Nat.reduceLT, Nat.reduceLeDiff, Nat.reduceAdd, Nat.reduceSub, Nat.reduceMul, ↓reduceIte, eq_self, nI_mul, u1, u2, u5, pw _, r1 _]
theorem nd_ref {c : Nat} (S : am_S h) (hs : s < 77) (hn : n < 48) (C : cvH h cv P) (cr : r < 256) (hc : P c) (ht : tb h (48 * s) n = (nI 3, nI c, nI 0, nI 0, lN 0)) : Nd h r (fun s => tb h (48 * s)) rt cv cs f s as b sh dp tm (d + 3) n := by
  intro t g σ h1 h2 h3 A sp V
  have Sg := MW_S A S
  obtain ⟨u1, u2, -, -, -⟩ := mw_nd A ht
  have hc2 := (C c hc).1
  obtain ⟨g', r1, A1, K1, O1, N1, -⟩ := m_readCell (d := d) (ps := false) A S sp C cr hc
  rw [bI_f] at r1
  have e : ∃ o, rdR cv c false = some o ∧ evX (fun s => tb h (48 * s)) rt cv cs f s as sh dp n σ = (o, (σ.1, σ.2 ++ [c])) := by
    unfold evX evN
    simp (disch := omega) only [ht, nI_eq, Nat.reduceEqDiff, ↓reduceIte, xN_n]
    match hr : rdR cv c false with
    | none =>
      exfalso
      unfold rdR at hr
      match hcv : cv c with
      | none => rw [hcv] at hr; cases hr
      | some none => rw [hcv] at hr; cases hr
      | some (some v) => rw [hcv] at hr; cases hr
    | some o => exact ⟨o, rfl, rfl⟩
  obtain ⟨o, e1, e2⟩ := e
  rw [e2]
  refine ⟨g', fun Q => ?_, A1, K1, O1 o e1, Nat.le_refl _⟩
  simp (disch := first | with_reducible assumption | omega | exact Or.inl rfl | exact Or.inr rfl | exact bI_01 | exact c_cat | exact vt_ref | exact vt_null | rfl | with_reducible repeat (first | assumption | omega | apply S_I | apply S_L | apply S_D | apply ob_I | apply ob_L | apply ob_D | apply ob_R | apply ax_I | apply ax_L | apply ax_D | apply ax_R | apply o303 | apply o307 | apply o302 | apply o301 | apply ax304 | apply ax305 | apply ax306 | apply ax308 | apply ax309 | apply ax310 | apply lt_S | apply ar305 | apply ar308 | apply ar309)) only [g241_8, g241_10, g241_11, g241_12, g241_14, g241_15, g241_17, g241_18, g241_21, g241_23, g241_24_3, g241_112, g241_113, g241_114, g241_117, g241_119, g241_120, g241_121, g241_124, Option.toList, List.nil_append, List.cons_append, va_rf, nI_ltI, nI_leI, nI_eq, nI_add, nI_sub, nI_lt0, nI_e0, nI_m1, m1_nI, Nat.reduceEqDiff, Nat.reduceLT, Nat.reduceLeDiff, Nat.reduceAdd, Nat.reduceSub, Nat.reduceMul, ↓reduceIte, eq_self, nI_mul, u1, u2, r1 _]
theorem nd_name {k : Nat} (S : am_S h) (hs : s < 77) (hn : n < 48) (ht : tb h (48 * s) n = (nI 4, nI k, nI 0, nI 0, lN 0)) (hb600 : tm ≤ 600) (hA : 48 ≤ s ∧ s < 56 → k < as.length) (hC : ¬ (48 ≤ s ∧ s < 56) → 5 * sh + k < 20 ∧ csv h (5 * sh + k) (cs sh k)) (hk : k < 1000) : Nd h r (fun s => tb h (48 * s)) rt cv cs f s as b sh dp tm (d + 3) n := by
  intro t g σ h1 h2 h3 A sp V
  have Sg := MW_S A S
  obtain ⟨u1, u2, -, -, -⟩ := mw_nd A ht
  have e : evX (fun s => tb h (48 * s)) rt cv cs f s as sh dp n σ = (.inl (if 48 ≤ s ∧ s < 56 then as.getD k (.inl 0) else cs sh k), σ) := by
    unfold evX evN
    simp (disch := omega) only [ht, nI_eq, Nat.reduceEqDiff, ↓reduceIte, xN_n]
  rw [e]
  by_cases c : 48 ≤ s ∧ s < 56
  · rw [if_pos c]
    have hk2 := hA c
    have va := V k (as.getD k (.inl 0)) (by rw [List.getD_eq_getElem?_getD, List.getElem?_eq_getElem hk2]; rfl)
    obtain ⟨g', r1, A1, K1, O1⟩ := m_nameA (d := d + 2) (x := nI sh) A S sp c (by omega) va
    refine ⟨g', fun Q => ?_, A1, K1, O1, Nat.le_refl _⟩
    simp (disch := first | with_reducible assumption | omega | exact Or.inl rfl | exact Or.inr rfl | exact bI_01 | exact c_cat | exact vt_ref | exact vt_null | rfl | with_reducible repeat (first | assumption | omega | apply S_I | apply S_L | apply S_D | apply ob_I | apply ob_L | apply ob_D | apply ob_R | apply ax_I | apply ax_L | apply ax_D | apply ax_R | apply o303 | apply o307 | apply o302 | apply o301 | apply ax304 | apply ax305 | apply ax306 | apply ax308 | apply ax309 | apply ax310 | apply lt_S | apply ar305 | apply ar308 | apply ar309)) only [g241_8, g241_10, g241_11, g241_12, g241_14, g241_15, g241_17, g241_18, g241_21, g241_23, g241_24_4, g241_125, g241_126, g241_127, g241_128, g241_129, g241_130, g241_133, g241_135, g241_136, g241_139, Option.toList, List.nil_append, List.cons_append, va_rf, nI_ltI, nI_leI, nI_eq, nI_add, nI_sub, nI_lt0, nI_e0, nI_m1, m1_nI, Nat.reduceEqDiff, Nat.reduceLT, Nat.reduceLeDiff, Nat.reduceAdd, Nat.reduceSub, Nat.reduceMul, ↓reduceIte, eq_self, nI_mul, u1, u2, r1 _]
  · rw [if_neg c]
    obtain ⟨c1, c2⟩ := hC c
    obtain ⟨g', r1, A1, K1, O1⟩ := m_nameC (d := d) (x := nI b) A S sp c hs c1 c2
    refine ⟨g', fun Q => ?_, A1, K1, O1, Nat.le_refl _⟩
    simp (disch := first | with_reducible assumption | omega | exact Or.inl rfl | exact Or.inr rfl | exact bI_01 | exact c_cat | exact vt_ref | exact vt_null | rfl | with_reducible repeat (first | assumption | omega | apply S_I | apply S_L | apply S_D | apply ob_I | apply ob_L | apply ob_D | apply ob_R | apply ax_I | apply ax_L | apply ax_D | apply ax_R | apply o303 | apply o307 | apply o302 | apply o301 | apply ax304 | apply ax305 | apply ax306 | apply ax308 | apply ax309 | apply ax310 | apply lt_S | apply ar305 | apply ar308 | apply ar309)) only [g241_8, g241_10, g241_11, g241_12, g241_14, g241_15, g241_17, g241_18, g241_21, g241_23, g241_24_4, g241_125, g241_126, g241_127, g241_128, g241_129, g241_130, g241_133, g241_135, g241_136, g241_139, Option.toList, List.nil_append, List.cons_append, va_rf, nI_ltI, nI_leI, nI_eq, nI_add, nI_sub, nI_lt0, nI_e0, nI_m1, m1_nI, Nat.reduceEqDiff, Nat.reduceLT, Nat.reduceLeDiff, Nat.reduceAdd, Nat.reduceSub, Nat.reduceMul, ↓reduceIte, eq_self, nI_mul, u1, u2, r1 _]
theorem nd_minus {i : Nat} (S : am_S h) (hs : s < 77) (hn : n < 48) (hi : i < 48) (ht : tb h (48 * s) n = (nI 5, nI i, nI 0, nI 0, lN 0)) (W : Wk h r (fun s => tb h (48 * s)) rt cv cs f s as b sh dp tm (d + 2) i) : Nd h r (fun s => tb h (48 * s)) rt cv cs f s as b sh dp tm (d + 3) n := by
  intro t g σ h1 h2 h3 A sp V
  have Sg := MW_S A S
  obtain ⟨u1, u2, -, -, -⟩ := mw_nd A ht
  obtain ⟨g1, r1, A1, K1, O1, L1⟩ := W t g σ h1 h2 h3 A sp V
  have S1 := MW_S A1 S
  have e : evX (fun s => tb h (48 * s)) rt cv cs f s as sh dp n σ = andThen (ev (fun s => tb h (48 * s)) rt cv cs f s as sh dp i σ) (fun v σ => (.inl (negV v), σ)) := by
    unfold evX evN
    simp (disch := omega) only [ht, nI_eq, Nat.reduceEqDiff, ↓reduceIte, xN_n]
  rw [e]
  generalize ev (fun s => tb h (48 * s)) rt cv cs f s as sh dp i σ = o at A1 O1 L1 ⊢
  obtain ⟨o, σ1⟩ := o
  match o, O1 with
  | .inr q, O1 =>
    have t0 := MO_t0 O1
    refine ⟨g1, fun Q => ?_, A1, K1, O1, L1⟩
    rw [g241_8]
    simp (disch := first | with_reducible assumption | omega | exact Or.inl rfl | exact Or.inr rfl | exact bI_01 | exact c_cat | exact vt_ref | exact vt_null | rfl | with_reducible repeat (first | assumption | omega | apply S_I | apply S_L | apply S_D | apply ob_I | apply ob_L | apply ob_D | apply ob_R | apply ax_I | apply ax_L | apply ax_D | apply ax_R | apply o303 | apply o307 | apply o302 | apply o301 | apply ax304 | apply ax305 | apply ax306 | apply ax308 | apply ax309 | apply ax310 | apply lt_S | apply ar305 | apply ar308 | apply ar309)) only [g241_10, g241_11, g241_12, g241_14, g241_15, g241_17, g241_18, g241_21, g241_23, g241_24_5, g241_140, g241_141, g241_142, g241_143, g241_144, g241_145, g241_148, g241_150, g241_151, g241_154, g241_155, g241_158, g241_159, g241_162, g241_163, g241_164, g241_167, g241_168, g241_171, g241_174, g241_175, g241_178, g241_179, g241_182, g241_183, g241_184, g241_187, g241_188, g241_191, Option.toList, List.nil_append, List.cons_append, va_rf, nI_ltI, nI_leI, nI_eq, nI_add, nI_sub, nI_lt0, nI_e0, nI_m1, m1_nI, Nat.reduceEqDiff, Nat.reduceLT, Nat.reduceLeDiff, Nat.reduceAdd, Nat.reduceSub, Nat.reduceMul, ↓reduceIte, eq_self, nI_mul, u1, u2, r1 _, t0]
  | .inl (.inl x), ⟨⟨e1, e2⟩, sp1⟩ =>
    obtain ⟨g2, r2, A2, K2, O2⟩ := m_giveL (d := d + 2) (x := -x) A1 S sp1
    refine ⟨g2, fun Q => ?_, A2, AK_trans K1 K2, O2, L1⟩
    rw [g241_8]
    simp (disch := first | with_reducible assumption | omega | exact Or.inl rfl | exact Or.inr rfl | exact bI_01 | exact c_cat | exact vt_ref | exact vt_null | rfl | with_reducible repeat (first | assumption | omega | apply S_I | apply S_L | apply S_D | apply ob_I | apply ob_L | apply ob_D | apply ob_R | apply ax_I | apply ax_L | apply ax_D | apply ax_R | apply o303 | apply o307 | apply o302 | apply o301 | apply ax304 | apply ax305 | apply ax306 | apply ax308 | apply ax309 | apply ax310 | apply lt_S | apply ar305 | apply ar308 | apply ar309)) only [g241_10, g241_11, g241_12, g241_14, g241_15, g241_17, g241_18, g241_21, g241_23, g241_24_5, g241_140, g241_141, g241_142, g241_143, g241_144, g241_145, g241_148, g241_150, g241_151, g241_154, g241_155, g241_158, g241_159, g241_162, g241_163, g241_164, g241_167, g241_168, g241_171, g241_174, g241_175, g241_178, g241_179, g241_182, g241_183, g241_184, g241_187, g241_188, g241_191, Option.toList, List.nil_append, List.cons_append, va_rf, nI_ltI, nI_leI, nI_eq, nI_add, nI_sub, nI_lt0, nI_e0, nI_m1, m1_nI, Nat.reduceEqDiff, Nat.reduceLT, Nat.reduceLeDiff, Nat.reduceAdd, Nat.reduceSub, Nat.reduceMul, ↓reduceIte, eq_self, nI_mul, u1, u2, r1 _, e1, e2, r2 _]
  | .inl (.inr x), ⟨⟨e1, e2, e3⟩, sp1⟩ =>
    have kn : okD (Jvm.FP.dneg x) := by
      have t := Jvm.FP.val64_dneg x
      obtain ⟨s', c', q', ex⟩ := okD_fin e3
      rw [ex] at t
      exact okD_of ⟨_, c', q', t⟩
    obtain ⟨g2, r2, A2, K2, O2⟩ := m_giveD (d := d + 1) (x := Jvm.FP.dneg x) A1 S sp1 (okD_nn kn)
    rw [show gv (Jvm.FP.dneg x) = .inl (.inr (Jvm.FP.dneg x)) from if_pos (finB_ok.mpr kn)] at O2
    refine ⟨g2, fun Q => ?_, A2, AK_trans K1 K2, O2, L1⟩
    rw [g241_8]
    simp (disch := first | with_reducible assumption | omega | exact Or.inl rfl | exact Or.inr rfl | exact bI_01 | exact c_cat | exact vt_ref | exact vt_null | rfl | with_reducible repeat (first | assumption | omega | apply S_I | apply S_L | apply S_D | apply ob_I | apply ob_L | apply ob_D | apply ob_R | apply ax_I | apply ax_L | apply ax_D | apply ax_R | apply o303 | apply o307 | apply o302 | apply o301 | apply ax304 | apply ax305 | apply ax306 | apply ax308 | apply ax309 | apply ax310 | apply lt_S | apply ar305 | apply ar308 | apply ar309)) only [g241_10, g241_11, g241_12, g241_14, g241_15, g241_17, g241_18, g241_21, g241_23, g241_24_5, g241_140, g241_141, g241_142, g241_143, g241_144, g241_145, g241_148, g241_150, g241_151, g241_154, g241_155, g241_158, g241_159, g241_162, g241_163, g241_164, g241_167, g241_168, g241_171, g241_174, g241_175, g241_178, g241_179, g241_182, g241_183, g241_184, g241_187, g241_188, g241_191, Option.toList, List.nil_append, List.cons_append, va_rf, nI_ltI, nI_leI, nI_eq, nI_add, nI_sub, nI_lt0, nI_e0, nI_m1, m1_nI, Nat.reduceEqDiff, Nat.reduceLT, Nat.reduceLeDiff, Nat.reduceAdd, Nat.reduceSub, Nat.reduceMul, ↓reduceIte, eq_self, nI_mul, u1, u2, r1 _, e1, e2, r2 _]
theorem nd_two {o i j : Nat} (S : am_S h) (hs : s < 77) (hn : n < 48) (hi : i < 48) (hj : j < 48) (ho : o ∈ [43, 45, 42, 47, 37, 60, 76, 61, 78]) (ht : tb h (48 * s) n = (nI 6, nI o, nI i, nI j, lN 0)) (W : Wk h r (fun s => tb h (48 * s)) rt cv cs f s as b sh dp tm (d + 3) i) (W2 : Wk h r (fun s => tb h (48 * s)) rt cv cs f s as b sh dp tm (d + 3) j) : Nd h r (fun s => tb h (48 * s)) rt cv cs f s as b sh dp tm (d + 4) n := by
  intro t g σ h1 h2 h3 A sp V
  have ho2 : o < 100 := by
    simp only [List.mem_cons, List.not_mem_nil, or_false] at ho
    omega
  have Sg := MW_S A S
  obtain ⟨u1, u2, u3, -, -⟩ := mw_nd A ht
  obtain ⟨g1, r1, A1, K1, O1, L1⟩ := W t g σ h1 h2 h3 A sp V
  have S1 := MW_S A1 S
  obtain ⟨-, -, -, w4, -⟩ := mw_nd A1 ht
  have e : evX (fun s => tb h (48 * s)) rt cv cs f s as sh dp n σ = andThen (ev (fun s => tb h (48 * s)) rt cv cs f s as sh dp i σ) (fun u σ => andThen (ev (fun s => tb h (48 * s)) rt cv cs f s as sh dp j σ) (fun v σ => (op2 o u v, σ))) := by
    unfold evX evN
    simp (disch := omega) only [ht, nI_eq, Nat.reduceEqDiff, ↓reduceIte, xN_n]
  rw [e]
  generalize ev (fun s => tb h (48 * s)) rt cv cs f s as sh dp i σ = q at A1 O1 L1 ⊢
  obtain ⟨q, σ1⟩ := q
  match q, O1 with
  | .inr q, O1 =>
    have t0 := MO_t0 O1
    refine ⟨g1, fun Q => ?_, A1, K1, O1, L1⟩
    rw [g241_8]
    simp (disch := first | with_reducible assumption | omega | exact Or.inl rfl | exact Or.inr rfl | exact bI_01 | exact c_cat | exact vt_ref | exact vt_null | rfl | with_reducible repeat (first | assumption | omega | apply S_I | apply S_L | apply S_D | apply ob_I | apply ob_L | apply ob_D | apply ob_R | apply ax_I | apply ax_L | apply ax_D | apply ax_R | apply o303 | apply o307 | apply o302 | apply o301 | apply ax304 | apply ax305 | apply ax306 | apply ax308 | apply ax309 | apply ax310 | apply lt_S | apply ar305 | apply ar308 | apply ar309)) only [g241_10, g241_11, g241_12, g241_14, g241_15, g241_17, g241_18, g241_21, g241_23, g241_24_6, g241_192, g241_193, g241_194, g241_195, g241_196, g241_197, g241_200, g241_202, g241_203, g241_206, g241_207, g241_210, g241_213, g241_214, g241_215, g241_218, g241_220, g241_221, g241_224, g241_226, g241_227, g241_230, g241_232, g241_233, g241_234, g241_235, g241_236, g241_237, g241_240, g241_242, g241_243, g241_246, g241_247, g241_250, g241_253, g241_254, g241_255, g241_258, g241_260, g241_261, g241_263, g241_265, g241_267, g241_270, Option.toList, List.nil_append, List.cons_append, va_rf, nI_ltI, nI_leI, nI_eq, nI_add, nI_sub, nI_lt0, nI_e0, nI_m1, m1_nI, Nat.reduceEqDiff, Nat.reduceLT, Nat.reduceLeDiff, Nat.reduceAdd, Nat.reduceSub, Nat.reduceMul, ↓reduceIte, eq_self, nI_mul, u1, u3, r1 _, t0]
  | .inl u, ⟨U, sp1⟩ =>
    obtain ⟨τ, hτ, eτ⟩ := rv_t U
    have T1 := rv_tv U
    rw [eτ] at T1
    obtain ⟨g2, r2, A2, K2, O2, L2⟩ := W2 t g1 σ1 h1 h2 (Nat.lt_of_le_of_lt L1 h3) A1 sp1 (AV_keep V K1 h2)
    have S2 := MW_S A2 S
    obtain ⟨-, x2, -, -, -⟩ := mw_nd A2 ht
    show ∃ g', _ ∧ MW h g' r dp t (andThen (ev (fun s => tb h (48 * s)) rt cv cs f s as sh dp j σ1) (fun v σ => (op2 o u v, σ))).2 ∧ _ ∧ MO h g' r (andThen (ev (fun s => tb h (48 * s)) rt cv cs f s as sh dp j σ1) (fun v σ => (op2 o u v, σ))).1 ∧ (andThen (ev (fun s => tb h (48 * s)) rt cv cs f s as sh dp j σ1) (fun v σ => (op2 o u v, σ))).2.1 ≤ _
    generalize ev (fun s => tb h (48 * s)) rt cv cs f s as sh dp j σ1 = p at A2 O2 L2 ⊢
    obtain ⟨p, σ2⟩ := p
    match p, O2 with
    | .inr q, O2 =>
      have t0 := MO_t0 O2
      refine ⟨g2, fun Q => ?_, A2, AK_trans K1 K2, O2, Nat.le_trans L2 L1⟩
      rw [g241_8]
      simp (disch := first | with_reducible assumption | omega | exact Or.inl rfl | exact Or.inr rfl | exact bI_01 | exact c_cat | exact vt_ref | exact vt_null | rfl | with_reducible repeat (first | assumption | omega | apply S_I | apply S_L | apply S_D | apply ob_I | apply ob_L | apply ob_D | apply ob_R | apply ax_I | apply ax_L | apply ax_D | apply ax_R | apply o303 | apply o307 | apply o302 | apply o301 | apply ax304 | apply ax305 | apply ax306 | apply ax308 | apply ax309 | apply ax310 | apply lt_S | apply ar305 | apply ar308 | apply ar309)) only [g241_10, g241_11, g241_12, g241_14, g241_15, g241_17, g241_18, g241_21, g241_23, g241_24_6, g241_192, g241_193, g241_194, g241_195, g241_196, g241_197, g241_200, g241_202, g241_203, g241_206, g241_207, g241_210, g241_213, g241_214, g241_215, g241_218, g241_220, g241_221, g241_224, g241_226, g241_227, g241_230, g241_232, g241_233, g241_234, g241_235, g241_236, g241_237, g241_240, g241_242, g241_243, g241_246, g241_247, g241_250, g241_253, g241_254, g241_255, g241_258, g241_260, g241_261, g241_263, g241_265, g241_267, g241_270, Option.toList, List.nil_append, List.cons_append, va_rf, nI_ltI, nI_leI, nI_eq, nI_add, nI_sub, nI_lt0, nI_e0, nI_m1, m1_nI, Nat.reduceEqDiff, Nat.reduceLT, Nat.reduceLeDiff, Nat.reduceAdd, Nat.reduceSub, Nat.reduceMul, ↓reduceIte, eq_self, nI_mul, u1, u3, w4, r1 _, eτ, show ¬ τ = 0 by omega, r2 _, t0]
    | .inl v, ⟨V2, sp2⟩ =>
      obtain ⟨τ2, hτ2, eτ2⟩ := rv_t V2
      obtain ⟨g3, r3, A3, K3, O3⟩ := m_two (d := d + 1) (s := o) ho A2 S sp2 T1 V2
      refine ⟨g3, fun Q => ?_, A3, AK_trans K1 (AK_trans K2 K3), O3, Nat.le_trans L2 L1⟩
      rw [g241_8]
      simp (disch := first | with_reducible assumption | omega | exact Or.inl rfl | exact Or.inr rfl | exact bI_01 | exact c_cat | exact vt_ref | exact vt_null | rfl | with_reducible repeat (first | assumption | omega | apply S_I | apply S_L | apply S_D | apply ob_I | apply ob_L | apply ob_D | apply ob_R | apply ax_I | apply ax_L | apply ax_D | apply ax_R | apply o303 | apply o307 | apply o302 | apply o301 | apply ax304 | apply ax305 | apply ax306 | apply ax308 | apply ax309 | apply ax310 | apply lt_S | apply ar305 | apply ar308 | apply ar309)) only [g241_10, g241_11, g241_12, g241_14, g241_15, g241_17, g241_18, g241_21, g241_23, g241_24_6, g241_192, g241_193, g241_194, g241_195, g241_196, g241_197, g241_200, g241_202, g241_203, g241_206, g241_207, g241_210, g241_213, g241_214, g241_215, g241_218, g241_220, g241_221, g241_224, g241_226, g241_227, g241_230, g241_232, g241_233, g241_234, g241_235, g241_236, g241_237, g241_240, g241_242, g241_243, g241_246, g241_247, g241_250, g241_253, g241_254, g241_255, g241_258, g241_260, g241_261, g241_263, g241_265, g241_267, g241_270, Option.toList, List.nil_append, List.cons_append, va_rf, nI_ltI, nI_leI, nI_eq, nI_add, nI_sub, nI_lt0, nI_e0, nI_m1, m1_nI, Nat.reduceEqDiff, Nat.reduceLT, Nat.reduceLeDiff, Nat.reduceAdd, Nat.reduceSub, Nat.reduceMul, ↓reduceIte, eq_self, nI_mul, u1, u3, w4, x2, r1 _, eτ, show ¬ τ = 0 by omega, r2 _, eτ2, show ¬ τ2 = 0 by omega, r3 _]
end MND

/-! RECALCULATE: one cell, on both sides -/
section JST
variable {d e : Nat} {gx gm : am_H} {tt : Nat → ntT} {rt : Nat → Nat} {pF : Nat → List Nat} {fe : Nat → Nat} {mb ch dn oc : Nat → Bool} {ea ra sl nc sp : Nat → Nat} {nl : Nat → List Nat} {Gc : Nat → List (Nat × Nat)} {nf x cnt : Nat} {cs : Nat → Nat → VL} {v1 v2 : Option Value}
/-- what a step leaves, on both sides -/
def STP (gx gm gx' gm' : am_H) (mb ch dn : Nat → Bool) (ra : Nat → Nat) (x cnt : Nat) : Prop := kp (woP (22 + x) (some (ra x))) gx gx' ∧ am_S gx' ∧ MFr x gm gm' ∧ am_I gm' 391 x = nI 1 ∧ am_I gm' 394 cnt = nI x ∧ (∀ j, j ≠ cnt → am_I gm' 394 j = am_I gm 394 j) ∧ am_I gm' 349 81 = nI (cnt + 1) ∧ E2 gx' gm' mb ch (fun c => dn c || decide (c = x)) x
/-- the class's run of one cell from the heap gx (next has spoken), the model's from gm -/
def RUN (d e : Nat) (gx gm gx' gm' : am_H) (v1 v2 : Option Value) (t x : Nat) : Prop := (∃ v5' v6', ∀ v5 v6 Q, am_J (e + 7) 154 61 [some (.ref 4), v1, v2, some (.int (nI t)), some (.int (nI x)), v5, v6] [] gx Q ↔ am_J (e + 7) 154 157 [some (.ref 4), v1, v2, some (.int (nI t)), some (.int (nI x)), v5', v6'] [] gx' Q) ∧ am_run (d + 1) 266 [some (.ref 349), some (.int (nI x))] gm none gm'
theorem J_stepC {t y : Nat} (S : am_S gx) (Sm : am_S gm) (hx : x < 256) (hc : cnt < 48) (e8 : am_R gx (22 + x) 8 = some (ra x)) (r402 : 402 ≤ ra x) (rf : am_I gx 311 12 = nI y) (y256 : y < 256) (m395 : am_I gm 395 x = nI y) (m81 : am_I gm 349 81 = nI cnt) (hm : mb x = true) :
    ∃ gx' gm', RUN d e gx gm gx' gm' v1 v2 t x ∧ STP gx gm gx' gm' mb ch dn ra x cnt := by
  have O := o22 S hx
  have h4 : 4 ≤ 22 + x := by omega
  have S2 : am_S (am_setI gx (22 + x) 9 (nI 0)) := S
  have O2 : am_ob (am_setI gx (22 + x) 9 (nI 0)) (22 + x) 0 := O
  have sf := x_setFailed (d := e + 5) (x1 := nI 4) (x2 := nI 9) (x3 := nI y) (x4 := nI 0) O2 h4
  have md := m_doesC (d := d) Sm hx hc m81 m395 y256
  obtain ⟨f1, f2, f3, f4⟩ := fa_V (g := am_setI gx (22 + x) 9 (nI 0)) (o := 22 + x) (x1 := nI 4) (x2 := nI 9) (x3 := nI y) (x4 := nI 0)
  obtain ⟨u1, u2, u3, u4⟩ := faM_V (g := dnH gm x cnt) (x := x) (v1 := nI 4) (v2 := nI 9) (v3 := nI y) (v4 := nI 0)
  obtain ⟨w1, w2, w3, w4, w5⟩ := dn_V (g := gm) (x := x) (dn := cnt)
  have s6 := bit_shr6 x hx
  have x4 : x / 64 < 4 := by omega
  have rf2 : am_I (am_setI gx (22 + x) 9 (nI 0)) 311 12 = nI y := by rw [rI_a (by omega)]; exact rf
  have ym : ¬ nI y = -1 := nI_nem1 (by omega)
  have f9 : am_I (faH (am_setI gx (22 + x) 9 (nI 0)) (22 + x) (nI 4) (nI 9) (nI y) (nI 0)) (22 + x) 9 = nI 0 := (fa_I (Or.inr (by decide))).trans rI_eq
  refine ⟨faH (am_setI gx (22 + x) 9 (nI 0)) (22 + x) (nI 4) (nI 9) (nI y) (nI 0), faM (dnH gm x cnt) x (nI 4) (nI 9) (nI y) (nI 0), ⟨⟨some (.ref (22 + x)), some (.ref (321 + 7 * (x / 64))), fun v5 v6 Q => ?_⟩, md⟩, ?_, S2, fa_F dn_F, ?_, ?_, fun j hj => ?_, ?_, 4, by decide, ⟨f1, u1, fun q => (by cases q), fun q => (by cases q), fun _ _ => ⟨f2.trans u2.symm, 9, by decide, by decide, u2⟩⟩, fun _ _ => ⟨f3.trans u3.symm, f4.trans u4.symm⟩, ⟨0, by decide, f9, ?_, fun rr _ i hi => absurd hi (Nat.not_lt_zero _)⟩, fun _ => (by rw [faM_o (by decide)]; exact w4), fun q => ?_, fun q => (by cases q)⟩
  · simp (disch := first | with_reducible assumption | omega | exact Or.inl rfl | exact Or.inr rfl | exact bI_01 | exact c_cat | exact vt_ref | exact vt_null | rfl | with_reducible repeat (first | assumption | omega | apply S_I | apply S_L | apply S_D | apply ob_I | apply ob_L | apply ob_D | apply ob_R | apply ax_I | apply ax_L | apply ax_D | apply ax_R | apply o303 | apply o307 | apply o302 | apply o301 | apply ax304 | apply ax305 | apply ax306 | apply ax308 | apply ax309 | apply ax310 | apply lt_S | apply ar305 | apply ar308 | apply ar309)) only [g154_61, g154_62, g154_65, g154_67, g154_68, g154_70, g154_71, g154_74, g154_76, g154_78, g154_79, g154_80, g154_82, g154_84, g154_85, g154_88, g154_89, g154_92, g154_95, g154_96, g154_99, g154_101, g154_102, g154_104, g154_105, g154_108, g154_111, g154_112, g154_115, Option.toList, List.nil_append, List.cons_append, va_rf, nI_ltI, nI_leI, nI_eq, nI_add, nI_sub, nI_lt0, nI_e0, nI_m1, m1_nI, Nat.reduceEqDiff, Nat.reduceLT, Nat.reduceLeDiff, Nat.reduceAdd, Nat.reduceSub, Nat.reduceMul, ↓reduceIte, eq_self, s6, rf2, ym, sf _]
  · exact kp_I (kp_I (kp_I (kp_L (kp_I (kp_I kp_refl (Or.inl (Or.inr (Or.inr (Or.inr (Or.inr (Or.inl ⟨rfl, rfl⟩))))))) (wo_p (by decide) (by decide))) (wo_p (by decide) (by decide))) (wo_p (by decide) (by decide))) (wo_p (by decide) (by decide))) (wo_p (by decide) (by decide))
  · rw [faM_o (by decide)]; exact w1
  · rw [faM_o (by decide)]; exact w2
  · rw [faM_o (by decide)]; exact w5 j hj
  · rw [faM_o (by decide)]; exact w3
  · rw [faM_o (by decide)]; exact w4
  · rw [hm] at q; cases q
theorem J_stepS {t k : Nat} (S : am_S gx) (Sm : am_S gm) (hx : x < 256) (hc : cnt < 48) (e8 : am_R gx (22 + x) 8 = some (ra x)) (r402 : 402 ≤ ra x) (rf : am_I gx 311 12 = -1) (m395 : am_I gm 395 x = -1) (xs : am_I gx (321 + 7 * (x / 64)) 3 = nI k) (ms : am_I gm 381 (x / 64) = nI k) (k0 : k ≠ 0) (k11 : k ≤ 11) (m81 : am_I gm 349 81 = nI cnt) (hm : mb x = true) :
    ∃ gx' gm', RUN d e gx gm gx' gm' v1 v2 t x ∧ STP gx gm gx' gm' mb ch dn ra x cnt := by
  have O := o22 S hx
  have h4 : 4 ≤ 22 + x := by omega
  have S2 : am_S (am_setI gx (22 + x) 9 (nI 0)) := S
  have O2 : am_ob (am_setI gx (22 + x) 9 (nI 0)) (22 + x) 0 := O
  have sf := x_setFailed (d := e + 5) (x1 := nI 3) (x2 := nI 10) (x3 := nI x) (x4 := nI k) O2 h4
  have md := m_doesS (d := d) Sm hx hc m81 m395 ms k0 (by omega)
  obtain ⟨f1, f2, f3, f4⟩ := fa_V (g := am_setI gx (22 + x) 9 (nI 0)) (o := 22 + x) (x1 := nI 3) (x2 := nI 10) (x3 := nI x) (x4 := nI k)
  obtain ⟨u1, u2, u3, u4⟩ := faM_V (g := dnH gm x cnt) (x := x) (v1 := nI 3) (v2 := nI 10) (v3 := nI x) (v4 := nI k)
  obtain ⟨w1, w2, w3, w4, w5⟩ := dn_V (g := gm) (x := x) (dn := cnt)
  have s6 := bit_shr6 x hx
  have x4 : x / 64 < 4 := by omega
  obtain ⟨Osh, -, -⟩ := o321 S2 x4
  have rf2 : am_I (am_setI gx (22 + x) 9 (nI 0)) 311 12 = -1 := by rw [rI_a (by omega)]; exact rf
  have xs2 : am_I (am_setI gx (22 + x) 9 (nI 0)) (321 + 7 * (x / 64)) 3 = nI k := by rw [rI_a (by omega)]; exact xs
  have f9 : am_I (faH (am_setI gx (22 + x) 9 (nI 0)) (22 + x) (nI 3) (nI 10) (nI x) (nI k)) (22 + x) 9 = nI 0 := (fa_I (Or.inr (by decide))).trans rI_eq
  refine ⟨faH (am_setI gx (22 + x) 9 (nI 0)) (22 + x) (nI 3) (nI 10) (nI x) (nI k), faM (dnH gm x cnt) x (nI 3) (nI 10) (nI x) (nI k), ⟨⟨some (.ref (22 + x)), some (.ref (321 + 7 * (x / 64))), fun v5 v6 Q => ?_⟩, md⟩, ?_, S2, fa_F dn_F, ?_, ?_, fun j hj => ?_, ?_, 3, by decide, ⟨f1, u1, fun q => (by cases q), fun q => (by cases q), fun _ _ => ⟨f2.trans u2.symm, 10, by decide, by decide, u2⟩⟩, fun _ _ => ⟨f3.trans u3.symm, f4.trans u4.symm⟩, ⟨0, by decide, f9, ?_, fun rr _ i hi => absurd hi (Nat.not_lt_zero _)⟩, fun _ => (by rw [faM_o (by decide)]; exact w4), fun q => ?_, fun q => (by cases q)⟩
  · simp (disch := first | with_reducible assumption | omega | exact Or.inl rfl | exact Or.inr rfl | exact bI_01 | exact c_cat | exact vt_ref | exact vt_null | rfl | with_reducible repeat (first | assumption | omega | apply S_I | apply S_L | apply S_D | apply ob_I | apply ob_L | apply ob_D | apply ob_R | apply ax_I | apply ax_L | apply ax_D | apply ax_R | apply o303 | apply o307 | apply o302 | apply o301 | apply ax304 | apply ax305 | apply ax306 | apply ax308 | apply ax309 | apply ax310 | apply lt_S | apply ar305 | apply ar308 | apply ar309)) only [g154_61, g154_62, g154_65, g154_67, g154_68, g154_70, g154_71, g154_74, g154_76, g154_78, g154_79, g154_80, g154_82, g154_84, g154_85, g154_88, g154_89, g154_92, g154_95, g154_96, g154_99, g154_101, g154_102, g154_104, g154_105, g154_108, g154_111, g154_112, g154_115, g154_118, g154_120, g154_123, g154_126, g154_128, g154_129, g154_131, g154_133, g154_135, g154_138, g154_141, Option.toList, List.nil_append, List.cons_append, va_rf, nI_ltI, nI_leI, nI_eq, nI_add, nI_sub, nI_lt0, nI_e0, nI_m1, m1_nI, Nat.reduceEqDiff, Nat.reduceLT, Nat.reduceLeDiff, Nat.reduceAdd, Nat.reduceSub, Nat.reduceMul, ↓reduceIte, eq_self, s6, rf2, xs2, k0, sf _]
  · exact kp_I (kp_I (kp_I (kp_L (kp_I (kp_I kp_refl (Or.inl (Or.inr (Or.inr (Or.inr (Or.inr (Or.inl ⟨rfl, rfl⟩))))))) (wo_p (by decide) (by decide))) (wo_p (by decide) (by decide))) (wo_p (by decide) (by decide))) (wo_p (by decide) (by decide))) (wo_p (by decide) (by decide))
  · rw [faM_o (by decide)]; exact w1
  · rw [faM_o (by decide)]; exact w2
  · rw [faM_o (by decide)]; exact w5 j hj
  · rw [faM_o (by decide)]; exact w3
  · rw [faM_o (by decide)]; exact w4
  · rw [hm] at q; cases q
theorem J_stepW {t : Nat} (X : XL gx tt rt pF fe mb ea ra sl nl nc) (M : ML gm tt rt pF mb sl nl nc Gc nf) (hx : x < 256) (hc : cnt < 48) (hm : mb x = true) (rf : am_I gx 311 12 = -1) (m395 : am_I gm 395 x = -1) (xs : am_I gx (321 + 7 * (x / 64)) 3 = nI 0) (ms : am_I gm 381 (x / 64) = nI 0) (m81 : am_I gm 349 81 = nI cnt) (E : ∀ c, c < 256 → E2 gx gm mb ch dn c) (hl : ∀ c y, y ∈ nl c → y < 256) (nx : x ∉ nl x) (hn : ∀ y, y ∈ nl x → ch y = true → dn y = true) (hcs : ∀ k, k < nc (x / 64) → csX gx (x / 64) k (cs (x / 64) k) ∧ csv gm (5 * (x / 64) + k) (cs (x / 64) k)) (hd : 1350 ≤ d) :
    ∃ gx' gm', RUN d e gx gm gx' gm' v1 v2 t x ∧ STP gx gm gx' gm' mb ch dn ra x cnt := by
  have x4 : x / 64 < 4 := by omega
  obtain ⟨Sm, FM, et, DM, M5⟩ := id M
  obtain ⟨m1, m2⟩ := M5 x hx hm
  have K0 : kp (fun a k => a = 22 + x ∧ k = 9) gx (am_setI gx (22 + x) 9 (nI 0)) := kp_I kp_refl ⟨rfl, rfl⟩
  have S2 : am_S (am_setI gx (22 + x) 9 (nI 0)) := X.1
  have X2 := XL_kp X K0 S2 hx hm (fun a k q => ⟨fun h => by omega, by omega, by omega, fun s hs => by omega⟩)
  obtain ⟨-, FX, X3, X4, X5, X6, -⟩ := X2
  obtain ⟨y1, y2, ⟨pN, D, EE, L, G, k, m, z1, z2, z3, z4, z5⟩, y4, y5, y6, y7, y8⟩ := X3 x hx hm
  obtain ⟨n5, e1⟩ := X4 (x / 64) x4
  have O2 := o22 S2 hx
  have g2I : ∀ a k, a ≠ 22 + x → am_I (am_setI gx (22 + x) 9 (nI 0)) a k = am_I gx a k := fun a k ha => rI_a ha
  have cvP : ∀ c, c ∈ nl x → c < 256 ∧ c ≠ x := fun c hc => ⟨hl x c hc, fun q => nx (q ▸ hc)⟩
  have C0 : cvX (am_setI gx (22 + x) 9 (nI 0)) (cvM gm) (fun c => c ∈ nl x) := fun c hc => by
    obtain ⟨c256, cx⟩ := cvP c hc
    refine ⟨c256, ?_⟩
    have := (E2_cv c256 (E c c256) (hn c hc)).1
    have q := fun k => g2I (22 + c) k (by omega)
    match cvM gm c, this with
    | none, a1 => exact (q 0).trans a1
    | some none, ⟨⟨s, a1, a2, a3⟩, k, b1, b2, b3⟩ => exact ⟨⟨s, a1, a2, (q 0).trans a3⟩, k, b1, b2, (q 4).trans b3⟩
    | some (some (.inl _)), ⟨a1, a2⟩ => exact ⟨(q 0).trans a1, a2⟩
    | some (some (.inr _)), ⟨a1, a2, a3⟩ => exact ⟨(q 0).trans a1, a2, a3⟩
  have Cm : cvH gm (cvM gm) (fun c => c ∈ nl x) := fun c hc => by
    obtain ⟨c256, cx⟩ := cvP c hc
    exact ⟨c256, (E2_cv c256 (E c c256) (hn c hc)).2⟩
  have FX' : FC (am_setI gx (22 + x) 9 (nI 0)) tt rt (some (ra x)) pF := FC_of FX (fun i hi hf a q => by cases q; exact X5 x hx hm i hi hf)
  have hcs2 : ∀ k, k < nc (x / 64) % 1000 → k < nc (x / 64) ∧ csX (am_setI gx (22 + x) 9 (nI 0)) (x / 64) k (cs (x / 64) k) := fun k hk => by
    have hk' : k < nc (x / 64) := by omega
    refine ⟨hk', ?_⟩
    have q := g2I (323 + 7 * (x / 64) + k) 0 (by omega)
    match cs (x / 64) k, (hcs k hk').1 with
    | .inl _, ⟨a1, a2⟩ => exact ⟨q.trans a1, a2⟩
    | .inr _, ⟨a1, a2, a3⟩ => exact ⟨q.trans a1, a2, a3⟩
  have S := X.1
  have hrr : ∀ a, some (ra x) = some a → 402 ≤ a ∧ a < (am_setI gx (22 + x) 9 (nI 0)).1 ∧ am_tg (am_setI gx (22 + x) 9 (nI 0)) a = (100, 24) := fun a q => by
    cases q; exact ⟨y5, y6, y7⟩
  have hre : ∀ a, some (ra x) = some a → a < ea x ∨ ea x + 7 ≤ a := fun a q => by
    cases q; exact (X6 x x hx hx hm hm).1
  have hns : ¬ (48 ≤ sl x ∧ sl x < 56) := by omega
  have k40 : k + 410 ≤ 450 := by omega
  have m40 : m ≤ 40 := by omega
  have ho1 : 22 + x < 278 ∨ 299 < 22 + x := by omega
  have ho2 : 22 ≤ 22 + x := by omega
  have ho3 : 22 + x < 349 := by omega
  obtain ⟨gx', r1, k1, Sx', RD, o1⟩ := x_workOut (d := e) (nb := nI x) (sa := 321 + 7 * (x / 64)) (P := fun c => c ∈ nl x) (rr := some (ra x)) (cs := cs) S2.1 S2 ho1 ho2 ho3 O2 y1 y4 hrr hre z4 C0 FX' z3 m40 k40 hns ⟨x4, rfl, n5, e1, hcs2⟩ z5
  obtain ⟨sx, s48, -, -⟩ := (DM x hx).2.2 hm
  obtain ⟨gm', r2, F', o2, w391, w394, w394', w81, w373, w372⟩ := m_doesW (d := d) (cs := cs) (P := fun c => c ∈ nl x) Sm hx hc m81 m395 ms sx s48 m1 Cm FM (show Rp false (nc (x / 64)) (tb gm (48 * sl x)) m pN pF (k + 410) (rt (sl x)) D EE L G by rw [congrFun et (sl x)]; exact z3) (by omega) (by omega) (fun k hk => ⟨by omega, (hcs k (by omega)).2⟩) z5 hd
  rw [et] at o2 w373 w372
  have hg := ev_hg (cv := cvM gm) (tt := tt) (rt := rt) (cs := cs) 1001 (sl x) [] (x / 64) 0 (rt (sl x)) (1000, [])
  obtain ⟨R8, Ro, R22, R349, RR⟩ := RD
  obtain ⟨q1, q2, q3, q9, q5⟩ := RR (ra x) rfl
  have K1 : kp (woP (22 + x) (some (ra x))) gx gx' := kp_trans (kp_mono (fun a k q => Or.inl (Or.inr (Or.inr (Or.inr (Or.inr (Or.inl q)))))) K0) k1
  have s6 := bit_shr6 x hx
  obtain ⟨Osh, -, -⟩ := o321 S2 x4
  have rf2 : am_I (am_setI gx (22 + x) 9 (nI 0)) 311 12 = -1 := by rw [rI_a (by omega)]; exact rf
  have xs2 : am_I (am_setI gx (22 + x) 9 (nI 0)) (321 + 7 * (x / 64)) 3 = nI 0 := by rw [rI_a (by omega)]; exact xs
  have O := o22 X.1 hx
  have h4 : 4 ≤ 22 + x := by omega
  have rds : ∃ k, k ≤ 24 ∧ am_I gx' (22 + x) 9 = nI k ∧ am_I gm' 373 x = nI k ∧ ∀ rr, am_R gx' (22 + x) 8 = some rr → ∀ i, i < k → am_I gx' rr i = am_I gm' 372 (24 * x + i) := by
    refine ⟨_, Nat.min_le_left _ _, q9, w373, fun rr hr i hi => ?_⟩
    rw [R8] at hr
    cases hr
    have i1 := Nat.lt_of_lt_of_le hi (Nat.min_le_left _ _)
    have i2 := Nat.lt_of_lt_of_le hi (Nat.min_le_right _ _)
    rw [q5 i i1 i2, w372 i i1 i2]
  have rdn : am_R gx' (22 + x) 8 = none → am_I gm' 373 x = nI 0 := fun z => by rw [R8] at z; cases z
  have mbx : ∀ st : Nat, mb x = false → st ≤ 2 := fun st q => by rw [hm] at q; cases q
  refine ⟨gx', gm', ⟨⟨some (.ref (22 + x)), some (.ref (321 + 7 * (x / 64))), fun v5 v6 Q => ?_⟩, r2⟩, K1, Sx', F', w391, w394, w394', w81, ?_⟩
  · simp (disch := first | with_reducible assumption | omega | exact Or.inl rfl | exact Or.inr rfl | exact bI_01 | exact c_cat | exact vt_ref | exact vt_null | rfl | with_reducible repeat (first | assumption | omega | apply S_I | apply S_L | apply S_D | apply ob_I | apply ob_L | apply ob_D | apply ob_R | apply ax_I | apply ax_L | apply ax_D | apply ax_R | apply o303 | apply o307 | apply o302 | apply o301 | apply ax304 | apply ax305 | apply ax306 | apply ax308 | apply ax309 | apply ax310 | apply lt_S | apply ar305 | apply ar308 | apply ar309)) only [g154_61, g154_62, g154_65, g154_67, g154_68, g154_70, g154_71, g154_74, g154_76, g154_78, g154_79, g154_80, g154_82, g154_84, g154_85, g154_88, g154_89, g154_92, g154_95, g154_96, g154_99, g154_101, g154_102, g154_104, g154_105, g154_108, g154_111, g154_112, g154_115, g154_118, g154_120, g154_123, g154_126, g154_128, g154_129, g154_131, g154_133, g154_135, g154_138, g154_141, g154_144, g154_145, g154_148, g154_150, g154_152, g154_154, Option.toList, List.nil_append, List.cons_append, va_rf, nI_ltI, nI_leI, nI_eq, nI_add, nI_sub, nI_lt0, nI_e0, nI_m1, m1_nI, Nat.reduceEqDiff, Nat.reduceLT, Nat.reduceLeDiff, Nat.reduceAdd, Nat.reduceSub, Nat.reduceMul, ↓reduceIte, eq_self, s6, rf2, xs2, r1 _]
  · generalize ev tt rt (cvM gm) cs 1001 (sl x) [] (x / 64) 0 (rt (sl x)) (1000, []) = r at o1 o2 hg
    obtain ⟨o, σ⟩ := r
    match o, o1, o2, hg with
    | .inl (.inl v), ⟨p1, p2⟩, ⟨u1, u2⟩, _ => exact ⟨1, by decide, ⟨p1, u1, fun _ => p2.trans u2.symm, fun q => (by cases q), fun q => absurd q (by decide)⟩, fun q => absurd q (by decide), rds, rdn, mbx 1, fun q => (by cases q)⟩
    | .inl (.inr y), ⟨p1, p2, p3, p4⟩, ⟨u1, u2, u3⟩, _ => exact ⟨2, by decide, ⟨p1, u1, fun q => (by cases q), fun _ => ⟨p2.trans u2.symm, by rw [u2]; exact p3, by rw [u2]; exact p4⟩, fun q => absurd q (by decide)⟩, fun q => absurd q (by decide), rds, rdn, mbx 2, fun q => (by cases q)⟩
    | .inr (.inl k), ⟨p1, p2, p3, p4, p5, p6⟩, ⟨u1, u2, u3, u4⟩, _ => exact ⟨3, by decide, ⟨p1, u1, fun q => (by cases q), fun q => (by cases q), fun _ _ => ⟨p2.trans u2.symm, k, p5, p6, u2⟩⟩, fun _ _ => ⟨p3.trans u3.symm, p4.trans u4.symm⟩, rds, rdn, mbx 3, fun q => (by cases q)⟩
    | .inr (.inr c), ⟨c256, p1, p2, p3, p4⟩, ⟨u1, u2, u3, u4⟩, hg =>
      have hc2 := hg c rfl
      obtain ⟨st, t1, ⟨b1, b2, b3, b4, b5⟩, t3, -⟩ := E c c256
      have st35 : 3 ≤ st ∧ st ≤ 5 := by
        unfold cvM at hc2
        by_cases s0 : st = 0
        · subst s0; rw [if_pos (Or.inl b2)] at hc2; cases hc2
        · by_cases s6 : st = 6
          · subst s6; rw [if_pos (Or.inr b2)] at hc2; cases hc2
          · by_cases s1 : st = 1
            · subst s1
              rw [if_neg (fun z => by rw [b2] at z; exact z.elim (fun z => absurd z (by decide)) (fun z => absurd z (by decide))), if_pos b2] at hc2; cases hc2
            · by_cases s2 : st = 2
              · subst s2
                rw [if_neg (fun z => by rw [b2] at z; exact z.elim (fun z => absurd z (by decide)) (fun z => absurd z (by decide))), if_neg (fun z => by rw [b2] at z; exact absurd z (by decide)), if_pos b2] at hc2; cases hc2
              · omega
      obtain ⟨d1, j, j1, j2, j3⟩ := b5 st35.1 st35.2
      obtain ⟨d2, d3⟩ := t3 st35.1 st35.2
      have qc : ∀ k, k ≠ 9 → am_I (am_setI gx (22 + x) 9 (nI 0)) (22 + c) k = am_I gx (22 + c) k := fun k hk => by
        by_cases e : c = x
        · rw [e, rI_k hk]
        · exact g2I _ _ (by omega)
      exact ⟨5, by decide, ⟨p1, u1, fun q => (by cases q), fun q => (by cases q), fun _ _ => ⟨by rw [p2, u2, qc 4 (by decide)]; exact d1, j, j1, j2, by rw [u2]; exact j3⟩⟩, fun _ _ => ⟨by rw [p3, u3, qc 5 (by decide)]; exact d2, by rw [p4, u4, qc 6 (by decide)]; exact d3⟩, rds, rdn, mbx 5, fun q => (by cases q)⟩
end JST

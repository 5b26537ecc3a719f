/-! THE CLASS: the machine on one node's code -/
/-- what a run of the machine comes to, within T turns and steps: it ends at p with one number more, or fails; the stack st stands -/
def CP (h : am_H) (o : Nat) (rr : Option Nat) (sa d : Nat) (v1 v2 v3 : Option Value) (T : Nat) (g : am_H) (dp : Nat) (ts : List (Nat × Nat × Nat)) (st : List VL) (p n : Nat) (r : FO) : Prop := match r with
  | (.inl v, σ) => ∃ g' n', GR d v1 v2 v3 g n g' n' ∧ XS h g' o rr sa dp ts σ ∧ KZ g' ∧ NS g' (st ++ [v]) ∧ okV v ∧ FK g g' dp ∧ am_I g' (278 + dp) 1 = nI p ∧ n' + 6 * σ.1 ≤ T
  | (.inr q, σ) => ∃ g' n' dp' ts', BR d v1 v2 v3 g n g' n' ∧ XS h g' o rr sa dp' ts' σ ∧ (q = .inl 8 ∨ ts' = ts) ∧ (∀ i v, st[i]? = some v → xn g' i v) ∧ FLx h g' q ∧ FK g g' dp ∧ n' + 6 * σ.1 ≤ T
section XWO
variable {h g g' ga : am_H} {o sa dp d : Nat} {rr : Option Nat} {ts : List (Nat × Nat × Nat)} {σ σ' : SR} {st st' : List VL} {v1 v2 v3 : Option Value} {T n n' p p2 e b : Nat} {D : List (Int32 × Int64)} {v : VL} {q : Nat ⊕ Nat}
theorem CP_pre {r : FO} (G : GR d v1 v2 v3 g n g' n') (F : FK g g' dp) (C : CP h o rr sa d v1 v2 v3 T g' dp ts st p n' r) : CP h o rr sa d v1 v2 v3 T g dp ts st p n r := by
  match r, C with
  | (.inl v, σ), ⟨g2, n2, c1, c2, c3, c4, c5, c6, c7, c8⟩ => exact ⟨g2, n2, GR_trans G c1, c2, c3, c4, c5, FK_trans F c6, c7, c8⟩
  | (.inr q, σ), ⟨g2, n2, dp', ts', c1, c2, c2', c3, c4, c5, c6⟩ => exact ⟨g2, n2, dp', ts', GR_bad G c1, c2, c2', c3, c4, FK_trans F c5, c6⟩
/-- a stack that is longer -/
theorem st_app {u : List VL} {g : am_H} (hh : ∀ i v, (st ++ u)[i]? = some v → xn g i v) : ∀ i v, st[i]? = some v → xn g i v := fun i v hv => hh i v (by
  have c := (List.getElem?_eq_some_iff.mp hv).1
  rw [List.getElem?_append_left c]; exact hv)
theorem CP_then {r : FO} {k : VL → SR → FO} {u : List VL} (C : CP h o rr sa d v1 v2 v3 T g dp ts (st ++ u) p n r) (K : ∀ v σ g' n', r = (.inl v, σ) → XS h g' o rr sa dp ts σ → KZ g' → NS g' (st ++ u ++ [v]) → okV v → FK g g' dp → am_I g' (278 + dp) 1 = nI p → n' + 6 * σ.1 ≤ T → CP h o rr sa d v1 v2 v3 T g' dp ts st p2 n' (k v σ)) : CP h o rr sa d v1 v2 v3 T g dp ts st p2 n (andThen r k) := by
  match r, C with
  | (.inl v, σ), ⟨g2, n2, c1, c2, c3, c4, c5, c6, c7, c8⟩ => exact CP_pre c1 c6 (K v σ g2 n2 rfl c2 c3 c4 c5 c6 c7 c8)
  | (.inr q, σ), ⟨g2, n2, dp', ts', c1, c2, c2', c3, c4, c5, c6⟩ => exact ⟨g2, n2, dp', ts', c1, c2, c2', st_app c3, c4, c5, c6⟩
/-- the heap in which an order is obeyed -/
theorem XS_at (A : XS h g o rr sa dp ts σ) (hd : dp < 22) (ho : o < 278 ∨ 299 < o) : XS h (am_setI g (278 + dp) 1 (nI (p + 1))) o rr sa dp ts σ := XS_I A (Or.inr ⟨by omega, by omega⟩) ho
theorem NS_at (N : NS g st) (hd : dp < 22) : NS (am_setI g (278 + dp) 1 (nI (p + 1))) st := NS_fr (P := fun a => a = 278 + dp) (fr_I fr_refl rfl) (by omega) (by omega) (by omega) (by omega) N
theorem KZ_at (Z : KZ g) (hd : dp < 22) : KZ (am_setI g (278 + dp) 1 (nI (p + 1))) := KZ_fr (P := fun a => a = 278 + dp) (fr_I fr_refl rfl) (by omega) Z
theorem c_ok {x : Int32 × Int64} (A : XS h g o rr sa dp ts σ) (hd : dp < 22) (C : cdK g e D) (F : FRx g dp e p b) (hx : D[p]? = some x) (hn : n < 1000000) (R : am_run d 40 [some (.ref 9), some (.ref (278 + dp)), some (.int x.1), some (.long x.2), none] (am_setI g (278 + dp) 1 (nI (p + 1))) none g') (S' : am_S g') (Z : KZ g') (FA' : FA (am_setI g (278 + dp) 1 (nI (p + 1))) g') : GR (d + 1) v1 v2 v3 g n g' (n + 1) ∧ FK g g' dp ∧ am_I g' (278 + dp) 1 = nI (p + 1) :=
  ⟨x_good A hd C F hx hn R S' Z.1, FK_trans FK_at (FA_K FA' hd), (FA' (278 + dp) (by omega) (by omega) 1).1.trans rI_eq⟩
theorem c_no {x : Int32 × Int64} (A : XS h g o rr sa dp ts σ) (hd : dp < 22) (C : cdK g e D) (F : FRx g dp e p b) (hx : D[p]? = some x) (hn : n < 1000000) (R : am_run d 40 [some (.ref 9), some (.ref (278 + dp)), some (.int x.1), some (.long x.2), none] (am_setI g (278 + dp) 1 (nI (p + 1))) none g') (FA' : FA (am_setI g (278 + dp) 1 (nI (p + 1))) g') : BR (d + 1) v1 v2 v3 g n g' n ∧ FK g g' dp :=
  ⟨x_bad A hd C F hx hn R, FK_trans FK_at (FA_K FA' hd)⟩
theorem FA_I {a k : Nat} {x : Int32} (ha : a < 278 ∨ 299 < a) : FA g (am_setI g a k x) := FA_fr (P := fun z => z = a) (fr_I fr_refl rfl) (fun z q => by omega)
/-- STEP, and what comes behind it -/
theorem c_step {k : SR → FO} (A : XS h g o rr sa dp ts σ) (ho : o < 278 ∨ 299 < o) (hd : dp < 22) (C : cdK g e D) (F : FRx g dp e p b) (hx : D[p]? = some ST) (Z : KZ g) (N : NS g st) (hT : n + 6 * σ.1 ≤ T) (hT2 : T < 900000)
    (K : σ.1 ≠ 0 → ∀ g', XS h g' o rr sa dp ts (σ.1 - 1, σ.2) → KZ g' → NS g' st → FK g g' dp → am_I g' (278 + dp) 1 = nI (p + 1) → n + 1 + 6 * (σ.1 - 1) + 5 ≤ T → CP h o rr sa (d + 2) v1 v2 v3 T g' dp ts st p2 (n + 1) (k (σ.1 - 1, σ.2))) : CP h o rr sa (d + 2) v1 v2 v3 T g dp ts st p2 n (if σ.1 = 0 then (oF 8, σ) else k (σ.1 - 1, σ.2)) := by
  have Aa := XS_at (p := p) A hd ho
  have Sa := Aa.2.1
  have Na := NS_at (p := p) N hd
  have Za := KZ_at (p := p) Z hd
  by_cases s0 : σ.1 = 0
  · rw [if_pos s0]
    have ts0 := x_tookStepN (d := d) Aa s0
    have R : am_run (d + 1) 40 [some (.ref 9), some (.ref (278 + dp)), some (.int ST.1), some (.long ST.2), none] (am_setI g (278 + dp) 1 (nI (p + 1))) none (am_setI (am_setI g (278 + dp) 1 (nI (p + 1))) 9 13 (nI 8)) := fun Q => by
      simp (disch := first | with_reducible assumption | omega | exact Or.inl rfl | exact Or.inr rfl | exact bI_01 | exact c_cat | exact vt_ref | exact vt_null | rfl | with_reducible repeat (first | assumption | omega | apply S_I | apply S_L | apply S_D | apply ob_I | apply ob_L | apply ob_D | apply ob_R | apply ax_I | apply ax_L | apply ax_D | apply ax_R | apply o303 | apply o307 | apply o302 | apply o301 | apply ax304 | apply ax305 | apply ax306 | apply ax308 | apply ax309 | apply ax310 | apply lt_S | apply ar305 | apply ar308 | apply ar309)) only [g40_0, show ST.1 = nI 0 from rfl, g40_1_0, g40_140, g40_141, g40_144, g40_145, g40_302, Option.toList, List.nil_append, List.cons_append, va_rf, ts0 _]
    obtain ⟨b1, b2⟩ := c_no (v1 := v1) (v2 := v2) (v3 := v3) (n := n) A hd C F hx (by omega) R (FA_I (by omega))
    exact ⟨_, n, dp, ts, b1, XS_I Aa (Or.inl ⟨rfl, rfl⟩) ho, Or.inr rfl, fun i w hw => xn_keep (by rw [rI_a (by decide)]) rfl rfl (Na.2 i w hw), ⟨rI_eq, by decide, by decide, Za.2⟩, b2, by omega⟩
  · rw [if_neg s0]
    have ts1 := x_tookStep (d := d) Aa s0
    have A1 := XS_step Aa
    have R : am_run (d + 1) 40 [some (.ref 9), some (.ref (278 + dp)), some (.int ST.1), some (.long ST.2), none] (am_setI g (278 + dp) 1 (nI (p + 1))) none (am_setI (am_setI g (278 + dp) 1 (nI (p + 1))) 9 11 (nI (σ.1 - 1))) := fun Q => by
      simp (disch := first | with_reducible assumption | omega | exact Or.inl rfl | exact Or.inr rfl | exact bI_01 | exact c_cat | exact vt_ref | exact vt_null | rfl | with_reducible repeat (first | assumption | omega | apply S_I | apply S_L | apply S_D | apply ob_I | apply ob_L | apply ob_D | apply ob_R | apply ax_I | apply ax_L | apply ax_D | apply ax_R | apply o303 | apply o307 | apply o302 | apply o301 | apply ax304 | apply ax305 | apply ax306 | apply ax308 | apply ax309 | apply ax310 | apply lt_S | apply ar305 | apply ar308 | apply ar309)) only [g40_0, show ST.1 = nI 0 from rfl, g40_1_0, g40_140, g40_141, g40_144, g40_145, g40_302, Option.toList, List.nil_append, List.cons_append, va_rf, ts1 _]
    have Z1 : KZ (am_setI (am_setI g (278 + dp) 1 (nI (p + 1))) 9 11 (nI (σ.1 - 1))) := ⟨by rw [rI_k (by decide)]; exact Za.1, Za.2⟩
    have N1 : NS (am_setI (am_setI g (278 + dp) 1 (nI (p + 1))) 9 11 (nI (σ.1 - 1))) st := NS_fr (P := fun a => a = 9) (fr_I fr_refl rfl) (by decide) (by decide) (by decide) (by decide) Na
    obtain ⟨b1, b2, b3⟩ := c_ok (v1 := v1) (v2 := v2) (v3 := v3) (n := n) A hd C F hx (by omega) R A1.2.1 Z1 (FA_I (by omega))
    exact CP_pre b1 b2 (K s0 _ A1 Z1 N1 b2 b3 (by omega))
/-- an order that pushes a number -/
theorem c_push {x : Int32 × Int64} (A : XS h g o rr sa dp ts σ) (hd : dp < 22) (C : cdK g e D) (F : FRx g dp e p b) (hx : D[p]? = some x) (hn : n < 1000000) (hT : n + 1 + 6 * σ'.1 ≤ T) (R : am_run d 40 [some (.ref 9), some (.ref (278 + dp)), some (.int x.1), some (.long x.2), none] (am_setI g (278 + dp) 1 (nI (p + 1))) none g') (A' : XS h g' o rr sa dp ts σ') (Z : KZ g') (N : NS g' (st ++ [v])) (kv : okV v) (FA' : FA (am_setI g (278 + dp) 1 (nI (p + 1))) g') : CP h o rr sa (d + 1) v1 v2 v3 T g dp ts st (p + 1) n (.inl v, σ') := by
  obtain ⟨b1, b2, b3⟩ := c_ok (v1 := v1) (v2 := v2) (v3 := v3) A hd C F hx hn R A'.2.1 Z FA'
  exact ⟨g', n + 1, b1, A', Z, N, kv, b2, b3, hT⟩
theorem c_fail {x : Int32 × Int64} (A : XS h g o rr sa dp ts σ) (hd : dp < 22) (C : cdK g e D) (F : FRx g dp e p b) (hx : D[p]? = some x) (hn : n < 1000000) (hT : n + 6 * σ'.1 ≤ T) (R : am_run d 40 [some (.ref 9), some (.ref (278 + dp)), some (.int x.1), some (.long x.2), none] (am_setI g (278 + dp) 1 (nI (p + 1))) none g') (A' : XS h g' o rr sa dp ts σ') (N : ∀ i v, st[i]? = some v → xn g' i v) (L : FLx h g' q) (FA' : FA (am_setI g (278 + dp) 1 (nI (p + 1))) g') : CP h o rr sa (d + 1) v1 v2 v3 T g dp ts st p2 n (.inr q, σ') := by
  obtain ⟨b1, b2⟩ := c_no (v1 := v1) (v2 := v2) (v3 := v3) A hd C F hx hn R FA'
  exact ⟨g', n, dp, ts, b1, A', Or.inr rfl, N, L, b2, hT⟩
/-! atoms -/
theorem o_whole_ {w : Int64} (S : am_S ga) (N : NS ga st) (hl : st.length < 1024) : ∃ g', am_run (d + 2) 40 [some (.ref 9), some (.ref (278 + dp)), some (.int (nI 1)), some (.long w), none] ga none g' ∧ NS g' (st ++ [.inl w]) ∧ am_fr nsP ga g' := by
  obtain ⟨g', r1, N1, F1⟩ := x_pushL (d := d) (x := w) S N hl
  refine ⟨g', fun Q => ?_, N1, F1⟩
  simp (disch := first | with_reducible assumption | omega | exact Or.inl rfl | exact Or.inr rfl | exact bI_01 | exact c_cat | exact vt_ref | exact vt_null | rfl | with_reducible repeat (first | assumption | omega | apply S_I | apply S_L | apply S_D | apply ob_I | apply ob_L | apply ob_D | apply ob_R | apply ax_I | apply ax_L | apply ax_D | apply ax_R | apply o303 | apply o307 | apply o302 | apply o301 | apply ax304 | apply ax305 | apply ax306 | apply ax308 | apply ax309 | apply ax310 | apply lt_S | apply ar305 | apply ar308 | apply ar309)) only [g40_0, g40_1_1, g40_148, g40_149, g40_150, g40_151, g40_152, g40_155, g40_302, g41_0, g41_1_1, g41_32, g41_33, g41_36, g41_37, g41_40, g41_43, g41_44, g41_47, g41_48, g41_49, g41_50, g41_51, g41_54, g41_55, g41_56, g41_59, g41_62, g41_65, g41_66, g41_67, g41_68, g41_69, g41_72, g41_73, g41_76, g41_77, g41_78, g41_79, g41_82, g41_85, g41_86, g41_89, g41_90, g41_93, g41_94, g41_95, g41_96, g41_99, Option.toList, List.nil_append, List.cons_append, va_rf, r1 _]
theorem l6_shr4 {a : Nat} (ha : a < 2 ^ 63) : lN a >>> ((nI 4).toInt64 &&& 63) = lN (a / 16) := by
  have e : (((nI 4).toInt64 &&& 63).toBitVec.smod 64).toNat = 4 := by decide +kernel
  apply Int64.toBitVec_inj.mp
  rw [Int64.toBitVec_shiftRight, lN_bv', lN_bv']
  have hm : (BitVec.ofNat 64 a).msb = false := by
    rw [BitVec.msb_eq_false_iff_two_mul_lt, BitVec.toNat_ofNat]; omega
  rw [BitVec.sshiftRight_eq', e, BitVec.sshiftRight_eq_of_msb_false hm]
  apply BitVec.eq_of_toNat_eq
  rw [BitVec.toNat_ushiftRight, BitVec.toNat_ofNat, BitVec.toNat_ofNat, Nat.shiftRight_eq_div_pow, Nat.mod_eq_of_lt (show a < 2 ^ 64 by omega), Nat.mod_eq_of_lt]
  exact Nat.lt_of_le_of_lt (Nat.div_le_self _ _) (by omega)
theorem l6_and15 (a : Nat) : lN a &&& lN 15 = lN (a % 16) := by
  apply Int64.toBitVec_inj.mp
  rw [Int64.toBitVec_and, lN_bv', lN_bv', lN_bv', ← BitVec.ofNat_and, show (15 : Nat) = 2 ^ 4 - 1 from rfl, Nat.and_two_pow_sub_one_eq_mod]
theorem o_deci_ {w c : Nat} (S : am_S ga) (N : NS ga st) (hl : st.length < 1024) (hw : w < 10 ^ 15) (hc : c < 16) : ∃ g', am_run (d + 3) 40 [some (.ref 9), some (.ref (278 + dp)), some (.int (nI 2)), some (.long (lN (w * 16 + c))), none] ga none g' ∧ NS g' (st ++ [.inr (Jvm.FP.ddiv (Jvm.FP.l2d (lN w)) (tp c))]) ∧ am_fr nsP ga g' := by
  have ok := sh_ok (lN w) hc
  obtain ⟨g', r1, N1, F1⟩ := x_pushD (d := d + 1) (x := Jvm.FP.ddiv (Jvm.FP.l2d (lN w)) (tp c)) S N hl ok
  have rs := x_shifted (d := d + 1) (h := ga) (v := lN w) hc
  refine ⟨g', fun Q => ?_, N1, F1⟩
  simp (disch := first | with_reducible assumption | omega | exact Or.inl rfl | exact Or.inr rfl | exact bI_01 | exact c_cat | exact vt_ref | exact vt_null | rfl | with_reducible repeat (first | assumption | omega | apply S_I | apply S_L | apply S_D | apply ob_I | apply ob_L | apply ob_D | apply ob_R | apply ax_I | apply ax_L | apply ax_D | apply ax_R | apply o303 | apply o307 | apply o302 | apply o301 | apply ax304 | apply ax305 | apply ax306 | apply ax308 | apply ax309 | apply ax310 | apply lt_S | apply ar305 | apply ar308 | apply ar309)) only [g40_0, g40_1_2, g40_148, g40_149, g40_150, g40_151, g40_152, g40_155, g40_302, g41_0, g41_1_2, g41_43, g41_44, g41_47, g41_48, g41_49, g41_50, g41_51, g41_54, g41_55, g41_56, g41_59, g41_62, g41_65, g41_66, g41_67, g41_68, g41_69, g41_72, g41_73, g41_76, g41_77, g41_78, g41_79, g41_82, g41_85, g41_86, g41_89, g41_90, g41_93, g41_94, g41_95, g41_96, g41_99, Option.toList, List.nil_append, List.cons_append, va_rf, l6_shr4, l6_and15, show (w * 16 + c) / 16 = w by omega, show (w * 16 + c) % 16 = c by omega, lN_i8, rs _, r1 _]
theorem o_arg_ {b k : Nat} {v : VL} (S : am_S ga) (hd : dp < 22) (N : NS ga st) (hl : st.length < 1024) (eb : am_I ga (278 + dp) 2 = nI b) (hb : b < 1024) (hk : k < 256) (hv : st[b + k]? = some v) : ∃ g', am_run (d + 3) 40 [some (.ref 9), some (.ref (278 + dp)), some (.int (nI 5)), some (.long (lN k)), none] ga none g' ∧ NS g' (st ++ [v]) ∧ am_fr nsP ga g' := by
  obtain ⟨g', r1, N1, F1⟩ := x_pushCopy (d := d) S N hl hv
  have O := o278 S hd
  refine ⟨g', fun Q => ?_, N1, F1⟩
  simp (disch := first | with_reducible assumption | omega | exact Or.inl rfl | exact Or.inr rfl | exact bI_01 | exact c_cat | exact vt_ref | exact vt_null | rfl | with_reducible repeat (first | assumption | omega | apply S_I | apply S_L | apply S_D | apply ob_I | apply ob_L | apply ob_D | apply ob_R | apply ax_I | apply ax_L | apply ax_D | apply ax_R | apply o303 | apply o307 | apply o302 | apply o301 | apply ax304 | apply ax305 | apply ax306 | apply ax308 | apply ax309 | apply ax310 | apply lt_S | apply ar305 | apply ar308 | apply ar309)) only [g40_0, g40_1_5, g40_148, g40_149, g40_150, g40_151, g40_152, g40_155, g40_302, g41_0, g41_1_5, g41_85, g41_86, g41_89, g41_90, g41_93, g41_94, g41_95, g41_96, g41_99, Option.toList, List.nil_append, List.cons_append, va_rf, nI_ltI, nI_leI, nI_eq, nI_add, nI_sub, nI_lt0, nI_e0, nI_m1, m1_nI, Nat.reduceEqDiff, Nat.reduceLT, Nat.reduceLeDiff, Nat.reduceAdd, Nat.reduceSub, Nat.reduceMul, ↓reduceIte, eq_self, eb, lN_i8, r1 _]
theorem o_neg_ {v : VL} (S : am_S ga) (N : NS ga (st ++ [v])) (hl : st.length < 1024) {w : Int64} : ∃ g', am_run (d + 3) 40 [some (.ref 9), some (.ref (278 + dp)), some (.int (nI 6)), some (.long w), none] ga none g' ∧ NS g' (st ++ [negV v]) ∧ am_fr nsP ga g' := by
  obtain ⟨g', r1, N1, F1⟩ := x_negate (d := d) S N hl
  refine ⟨g', fun Q => ?_, N1, F1⟩
  simp (disch := first | with_reducible assumption | omega | exact Or.inl rfl | exact Or.inr rfl | exact bI_01 | exact c_cat | exact vt_ref | exact vt_null | rfl | with_reducible repeat (first | assumption | omega | apply S_I | apply S_L | apply S_D | apply ob_I | apply ob_L | apply ob_D | apply ob_R | apply ax_I | apply ax_L | apply ax_D | apply ax_R | apply o303 | apply o307 | apply o302 | apply o301 | apply ax304 | apply ax305 | apply ax306 | apply ax308 | apply ax309 | apply ax310 | apply lt_S | apply ar305 | apply ar308 | apply ar309)) only [g40_0, g40_1_6, g40_158, g40_159, g40_162, g40_165, g40_302, Option.toList, List.nil_append, List.cons_append, va_rf, r1 _]
end XWO

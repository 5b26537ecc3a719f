/-! THE CLASS: constants, signs, cut and real, if -/
/-- a constant as the class has it -/
def csX (h : am_H) (sh k : Nat) (v : VL) : Prop := match v with
  | .inl x => am_I h (323 + 7 * sh + k) 0 = nI 1 ∧ am_L h (323 + 7 * sh + k) 1 = x
  | .inr y => am_I h (323 + 7 * sh + k) 0 = nI 2 ∧ am_D h (323 + 7 * sh + k) 2 = y ∧ okD y
section XTW
variable {h g ga : am_H} {o sa dp d e b f s sh nn tm : Nat} {rr : Option Nat} {v1 v2 v3 : Option Value} {tt : Nat → ntT} {rt : Nat → Nat} {cv : Nat → Option (Option VL)} {cs : Nat → Nat → VL} {as : List VL} {st : List VL} {ts : List (Nat × Nat × Nat)} {σ : SR} {u v : VL}
theorem o_const_ {k nc : Nat} (A : XS h ga o rr (321 + 7 * sh) dp ts σ) (N : NS ga st) (hl : st.length < 1024) (hsh : sh < 4) (hk : k < nc) (hn : nc ≤ 5) (esz : am_I ga (321 + 7 * sh) 1 = nI nc) (V : csX ga sh k v) : ∃ g', am_run (d + 3) 40 [some (.ref 9), some (.ref (278 + dp)), some (.int (nI 4)), some (.long (lN k)), none] ga none g' ∧ NS g' (st ++ [v]) ∧ am_fr nsP ga g' := by
  have S := A.2.1
  have a9 := A.2.2.2.2.2.2.2.2.1
  obtain ⟨O, R, AA⟩ := o321 S hsh
  obtain ⟨A1, A2, A3⟩ := AA k (by omega)
  match v, V with
  | .inl x, ⟨e1, e2⟩ =>
    obtain ⟨g', r1, N1, F1⟩ := x_pushL (d := d) (x := x) S N hl
    refine ⟨g', fun Q => ?_, N1, F1⟩
    simp (disch := first | with_reducible assumption | omega | exact Or.inl rfl | exact Or.inr rfl | exact bI_01 | exact c_cat | exact vt_ref | exact vt_null | rfl | with_reducible repeat (first | assumption | omega | apply S_I | apply S_L | apply S_D | apply ob_I | apply ob_L | apply ob_D | apply ob_R | apply ax_I | apply ax_L | apply ax_D | apply ax_R | apply o303 | apply o307 | apply o302 | apply o301 | apply ax304 | apply ax305 | apply ax306 | apply ax308 | apply ax309 | apply ax310 | apply lt_S | apply ar305 | apply ar308 | apply ar309)) only [g40_0, g40_1_4, g40_148, g40_149, g40_150, g40_151, g40_152, g40_155, g40_302, g41_0, g41_1_4, g41_76, g41_77, g41_78, g41_79, g41_82, g41_85, g41_86, g41_89, g41_90, g41_93, g41_94, g41_95, g41_96, g41_99, g43_0, g43_1, g43_4, g43_5, g43_6, g43_9, g43_12, g43_15, g43_16, g43_17, g43_20, g43_23, g43_24, g43_25, g43_26, g43_27, g43_30, g43_31, g43_34, g43_35, g43_38, g43_39, g43_42, g43_45, g43_48, g43_49, g43_52, g43_53, g43_56, g43_59, Option.toList, List.nil_append, List.cons_append, va_rf, nI_ltI, nI_leI, nI_eq, nI_add, nI_sub, nI_lt0, nI_e0, nI_m1, m1_nI, Nat.reduceEqDiff, Nat.reduceLT, Nat.reduceLeDiff, Nat.reduceAdd, Nat.reduceSub, Nat.reduceMul, ↓reduceIte, eq_self, lN_i8, a9, esz, hk, R, A2, e1, e2, r1 _]
  | .inr x, ⟨e1, e2, e3⟩ =>
    obtain ⟨g', r1, N1, F1⟩ := x_pushD (d := d) (x := x) S N hl e3
    refine ⟨g', fun Q => ?_, N1, F1⟩
    simp (disch := first | with_reducible assumption | omega | exact Or.inl rfl | exact Or.inr rfl | exact bI_01 | exact c_cat | exact vt_ref | exact vt_null | rfl | with_reducible repeat (first | assumption | omega | apply S_I | apply S_L | apply S_D | apply ob_I | apply ob_L | apply ob_D | apply ob_R | apply ax_I | apply ax_L | apply ax_D | apply ax_R | apply o303 | apply o307 | apply o302 | apply o301 | apply ax304 | apply ax305 | apply ax306 | apply ax308 | apply ax309 | apply ax310 | apply lt_S | apply ar305 | apply ar308 | apply ar309)) only [g40_0, g40_1_4, g40_148, g40_149, g40_150, g40_151, g40_152, g40_155, g40_302, g41_0, g41_1_4, g41_76, g41_77, g41_78, g41_79, g41_82, g41_85, g41_86, g41_89, g41_90, g41_93, g41_94, g41_95, g41_96, g41_99, g43_0, g43_1, g43_4, g43_5, g43_6, g43_9, g43_12, g43_15, g43_16, g43_17, g43_20, g43_23, g43_24, g43_25, g43_26, g43_27, g43_30, g43_31, g43_34, g43_35, g43_38, g43_39, g43_42, g43_45, g43_48, g43_49, g43_52, g43_53, g43_56, g43_59, Option.toList, List.nil_append, List.cons_append, va_rf, nI_ltI, nI_leI, nI_eq, nI_add, nI_sub, nI_lt0, nI_e0, nI_m1, m1_nI, Nat.reduceEqDiff, Nat.reduceLT, Nat.reduceLeDiff, Nat.reduceAdd, Nat.reduceSub, Nat.reduceMul, ↓reduceIte, eq_self, lN_i8, a9, esz, hk, R, A2, e1, e2, r1 _]
theorem csX_kp {k : Nat} (K : kp (xmP o rr) h g) (hh : 402 ≤ h.1) (ho : o < 402) (hr : ∀ a, rr = some a → 402 ≤ a) (hsh : sh < 4) (hk : k < 5) (V : csX h sh k v) : csX g sh k v := by
  have np : ∀ j, j ≠ 9 → ¬ xmP o rr (323 + 7 * sh + k) j := fun j hj q => by
    rcases q with q | q | q | q | q | q
    · omega
    · omega
    · omega
    · omega
    · omega
    · have := hr _ q; omega
  have R := fun j (hj : j ≠ 9) => K.2.2 (323 + 7 * sh + k) j (by omega) (np j hj)
  match v, V with
  | .inl x, ⟨e1, e2⟩ => exact ⟨(R 0 (by decide)).1.trans e1, ((R 1 (by decide)).2.1 (by omega)).trans e2⟩
  | .inr x, ⟨e1, e2, e3⟩ => exact ⟨(R 0 (by decide)).1.trans e1, ((R 2 (by decide)).2.2.1 (by omega) (by omega)).trans e2, e3⟩
theorem c_const {k nc : Nat} (h4 : 402 ≤ h.1) (ho : o < 278 ∨ 299 < o) (ho2 : o < 402) (hd : dp < 22) (hre : ∀ a, rr = some a → a < e ∨ e + 7 ≤ a) (hr4 : ∀ a, rr = some a → 402 ≤ a) (hs : ¬ (48 ≤ s ∧ s < 56)) (hsh : sh < 4) (hk : k < nc) (hn : nc ≤ 5) (esz : am_I h (321 + 7 * sh) 1 = nI nc) (V : csX h sh k (cs sh k)) (ht : tt s nn = (nI 4, nI k, nI 0, nI 0, lN 0)) : CWk h o rr (321 + 7 * sh) (d + 4) v1 v2 v3 (f + 1) (ev tt rt cv cs (f + 1) s as sh dp nn) dp e b as [ST, (nI 4, lN k)] tm := by
  intro DD p g σ ts st n T C hD hf A Z N FR Va hl ht2 hT hT2
  show CP h o rr (321 + 7 * sh) (d + 4) v1 v2 v3 T g dp ts st (p + 1 + 1) n (if σ.1 = 0 then (oF 8, σ) else evX tt rt cv cs f s as sh dp nn (σ.1 - 1, σ.2))
  have Cg := cd_kp A.1 ho2 hre C
  refine c_step (d := d + 2) A ho hd Cg FR (hD 0 _ rfl) Z N hT hT2 (fun s0 g1 A1 Z1 N1 FK1 at1 hT1 => ?_)
  have ex : evX tt rt cv cs f s as sh dp nn (σ.1 - 1, σ.2) = (.inl (cs sh k), (σ.1 - 1, σ.2)) := by
    unfold evX evN
    simp (disch := omega) only [ht, nI_eq, Nat.reduceEqDiff, ↓reduceIte, xN_n, hs]
  rw [ex]
  have C1 := cd_kp A1.1 ho2 hre C
  have Aa := XS_at (p := p + 1) A1 hd ho
  have Vg := csX_kp Aa.1 h4 ho2 hr4 hsh (by omega) V
  have np : ¬ xmP o rr (321 + 7 * sh) 1 := fun q => by
    rcases q with q | q | q | q | q | q
    · omega
    · omega
    · omega
    · omega
    · omega
    · have := hr4 _ q; omega
  have eg := (Aa.1.2.2 (321 + 7 * sh) 1 (by omega) np).1.trans esz
  have kv : okV (cs sh k) := by
    match cs sh k, V with
    | .inl x, _ => exact trivial
    | .inr x, ⟨_, _, q⟩ => exact q
  obtain ⟨g', r1, N2, F2⟩ := o_const_ (d := d) (dp := dp) Aa (NS_at (p := p + 1) N1 hd) (by omega) hsh hk hn eg Vg
  exact c_push (d := d + 3) A1 hd C1 (FK_F FK1 at1 FR) (hD 1 _ rfl) (by omega) (by show n + 1 + 1 + 6 * (σ.1 - 1) ≤ T; omega) r1 (XS_num Aa F2) (KZ_fr F2 (by decide) (KZ_at Z1 hd)) N2 kv (FA_fr F2 (fun a q => by omega))
theorem o_comb_ {w : Nat} {x : Int64} (hw : w ∈ [43, 45, 42, 47, 37, 60, 76, 61, 78]) (S : am_S ga) (N : NS ga (st ++ [u] ++ [v])) (hl : st.length + 1 < 1024) : ∃ g' k, am_run (d + 4) 40 [some (.ref 9), some (.ref (278 + dp)), some (.int (nI (opN w))), some (.long x), none] ga none (am_setI g' 9 13 (nI k)) ∧ am_fr nsP ga g' ∧ xKO g' st (op2 w u v) k := by
  obtain ⟨g', k, r1, F1, O1⟩ := x_combine (d := d) hw S N hl
  have S1 := fr_S F1 S
  refine ⟨g', k, fun Q => ?_, F1, O1⟩
  simp only [List.mem_cons, List.not_mem_nil, or_false] at hw
  rcases hw with rfl | rfl | rfl | rfl | rfl | rfl | rfl | rfl | rfl
  · simp (disch := first | with_reducible assumption | omega | exact Or.inl rfl | exact Or.inr rfl | exact bI_01 | exact c_cat | exact vt_ref | exact vt_null | rfl | with_reducible repeat (first | assumption | omega | apply S_I | apply S_L | apply S_D | apply ob_I | apply ob_L | apply ob_D | apply ob_R | apply ax_I | apply ax_L | apply ax_D | apply ax_R | apply o303 | apply o307 | apply o302 | apply o301 | apply ax304 | apply ax305 | apply ax306 | apply ax308 | apply ax309 | apply ax310 | apply lt_S | apply ar305 | apply ar308 | apply ar309)) only [g40_0, show nI (opN 43) = nI 7 from rfl, g40_1_7, g40_290, g40_291, g40_292, g40_295, g40_296, g40_299, g40_302, Option.toList, List.nil_append, List.cons_append, va_rf] at r1 ⊢
    simp (disch := first | with_reducible assumption | omega | exact Or.inl rfl | exact Or.inr rfl | exact bI_01 | exact c_cat | exact vt_ref | exact vt_null | rfl | with_reducible repeat (first | assumption | omega | apply S_I | apply S_L | apply S_D | apply ob_I | apply ob_L | apply ob_D | apply ob_R | apply ax_I | apply ax_L | apply ax_D | apply ax_R | apply o303 | apply o307 | apply o302 | apply o301 | apply ax304 | apply ax305 | apply ax306 | apply ax308 | apply ax309 | apply ax310 | apply lt_S | apply ar305 | apply ar308 | apply ar309)) only [g40_290, g40_291, g40_292, g40_295, g40_296, g40_299, g40_302, Option.toList, List.nil_append, List.cons_append, va_rf, r1 _]
  · simp (disch := first | with_reducible assumption | omega | exact Or.inl rfl | exact Or.inr rfl | exact bI_01 | exact c_cat | exact vt_ref | exact vt_null | rfl | with_reducible repeat (first | assumption | omega | apply S_I | apply S_L | apply S_D | apply ob_I | apply ob_L | apply ob_D | apply ob_R | apply ax_I | apply ax_L | apply ax_D | apply ax_R | apply o303 | apply o307 | apply o302 | apply o301 | apply ax304 | apply ax305 | apply ax306 | apply ax308 | apply ax309 | apply ax310 | apply lt_S | apply ar305 | apply ar308 | apply ar309)) only [g40_0, show nI (opN 45) = nI 8 from rfl, g40_1_8, g40_290, g40_291, g40_292, g40_295, g40_296, g40_299, g40_302, Option.toList, List.nil_append, List.cons_append, va_rf] at r1 ⊢
    simp (disch := first | with_reducible assumption | omega | exact Or.inl rfl | exact Or.inr rfl | exact bI_01 | exact c_cat | exact vt_ref | exact vt_null | rfl | with_reducible repeat (first | assumption | omega | apply S_I | apply S_L | apply S_D | apply ob_I | apply ob_L | apply ob_D | apply ob_R | apply ax_I | apply ax_L | apply ax_D | apply ax_R | apply o303 | apply o307 | apply o302 | apply o301 | apply ax304 | apply ax305 | apply ax306 | apply ax308 | apply ax309 | apply ax310 | apply lt_S | apply ar305 | apply ar308 | apply ar309)) only [g40_290, g40_291, g40_292, g40_295, g40_296, g40_299, g40_302, Option.toList, List.nil_append, List.cons_append, va_rf, r1 _]
  · simp (disch := first | with_reducible assumption | omega | exact Or.inl rfl | exact Or.inr rfl | exact bI_01 | exact c_cat | exact vt_ref | exact vt_null | rfl | with_reducible repeat (first | assumption | omega | apply S_I | apply S_L | apply S_D | apply ob_I | apply ob_L | apply ob_D | apply ob_R | apply ax_I | apply ax_L | apply ax_D | apply ax_R | apply o303 | apply o307 | apply o302 | apply o301 | apply ax304 | apply ax305 | apply ax306 | apply ax308 | apply ax309 | apply ax310 | apply lt_S | apply ar305 | apply ar308 | apply ar309)) only [g40_0, show nI (opN 42) = nI 9 from rfl, g40_1_9, g40_290, g40_291, g40_292, g40_295, g40_296, g40_299, g40_302, Option.toList, List.nil_append, List.cons_append, va_rf] at r1 ⊢
    simp (disch := first | with_reducible assumption | omega | exact Or.inl rfl | exact Or.inr rfl | exact bI_01 | exact c_cat | exact vt_ref | exact vt_null | rfl | with_reducible repeat (first | assumption | omega | apply S_I | apply S_L | apply S_D | apply ob_I | apply ob_L | apply ob_D | apply ob_R | apply ax_I | apply ax_L | apply ax_D | apply ax_R | apply o303 | apply o307 | apply o302 | apply o301 | apply ax304 | apply ax305 | apply ax306 | apply ax308 | apply ax309 | apply ax310 | apply lt_S | apply ar305 | apply ar308 | apply ar309)) only [g40_290, g40_291, g40_292, g40_295, g40_296, g40_299, g40_302, Option.toList, List.nil_append, List.cons_append, va_rf, r1 _]
  · simp (disch := first | with_reducible assumption | omega | exact Or.inl rfl | exact Or.inr rfl | exact bI_01 | exact c_cat | exact vt_ref | exact vt_null | rfl | with_reducible repeat (first | assumption | omega | apply S_I | apply S_L | apply S_D | apply ob_I | apply ob_L | apply ob_D | apply ob_R | apply ax_I | apply ax_L | apply ax_D | apply ax_R | apply o303 | apply o307 | apply o302 | apply o301 | apply ax304 | apply ax305 | apply ax306 | apply ax308 | apply ax309 | apply ax310 | apply lt_S | apply ar305 | apply ar308 | apply ar309)) only [g40_0, show nI (opN 47) = nI 10 from rfl, g40_1_10, g40_290, g40_291, g40_292, g40_295, g40_296, g40_299, g40_302, Option.toList, List.nil_append, List.cons_append, va_rf] at r1 ⊢
    simp (disch := first | with_reducible assumption | omega | exact Or.inl rfl | exact Or.inr rfl | exact bI_01 | exact c_cat | exact vt_ref | exact vt_null | rfl | with_reducible repeat (first | assumption | omega | apply S_I | apply S_L | apply S_D | apply ob_I | apply ob_L | apply ob_D | apply ob_R | apply ax_I | apply ax_L | apply ax_D | apply ax_R | apply o303 | apply o307 | apply o302 | apply o301 | apply ax304 | apply ax305 | apply ax306 | apply ax308 | apply ax309 | apply ax310 | apply lt_S | apply ar305 | apply ar308 | apply ar309)) only [g40_290, g40_291, g40_292, g40_295, g40_296, g40_299, g40_302, Option.toList, List.nil_append, List.cons_append, va_rf, r1 _]
  · simp (disch := first | with_reducible assumption | omega | exact Or.inl rfl | exact Or.inr rfl | exact bI_01 | exact c_cat | exact vt_ref | exact vt_null | rfl | with_reducible repeat (first | assumption | omega | apply S_I | apply S_L | apply S_D | apply ob_I | apply ob_L | apply ob_D | apply ob_R | apply ax_I | apply ax_L | apply ax_D | apply ax_R | apply o303 | apply o307 | apply o302 | apply o301 | apply ax304 | apply ax305 | apply ax306 | apply ax308 | apply ax309 | apply ax310 | apply lt_S | apply ar305 | apply ar308 | apply ar309)) only [g40_0, show nI (opN 37) = nI 11 from rfl, g40_1_11, g40_290, g40_291, g40_292, g40_295, g40_296, g40_299, g40_302, Option.toList, List.nil_append, List.cons_append, va_rf] at r1 ⊢
    simp (disch := first | with_reducible assumption | omega | exact Or.inl rfl | exact Or.inr rfl | exact bI_01 | exact c_cat | exact vt_ref | exact vt_null | rfl | with_reducible repeat (first | assumption | omega | apply S_I | apply S_L | apply S_D | apply ob_I | apply ob_L | apply ob_D | apply ob_R | apply ax_I | apply ax_L | apply ax_D | apply ax_R | apply o303 | apply o307 | apply o302 | apply o301 | apply ax304 | apply ax305 | apply ax306 | apply ax308 | apply ax309 | apply ax310 | apply lt_S | apply ar305 | apply ar308 | apply ar309)) only [g40_290, g40_291, g40_292, g40_295, g40_296, g40_299, g40_302, Option.toList, List.nil_append, List.cons_append, va_rf, r1 _]
  · simp (disch := first | with_reducible assumption | omega | exact Or.inl rfl | exact Or.inr rfl | exact bI_01 | exact c_cat | exact vt_ref | exact vt_null | rfl | with_reducible repeat (first | assumption | omega | apply S_I | apply S_L | apply S_D | apply ob_I | apply ob_L | apply ob_D | apply ob_R | apply ax_I | apply ax_L | apply ax_D | apply ax_R | apply o303 | apply o307 | apply o302 | apply o301 | apply ax304 | apply ax305 | apply ax306 | apply ax308 | apply ax309 | apply ax310 | apply lt_S | apply ar305 | apply ar308 | apply ar309)) only [g40_0, show nI (opN 60) = nI 12 from rfl, g40_1_12, g40_290, g40_291, g40_292, g40_295, g40_296, g40_299, g40_302, Option.toList, List.nil_append, List.cons_append, va_rf] at r1 ⊢
    simp (disch := first | with_reducible assumption | omega | exact Or.inl rfl | exact Or.inr rfl | exact bI_01 | exact c_cat | exact vt_ref | exact vt_null | rfl | with_reducible repeat (first | assumption | omega | apply S_I | apply S_L | apply S_D | apply ob_I | apply ob_L | apply ob_D | apply ob_R | apply ax_I | apply ax_L | apply ax_D | apply ax_R | apply o303 | apply o307 | apply o302 | apply o301 | apply ax304 | apply ax305 | apply ax306 | apply ax308 | apply ax309 | apply ax310 | apply lt_S | apply ar305 | apply ar308 | apply ar309)) only [g40_290, g40_291, g40_292, g40_295, g40_296, g40_299, g40_302, Option.toList, List.nil_append, List.cons_append, va_rf, r1 _]
  · simp (disch := first | with_reducible assumption | omega | exact Or.inl rfl | exact Or.inr rfl | exact bI_01 | exact c_cat | exact vt_ref | exact vt_null | rfl | with_reducible repeat (first | assumption | omega | apply S_I | apply S_L | apply S_D | apply ob_I | apply ob_L | apply ob_D | apply ob_R | apply ax_I | apply ax_L | apply ax_D | apply ax_R | apply o303 | apply o307 | apply o302 | apply o301 | apply ax304 | apply ax305 | apply ax306 | apply ax308 | apply ax309 | apply ax310 | apply lt_S | apply ar305 | apply ar308 | apply ar309)) only [g40_0, show nI (opN 76) = nI 13 from rfl, g40_1_13, g40_290, g40_291, g40_292, g40_295, g40_296, g40_299, g40_302, Option.toList, List.nil_append, List.cons_append, va_rf] at r1 ⊢
    simp (disch := first | with_reducible assumption | omega | exact Or.inl rfl | exact Or.inr rfl | exact bI_01 | exact c_cat | exact vt_ref | exact vt_null | rfl | with_reducible repeat (first | assumption | omega | apply S_I | apply S_L | apply S_D | apply ob_I | apply ob_L | apply ob_D | apply ob_R | apply ax_I | apply ax_L | apply ax_D | apply ax_R | apply o303 | apply o307 | apply o302 | apply o301 | apply ax304 | apply ax305 | apply ax306 | apply ax308 | apply ax309 | apply ax310 | apply lt_S | apply ar305 | apply ar308 | apply ar309)) only [g40_290, g40_291, g40_292, g40_295, g40_296, g40_299, g40_302, Option.toList, List.nil_append, List.cons_append, va_rf, r1 _]
  · simp (disch := first | with_reducible assumption | omega | exact Or.inl rfl | exact Or.inr rfl | exact bI_01 | exact c_cat | exact vt_ref | exact vt_null | rfl | with_reducible repeat (first | assumption | omega | apply S_I | apply S_L | apply S_D | apply ob_I | apply ob_L | apply ob_D | apply ob_R | apply ax_I | apply ax_L | apply ax_D | apply ax_R | apply o303 | apply o307 | apply o302 | apply o301 | apply ax304 | apply ax305 | apply ax306 | apply ax308 | apply ax309 | apply ax310 | apply lt_S | apply ar305 | apply ar308 | apply ar309)) only [g40_0, show nI (opN 61) = nI 14 from rfl, g40_1_14, g40_290, g40_291, g40_292, g40_295, g40_296, g40_299, g40_302, Option.toList, List.nil_append, List.cons_append, va_rf] at r1 ⊢
    simp (disch := first | with_reducible assumption | omega | exact Or.inl rfl | exact Or.inr rfl | exact bI_01 | exact c_cat | exact vt_ref | exact vt_null | rfl | with_reducible repeat (first | assumption | omega | apply S_I | apply S_L | apply S_D | apply ob_I | apply ob_L | apply ob_D | apply ob_R | apply ax_I | apply ax_L | apply ax_D | apply ax_R | apply o303 | apply o307 | apply o302 | apply o301 | apply ax304 | apply ax305 | apply ax306 | apply ax308 | apply ax309 | apply ax310 | apply lt_S | apply ar305 | apply ar308 | apply ar309)) only [g40_290, g40_291, g40_292, g40_295, g40_296, g40_299, g40_302, Option.toList, List.nil_append, List.cons_append, va_rf, r1 _]
  · simp (disch := first | with_reducible assumption | omega | exact Or.inl rfl | exact Or.inr rfl | exact bI_01 | exact c_cat | exact vt_ref | exact vt_null | rfl | with_reducible repeat (first | assumption | omega | apply S_I | apply S_L | apply S_D | apply ob_I | apply ob_L | apply ob_D | apply ob_R | apply ax_I | apply ax_L | apply ax_D | apply ax_R | apply o303 | apply o307 | apply o302 | apply o301 | apply ax304 | apply ax305 | apply ax306 | apply ax308 | apply ax309 | apply ax310 | apply lt_S | apply ar305 | apply ar308 | apply ar309)) only [g40_0, show nI (opN 78) = nI 15 from rfl, g40_1_15, g40_290, g40_291, g40_292, g40_295, g40_296, g40_299, g40_302, Option.toList, List.nil_append, List.cons_append, va_rf] at r1 ⊢
    simp (disch := first | with_reducible assumption | omega | exact Or.inl rfl | exact Or.inr rfl | exact bI_01 | exact c_cat | exact vt_ref | exact vt_null | rfl | with_reducible repeat (first | assumption | omega | apply S_I | apply S_L | apply S_D | apply ob_I | apply ob_L | apply ob_D | apply ob_R | apply ax_I | apply ax_L | apply ax_D | apply ax_R | apply o303 | apply o307 | apply o302 | apply o301 | apply ax304 | apply ax305 | apply ax306 | apply ax308 | apply ax309 | apply ax310 | apply lt_S | apply ar305 | apply ar308 | apply ar309)) only [g40_290, g40_291, g40_292, g40_295, g40_296, g40_299, g40_302, Option.toList, List.nil_append, List.cons_append, va_rf, r1 _]
theorem op2_ok {w : Nat} {r : VL} (h : op2 w u v = .inl r) : okV r := by
  have gvk : ∀ x r, gv x = .inl r → okV r := fun x r e => by
    unfold gv at e
    split at e
    · rename_i c
      obtain rfl := Sum.inl.inj e
      exact finB_ok.mp c
    · cases e
  have ok1 : ∀ x y r, opL w x y = .inl r → okV r := fun x y r e => by
    unfold opL bL oL at e
    repeat' split at e
    all_goals first
      | (obtain rfl := Sum.inl.inj e; exact trivial)
      | cases e
  have ok2 : ∀ x y r, opD w x y = .inl r → okV r := fun x y r e => by
    unfold opD bL oL at e
    split at e
    · obtain rfl := Sum.inl.inj e; exact trivial
    · split at e
      · obtain rfl := Sum.inl.inj e; exact trivial
      · split at e
        · obtain rfl := Sum.inl.inj e; exact trivial
        · split at e
          · obtain rfl := Sum.inl.inj e; exact trivial
          · split at e
            · cases e
            · exact gvk _ _ e
  match u, v with
  | .inl x, .inl y => exact ok1 x y r h
  | .inl x, .inr y => exact ok2 _ _ r h
  | .inr x, .inl y => exact ok2 _ _ r h
  | .inr x, .inr y => exact ok2 _ _ r h
theorem c_two {w i j : Nat} {D1 D2 : List (Int32 × Int64)} (h4 : 402 ≤ h.1) (ho : o < 278 ∨ 299 < o) (ho2 : o < 402) (hd : dp < 22) (hre : ∀ a, rr = some a → a < e ∨ e + 7 ≤ a) (hi : i < 48) (hj : j < 48) (hw : w ∈ [43, 45, 42, 47, 37, 60, 76, 61, 78]) (ht : tt s nn = (nI 6, nI w, nI i, nI j, lN 0)) (W : CWk h o rr sa (d + 5) v1 v2 v3 f (ev tt rt cv cs f s as sh dp i) dp e b as D1 tm) (W2 : CWk h o rr sa (d + 5) v1 v2 v3 f (ev tt rt cv cs f s as sh dp j) dp e b as D2 tm) (L1 : ∀ σ, (ev tt rt cv cs f s as sh dp i σ).2.1 ≤ σ.1) (L1' : ∀ σ v σ', ev tt rt cv cs f s as sh dp i σ = (.inl v, σ') → σ'.1 < σ.1) : CWk h o rr sa (d + 5) v1 v2 v3 (f + 1) (ev tt rt cv cs (f + 1) s as sh dp nn) dp e b as (ST :: D1 ++ D2 ++ [(nI (opN w), lN 0)]) tm := by
  intro DD p g σ ts st n T C hD hf A Z N FR V hl ht2 hT hT2
  have hw2 : w < 100 := by
    simp only [List.mem_cons, List.not_mem_nil, or_false] at hw
    omega
  rw [show p + (ST :: D1 ++ D2 ++ [(nI (opN w), lN 0)]).length = p + 1 + D1.length + D2.length + 1 by simp only [List.length_append, List.length_cons, List.length_nil]; omega]
  show CP h o rr sa (d + 5) v1 v2 v3 T g dp ts st (p + 1 + D1.length + D2.length + 1) n (if σ.1 = 0 then (oF 8, σ) else evX tt rt cv cs f s as sh dp nn (σ.1 - 1, σ.2))
  have Cg := cd_kp A.1 ho2 hre C
  refine c_step (d := d + 3) A ho hd Cg FR (hD 0 _ rfl) Z N hT hT2 (fun s0 g1 A1 Z1 N1 FK1 at1 hT1 => ?_)
  have ex : evX tt rt cv cs f s as sh dp nn (σ.1 - 1, σ.2) = andThen (ev tt rt cv cs f s as sh dp i (σ.1 - 1, σ.2)) (fun u σ => andThen (ev tt rt cv cs f s as sh dp j σ) (fun v σ => (op2 w u v, σ))) := by
    unfold evX evN
    simp (disch := omega) only [ht, nI_eq, Nat.reduceEqDiff, ↓reduceIte, xN_n]
  rw [ex]
  have hD1 := d_sub (D1 := D1) (k := 1) hD (fun j x hx => by
    have c := (List.getElem?_eq_some_iff.mp hx).1
    rw [Nat.add_comm, List.append_assoc, List.cons_append, List.getElem?_cons_succ, List.getElem?_append_left c]; exact hx)
  have hD2 := d_sub (D1 := D2) (k := 1 + D1.length) hD (fun j x hx => by
    have c := (List.getElem?_eq_some_iff.mp hx).1
    rw [show 1 + D1.length + j = D1.length + j + 1 by omega, List.append_assoc, List.cons_append, List.getElem?_cons_succ, List.getElem?_append_right (by omega), show D1.length + j - D1.length = j by omega, List.getElem?_append_left c]; exact hx)
  have hop : DD[p + 1 + D1.length + D2.length]? = some (nI (opN w), lN 0) := by
    have := hD (1 + D1.length + D2.length) (nI (opN w), lN 0) (by rw [show 1 + D1.length + D2.length = D1.length + D2.length + 1 by omega, List.append_assoc, List.cons_append, List.getElem?_cons_succ, List.getElem?_append_right (by omega), show D1.length + D2.length - D1.length = D2.length by omega, List.getElem?_append_right (Nat.le_refl _), Nat.sub_self]; rfl)
    rwa [show p + (1 + D1.length + D2.length) = p + 1 + D1.length + D2.length by omega] at this
  have W1 := W DD (p + 1) g1 (σ.1 - 1, σ.2) ts st (n + 1) (T - 2) C hD1 (by show σ.1 - 1 < f; omega) A1 Z1 N1 (FK_F FK1 at1 FR) V (by show st.length + (σ.1 - 1) ≤ 1000; omega) ht2 (by show n + 1 + 6 * (σ.1 - 1) ≤ T - 2; omega) (by omega)
  have la := L1' (σ.1 - 1, σ.2)
  generalize ev tt rt cv cs f s as sh dp i (σ.1 - 1, σ.2) = r at W1 la ⊢
  match r, W1 with
  | (.inr q, σ'), ⟨g2, n2, dp', ts', w1, w2, w2', w3, w4, w5, w6⟩ => exact ⟨g2, n2, dp', ts', w1, w2, w2', w3, w4, w5, by omega⟩
  | (.inl u, σ1), ⟨g2, n2, w1, w2, w3, w4, w5, w6, w7, w8⟩ =>
    refine CP_pre w1 w6 ?_
    have lb : σ1.1 < σ.1 - 1 := la u σ1 rfl
    have FK2 := FK_trans FK1 w6
    have W22 := W2 DD (p + (1 + D1.length)) g2 σ1 ts (st ++ [u]) n2 (T - 2) C hD2 (by omega) w2 w3 w4 (by rw [← Nat.add_assoc]; exact FK_F FK2 w7 FR) (fun i v hv => by
      have c := (List.getElem?_eq_some_iff.mp (V i v hv)).1
      rw [List.getElem?_append_left c]; exact V i v hv) (by rw [List.length_append]; show st.length + 1 + σ1.1 ≤ 1000; omega) ht2 w8 (by omega)
    show CP h o rr sa (d + 5) v1 v2 v3 T g2 dp ts st (p + 1 + D1.length + D2.length + 1) n2 (andThen (ev tt rt cv cs f s as sh dp j σ1) (fun v σ => (op2 w u v, σ)))
    generalize ev tt rt cv cs f s as sh dp j σ1 = r2 at W22 ⊢
    match r2, W22 with
    | (.inr q, σ'), ⟨g3, n3, dp', ts', x1, x2, x2', x3, x4, x5, x6⟩ => exact ⟨g3, n3, dp', ts', x1, x2, x2', st_app x3, x4, x5, by omega⟩
    | (.inl v, σ2), ⟨g3, n3, x1, x2, x3, x4, x5, x6, x7, x8⟩ =>
      refine CP_pre x1 x6 ?_
      rw [show p + (1 + D1.length) + D2.length = p + 1 + D1.length + D2.length by omega] at x7
      have FK3 := FK_trans FK2 x6
      have C3 := cd_kp x2.1 ho2 hre C
      have Aa := XS_at (p := p + 1 + D1.length + D2.length) x2 hd ho
      obtain ⟨g', k, r1, F3, O3⟩ := o_comb_ (d := d) (dp := dp) (x := lN 0) hw Aa.2.1 (NS_at (p := p + 1 + D1.length + D2.length) x4 hd) (by omega)
      have A3 := XS_I (x := nI k) (XS_num Aa F3) (Or.inl ⟨rfl, rfl⟩) ho
      have Za := KZ_fr F3 (by decide) (KZ_at (p := p + 1 + D1.length + D2.length) x3 hd)
      have FA3 : FA (am_setI g3 (278 + dp) 1 (nI (p + 1 + D1.length + D2.length + 1))) (am_setI g' 9 13 (nI k)) := FA_trans (FA_fr F3 (fun a q => by omega)) (FA_I (by omega))
      show CP h o rr sa (d + 5) v1 v2 v3 T g3 dp ts st (p + 1 + D1.length + D2.length + 1) n3 (op2 w u v, σ2)
      match ho' : op2 w u v, O3 with
      | .inl rr', ⟨k0, N5⟩ =>
        subst k0
        exact c_push (d := d + 4) x2 hd C3 (FK_F FK3 x7 FR) hop (by omega) (by omega) r1 A3 ⟨rI_eq, Za.2⟩ (NS_fr (P := fun a => a = 9) (fr_I fr_refl rfl) (by decide) (by decide) (by decide) (by decide) N5) (op2_ok ho') FA3
      | .inr (.inl kk), ⟨k0, k1, k2, N5⟩ =>
        subst k0
        exact c_fail (d := d + 4) x2 hd C3 (FK_F FK3 x7 FR) hop (by omega) (by omega) r1 A3 (fun i v hv => xn_keep (by rw [rI_a (by decide)]) rfl rfl (N5.2 i v hv)) ⟨rI_eq, by omega, k2, Za.2⟩ FA3
end XTW

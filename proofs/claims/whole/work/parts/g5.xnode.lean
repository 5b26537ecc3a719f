/-! THE CLASS: the machine does what ev says, node by node -/
/-- the code D of a node in a frame with the code at e, its arguments as at b: F is what it comes to -/
def CWk (h : am_H) (o : Nat) (rr : Option Nat) (sa d : Nat) (v1 v2 v3 : Option Value) (f : Nat) (F : SR → FO) (dp e b : Nat) (as : List VL) (D : List (Int32 × Int64)) (tm : Nat) : Prop :=
  ∀ DD p g σ ts st n T, cdK h e DD → (∀ i x, D[i]? = some x → DD[p + i]? = some x) → σ.1 < f → XS h g o rr sa dp ts σ → KZ g → NS g st → FRx g dp e p b → (∀ i v, as[i]? = some v → st[b + i]? = some v) → st.length + σ.1 ≤ 1000 → ts.length ≤ tm → n + 6 * σ.1 ≤ T → T < 900000 → CP h o rr sa d v1 v2 v3 T g dp ts st (p + D.length) n (F σ)
section XND
variable {h : am_H} {o sa dp d e b f s sh nn tm : Nat} {rr : Option Nat} {v1 v2 v3 : Option Value} {tt : Nat → ntT} {rt : Nat → Nat} {cv : Nat → Option (Option VL)} {cs : Nat → Nat → VL} {P : Nat → Prop} {as : List VL}
theorem c_whole {v : Nat} (h4 : 402 ≤ h.1) (ho : o < 278 ∨ 299 < o) (ho2 : o < 402) (hd : dp < 22) (hre : ∀ a, rr = some a → a < e ∨ e + 7 ≤ a) (ht : tt s nn = (nI 1, nI 0, nI 0, nI 0, lN v)) : CWk h o rr sa (d + 3) v1 v2 v3 (f + 1) (ev tt rt cv cs (f + 1) s as sh dp nn) dp e b as [ST, (nI 1, lN v)] tm := by
  intro DD p g σ ts st n T C hD hf A Z N FR V hl ht2 hT hT2
  show CP h o rr sa (d + 3) v1 v2 v3 T g dp ts st (p + 1 + 1) n (if σ.1 = 0 then (oF 8, σ) else evX tt rt cv cs f s as sh dp nn (σ.1 - 1, σ.2))
  have Cg := cd_kp A.1 ho2 hre C
  refine c_step (d := d + 1) A ho hd Cg FR (hD 0 _ rfl) Z N hT hT2 (fun s0 g1 A1 Z1 N1 FK1 at1 hT1 => ?_)
  have ex : evX tt rt cv cs f s as sh dp nn (σ.1 - 1, σ.2) = (.inl (.inl (lN v)), (σ.1 - 1, σ.2)) := by
    unfold evX evN
    simp only [ht, ↓reduceIte]
  rw [ex]
  have C1 := cd_kp A1.1 ho2 hre C
  have Aa := XS_at (p := p + 1) A1 hd ho
  obtain ⟨g', r1, N2, F2⟩ := o_whole_ (d := d) (dp := dp) (w := lN v) Aa.2.1 (NS_at (p := p + 1) N1 hd) (by omega)
  exact c_push (d := d + 2) A1 hd C1 (FK_F FK1 at1 FR) (hD 1 _ rfl) (by omega) (by show n + 1 + 1 + 6 * (σ.1 - 1) ≤ T; omega) r1 (XS_num Aa F2) (KZ_fr F2 (by decide) (KZ_at Z1 hd)) N2 trivial (FA_fr F2 (fun a q => by omega))
theorem c_deci {v c : Nat} (h4 : 402 ≤ h.1) (ho : o < 278 ∨ 299 < o) (ho2 : o < 402) (hd : dp < 22) (hre : ∀ a, rr = some a → a < e ∨ e + 7 ≤ a) (hv : v < 10 ^ 15) (hc : c < 16) (ht : tt s nn = (nI 2, nI c, nI 0, nI 0, lN v)) : CWk h o rr sa (d + 4) v1 v2 v3 (f + 1) (ev tt rt cv cs (f + 1) s as sh dp nn) dp e b as [ST, (nI 2, lN (v * 16 + c))] tm := by
  intro DD p g σ ts st n T C hD hf A Z N FR V hl ht2 hT hT2
  show CP h o rr sa (d + 4) v1 v2 v3 T g dp ts st (p + 1 + 1) n (if σ.1 = 0 then (oF 8, σ) else evX tt rt cv cs f s as sh dp nn (σ.1 - 1, σ.2))
  have Cg := cd_kp A.1 ho2 hre C
  refine c_step (d := d + 2) A ho hd Cg FR (hD 0 _ rfl) Z N hT hT2 (fun s0 g1 A1 Z1 N1 FK1 at1 hT1 => ?_)
  have ex : evX tt rt cv cs f s as sh dp nn (σ.1 - 1, σ.2) = (.inl (.inr (Jvm.FP.ddiv (Jvm.FP.l2d (lN v)) (tp c))), (σ.1 - 1, σ.2)) := by
    unfold evX evN
    simp (disch := omega) only [ht, nI_eq, Nat.reduceEqDiff, ↓reduceIte, xN_n]
  rw [ex]
  have C1 := cd_kp A1.1 ho2 hre C
  have Aa := XS_at (p := p + 1) A1 hd ho
  obtain ⟨g', r1, N2, F2⟩ := o_deci_ (d := d) (dp := dp) (w := v) (c := c) Aa.2.1 (NS_at (p := p + 1) N1 hd) (by omega) hv hc
  exact c_push (d := d + 3) A1 hd C1 (FK_F FK1 at1 FR) (hD 1 _ rfl) (by omega) (by show n + 1 + 1 + 6 * (σ.1 - 1) ≤ T; omega) r1 (XS_num Aa F2) (KZ_fr F2 (by decide) (KZ_at Z1 hd)) N2 (sh_ok (lN v) hc) (FA_fr F2 (fun a q => by omega))
theorem c_ref {c : Nat} (h4 : 402 ≤ h.1) (ho : o < 278 ∨ 299 < o) (ho2 : o < 402) (hd : dp < 22) (hre : ∀ a, rr = some a → a < e ∨ e + 7 ≤ a) (X : cvX h cv P) (hc : P c) (ht : tt s nn = (nI 3, nI c, nI 0, nI 0, lN 0)) : CWk h o rr sa (d + 5) v1 v2 v3 (f + 1) (ev tt rt cv cs (f + 1) s as sh dp nn) dp e b as [ST, (nI 3, lN c)] tm := by
  intro DD p g σ ts st n T C hD hf A Z N FR V hl ht2 hT hT2
  show CP h o rr sa (d + 5) v1 v2 v3 T g dp ts st (p + 1 + 1) n (if σ.1 = 0 then (oF 8, σ) else evX tt rt cv cs f s as sh dp nn (σ.1 - 1, σ.2))
  have Cg := cd_kp A.1 ho2 hre C
  have hc2 := (X c hc).1
  refine c_step (d := d + 3) A ho hd Cg FR (hD 0 _ rfl) Z N hT hT2 (fun s0 g1 A1 Z1 N1 FK1 at1 hT1 => ?_)
  have C1 := cd_kp A1.1 ho2 hre C
  have Aa := XS_at (p := p + 1) A1 hd ho
  have Sa := Aa.2.1
  have Na := NS_at (p := p + 1) N1 hd
  obtain ⟨g', bb, r1, A2, FA2, O1, O2, O3, -⟩ := x_readCell (d := d) (c := c) false h4 Aa ho Na (by omega) (KZ_at Z1 hd) X hc
  have R : am_run (d + 4) 40 [some (.ref 9), some (.ref (278 + dp)), some (.int (nI 3)), some (.long (lN c)), none] (am_setI g1 (278 + dp) 1 (nI (p + 1 + 1))) none g' := fun Q => by
    rw [bI_f] at r1
    simp (disch := first | with_reducible assumption | omega | exact Or.inl rfl | exact Or.inr rfl | exact bI_01 | exact c_cat | exact vt_ref | exact vt_null | rfl | with_reducible repeat (first | assumption | omega | apply S_I | apply S_L | apply S_D | apply ob_I | apply ob_L | apply ob_D | apply ob_R | apply ax_I | apply ax_L | apply ax_D | apply ax_R | apply o303 | apply o307 | apply o302 | apply o301 | apply ax304 | apply ax305 | apply ax306 | apply ax308 | apply ax309 | apply ax310 | apply lt_S | apply ar305 | apply ar308 | apply ar309)) only [g40_0, g40_1_3, g40_148, g40_149, g40_150, g40_151, g40_152, g40_155, g40_302, g41_0, g41_1_3, g41_65, g41_66, g41_67, g41_68, g41_69, g41_72, g41_73, g41_76, g41_77, g41_78, g41_79, g41_82, g41_85, g41_86, g41_89, g41_90, g41_93, g41_94, g41_95, g41_96, g41_99, Option.toList, List.nil_append, List.cons_append, va_rf, lN_i8, r1 _]
  match hr : rdR cv c false with
  | none =>
    exfalso
    unfold rdR at hr
    match hcv : cv c with
    | none => rw [hcv] at hr; cases hr
    | some none => rw [hcv] at hr; cases hr
    | some (some v) => rw [hcv] at hr; cases hr
  | some o' =>
    have ex : evX tt rt cv cs f s as sh dp nn (σ.1 - 1, σ.2) = (o', (σ.1 - 1, σ.2 ++ [c])) := by
      unfold evX evN
      simp (disch := omega) only [ht, nI_eq, Nat.reduceEqDiff, ↓reduceIte, xN_n, hr]
    rw [ex]
    match o', hr with
    | .inl v, hr =>
      obtain ⟨q1, q2, q3, q4⟩ := O1 v hr
      exact c_push (d := d + 4) A1 hd C1 (FK_F FK1 at1 FR) (hD 1 _ rfl) (by omega) (by show n + 1 + 1 + 6 * (σ.1 - 1) ≤ T; omega) R A2 q3 q2 q4 FA2
    | .inr q, hr =>
      obtain ⟨q1, q2, q3⟩ := O2 q hr
      exact c_fail (d := d + 4) A1 hd C1 (FK_F FK1 at1 FR) (hD 1 _ rfl) (by omega) (by show n + 1 + 6 * (σ.1 - 1) ≤ T; omega) R A2 q2.2 q3 FA2
theorem c_arg {k : Nat} (h4 : 402 ≤ h.1) (ho : o < 278 ∨ 299 < o) (ho2 : o < 402) (hd : dp < 22) (hre : ∀ a, rr = some a → a < e ∨ e + 7 ≤ a) (hs : 48 ≤ s ∧ s < 56) (hk : k < as.length) (hk2 : k < 256) (ht : tt s nn = (nI 4, nI k, nI 0, nI 0, lN 0)) : CWk h o rr sa (d + 4) v1 v2 v3 (f + 1) (ev tt rt cv cs (f + 1) s as sh dp nn) dp e b as [ST, (nI 5, lN k)] tm := by
  intro DD p g σ ts st n T C hD hf A Z N FR V hl ht2 hT hT2
  show CP h o rr sa (d + 4) v1 v2 v3 T g dp ts st (p + 1 + 1) n (if σ.1 = 0 then (oF 8, σ) else evX tt rt cv cs f s as sh dp nn (σ.1 - 1, σ.2))
  have Cg := cd_kp A.1 ho2 hre C
  have hv := V k (as.getD k (.inl 0)) (by rw [List.getD_eq_getElem?_getD, List.getElem?_eq_getElem hk]; rfl)
  have hv2 := (List.getElem?_eq_some_iff.mp hv).1
  refine c_step (d := d + 2) A ho hd Cg FR (hD 0 _ rfl) Z N hT hT2 (fun s0 g1 A1 Z1 N1 FK1 at1 hT1 => ?_)
  have ex : evX tt rt cv cs f s as sh dp nn (σ.1 - 1, σ.2) = (.inl (as.getD k (.inl 0)), (σ.1 - 1, σ.2)) := by
    unfold evX evN
    simp (disch := omega) only [ht, nI_eq, Nat.reduceEqDiff, ↓reduceIte, xN_n, hs, and_self]
  rw [ex]
  have C1 := cd_kp A1.1 ho2 hre C
  have Aa := XS_at (p := p + 1) A1 hd ho
  have F1 := FK_F FK1 at1 FR
  have eb : am_I (am_setI g1 (278 + dp) 1 (nI (p + 1 + 1))) (278 + dp) 2 = nI b := by rw [rI_k (by decide)]; exact F1.2.2
  obtain ⟨g', r1, N2, F2⟩ := o_arg_ (d := d) (dp := dp) (b := b) (k := k) Aa.2.1 hd (NS_at (p := p + 1) N1 hd) (by omega) eb (by omega) hk2 hv
  exact c_push (d := d + 3) A1 hd C1 F1 (hD 1 _ rfl) (by omega) (by show n + 1 + 1 + 6 * (σ.1 - 1) ≤ T; omega) r1 (XS_num Aa F2) (KZ_fr F2 (by decide) (KZ_at Z1 hd)) N2 (xn_ok (N1.2 _ _ hv)) (FA_fr F2 (fun a q => by omega))
/-- code in parts -/
theorem d_sub {D1 DD : List (Int32 × Int64)} {p k : Nat} {D : List (Int32 × Int64)} (hD : ∀ i x, D[i]? = some x → DD[p + i]? = some x) (hk : ∀ i x, D1[i]? = some x → D[k + i]? = some x) : ∀ i x, D1[i]? = some x → DD[p + k + i]? = some x := fun i x hx => by rw [Nat.add_assoc]; exact hD (k + i) x (hk i x hx)
theorem c_minus {i : Nat} {D1 : List (Int32 × Int64)} (h4 : 402 ≤ h.1) (ho : o < 278 ∨ 299 < o) (ho2 : o < 402) (hd : dp < 22) (hre : ∀ a, rr = some a → a < e ∨ e + 7 ≤ a) (hi : i < 48) (ht : tt s nn = (nI 5, nI i, nI 0, nI 0, lN 0)) (W : CWk h o rr sa (d + 4) v1 v2 v3 f (ev tt rt cv cs f s as sh dp i) dp e b as D1 tm) : CWk h o rr sa (d + 4) v1 v2 v3 (f + 1) (ev tt rt cv cs (f + 1) s as sh dp nn) dp e b as (ST :: D1 ++ [(nI 6, lN 0)]) tm := by
  intro DD p g σ ts st n T C hD hf A Z N FR V hl ht2 hT hT2
  rw [show p + (ST :: D1 ++ [(nI 6, lN 0)]).length = p + 1 + D1.length + 1 by simp only [List.length_append, List.length_cons, List.length_nil]; omega]
  show CP h o rr sa (d + 4) v1 v2 v3 T g dp ts st (p + 1 + D1.length + 1) n (if σ.1 = 0 then (oF 8, σ) else evX tt rt cv cs f s as sh dp nn (σ.1 - 1, σ.2))
  have Cg := cd_kp A.1 ho2 hre C
  refine c_step (d := d + 2) A ho hd Cg FR (hD 0 _ rfl) Z N hT hT2 (fun s0 g1 A1 Z1 N1 FK1 at1 hT1 => ?_)
  have ex : evX tt rt cv cs f s as sh dp nn (σ.1 - 1, σ.2) = andThen (ev tt rt cv cs f s as sh dp i (σ.1 - 1, σ.2)) (fun v σ => (.inl (negV v), σ)) := by
    unfold evX evN
    simp (disch := omega) only [ht, nI_eq, Nat.reduceEqDiff, ↓reduceIte, xN_n]
  rw [ex]
  have hD1 := d_sub (D1 := D1) (k := 1) hD (fun j x hx => by
    have c := (List.getElem?_eq_some_iff.mp hx).1
    rw [Nat.add_comm, List.cons_append, List.getElem?_cons_succ, List.getElem?_append_left c]; exact hx)
  have W1 := W DD (p + 1) g1 (σ.1 - 1, σ.2) ts st (n + 1) (T - 2) C hD1 (by show σ.1 - 1 < f; omega) A1 Z1 N1 (FK_F FK1 at1 FR) V (by show st.length + (σ.1 - 1) ≤ 1000; omega) ht2 (by show n + 1 + 6 * (σ.1 - 1) ≤ T - 2; omega) (by omega)
  have hop : DD[p + 1 + D1.length]? = some (nI 6, lN 0) := by
    have := hD (1 + D1.length) (nI 6, lN 0) (by rw [Nat.add_comm, List.cons_append, List.getElem?_cons_succ, List.getElem?_append_right (Nat.le_refl _), Nat.sub_self]; rfl)
    rwa [← Nat.add_assoc] at this
  generalize ev tt rt cv cs f s as sh dp i (σ.1 - 1, σ.2) = r at W1 ⊢
  match r, W1 with
  | (.inr q, σ'), ⟨g2, n2, dp', ts', w1, w2, w2', w3, w4, w5, w6⟩ => exact ⟨g2, n2, dp', ts', w1, w2, w2', w3, w4, w5, by omega⟩
  | (.inl v, σ'), ⟨g2, n2, w1, w2, w3, w4, w5, w6, w7, w8⟩ =>
    refine CP_pre w1 w6 ?_
    have C2 := cd_kp w2.1 ho2 hre C
    have Aa := XS_at (p := p + 1 + D1.length) w2 hd ho
    have l2 : σ'.1 ≤ 1000 := w2.2.2.2.2.2.1
    obtain ⟨g', r1, N3, F3⟩ := o_neg_ (d := d) (dp := dp) (w := lN 0) Aa.2.1 (NS_at (p := p + 1 + D1.length) w4 hd) (by omega)
    have kn : okV (negV v) := by
      match v, w5 with
      | .inl x, _ => exact trivial
      | .inr x, e3 =>
        have t := Jvm.FP.val64_dneg x
        obtain ⟨s', c', q', ex⟩ := okD_fin e3
        rw [ex] at t
        exact okD_of ⟨_, c', q', t⟩
    exact c_push (d := d + 3) w2 hd C2 (FK_F (FK_trans FK1 w6) w7 FR) hop (by omega) (by omega) r1 (XS_num Aa F3) (KZ_fr F3 (by decide) (KZ_at w3 hd)) N3 kn (FA_fr F3 (fun a q => by omega))
end XND

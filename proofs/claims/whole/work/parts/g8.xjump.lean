/-! THE CLASS: cut and real, if, try -/
/-- the state but for depth and tries -/
def XR (h g : am_H) (o : Nat) (rr : Option Nat) (sa : Nat) (σ : SR) : Prop :=
  kp (xmP o rr) h g ∧ am_S g ∧ am_I g 9 11 = nI σ.1 ∧ σ.1 ≤ 1000 ∧ am_I g 9 12 = nI 1 ∧ am_R g 9 15 = some o ∧ am_R g 9 16 = some sa ∧ RDx g o rr σ.2
section XJU
variable {h g g' ga : am_H} {o sa dp dp' d e b f s sh nn tm p q n T T1 p2 : Nat} {rr : Option Nat} {v1 v2 v3 : Option Value} {tt : Nat → ntT} {rt : Nat → Nat} {cv : Nat → Option (Option VL)} {cs : Nat → Nat → VL} {as : List VL} {st : List VL} {ts ts' : List (Nat × Nat × Nat)} {σ : SR} {u v : VL} {x : Int32}
theorem XS_iff : XS h g o rr sa dp ts σ ↔ XR h g o rr sa σ ∧ TS g ts ∧ am_I g 9 10 = nI dp :=
  ⟨fun ⟨a1, a2, a3, a4, a5, a6, a7, a8, a9, a10⟩ => ⟨⟨a1, a2, a5, a6, a7, a8, a9, a10⟩, a3, a4⟩, fun ⟨⟨a1, a2, a5, a6, a7, a8, a9, a10⟩, a3, a4⟩ => ⟨a1, a2, a3, a4, a5, a6, a7, a8, a9, a10⟩⟩
theorem XR_I {a k : Nat} (A : XR h g o rr sa σ) (hak : (a = 9 ∧ (k = 9 ∨ k = 10 ∨ k = 13)) ∨ (17 ≤ a ∧ a ≤ 21) ∨ (12 ≤ a ∧ a ≤ 15) ∨ (278 ≤ a ∧ a ≤ 299)) (ho : o < 278 ∨ 299 < o) : XR h (am_setI g a k x) o rr sa σ := by
  obtain ⟨a1, a2, a5, a6, a7, a8, a9, a10⟩ := A
  have hr := a10.2.2
  have n9 : ∀ j, (j = 11 ∨ j = 12) → am_I (am_setI g a k x) 9 j = am_I g 9 j := fun j hj => by
    rcases hak with ⟨rfl, hh⟩ | hh
    · exact rI_k (by omega)
    · exact rI_a (by omega)
  have nn : ∀ b j, 22 ≤ b → (b < 278 ∨ 299 < b) → am_I (am_setI g a k x) b j = am_I g b j := fun b j h1 h2 => rI_a (by omega)
  refine ⟨kp_I a1 (by rcases hak with ⟨rfl, hh⟩ | hh | hh | hh
                      · exact Or.inl ⟨rfl, by omega⟩
                      · exact Or.inr (Or.inr (Or.inl hh))
                      · exact Or.inr (Or.inl hh)
                      · exact Or.inr (Or.inr (Or.inr (Or.inl hh)))), a2, (n9 11 (Or.inl rfl)).trans a5, a6, (n9 12 (Or.inr rfl)).trans a7, a8, a9, RDx_keep a10 (fun j _ => nn o j (by omega) ho) rfl (fun _ _ => rfl) (Nat.le_refl _) (fun b q j => nn b j (by have := (hr.2.2 b q).1; omega) (by have := (hr.2.2 b q).1; omega))⟩
theorem XR_R14 {x : Option Nat} (A : XR h g o rr sa σ) : XR h (am_setR g 9 14 x) o rr sa σ := by
  obtain ⟨a1, a2, a5, a6, a7, a8, a9, a10⟩ := A
  have b3 := a10.2.2.1
  refine ⟨kp_R a1 (Or.inl ⟨rfl, by decide⟩), S_Rg a2 (Or.inr (Or.inr (Or.inl ⟨rfl, by decide⟩))), a5, a6, a7, ?_, ?_, RDx_keep a10 (fun _ _ => rfl) ?_ (fun _ _ => rfl) (Nat.le_refl _) (fun _ _ _ => rfl)⟩
  · rw [hR_R, if_pos rfl, if_neg (by decide)]; exact a8
  · rw [hR_R, if_pos rfl, if_neg (by decide)]; exact a9
  · rw [hR_R, if_neg (by omega)]
/-- a node's code is run, then what comes behind it -/
theorem c_sub {F : SR → FO} {D1 DD : List (Int32 × Int64)} {u : List VL} {k : VL → SR → FO} (W : CWk h o rr sa d v1 v2 v3 f F dp e b as D1 tm) (C : cdK h e DD) (hD : ∀ i x, D1[i]? = some x → DD[p + i]? = some x) (hf : σ.1 < f) (A : XS h g o rr sa dp ts σ) (Z : KZ g) (N : NS g (st ++ u)) (FR : FRx g dp e p b) (V : ∀ i v, as[i]? = some v → st[b + i]? = some v) (hl : st.length + u.length + σ.1 ≤ 1000) (ht : ts.length ≤ tm) (hT : n + 6 * σ.1 ≤ T1) (h1 : T1 ≤ T) (hT2 : T < 900000)
    (K : ∀ v σ' g' n', F σ = (.inl v, σ') → XS h g' o rr sa dp ts σ' → KZ g' → NS g' (st ++ u ++ [v]) → okV v → FK g g' dp → am_I g' (278 + dp) 1 = nI (p + D1.length) → n' + 6 * σ'.1 ≤ T1 → CP h o rr sa d v1 v2 v3 T g' dp ts st p2 n' (k v σ')) : CP h o rr sa d v1 v2 v3 T g dp ts st p2 n (andThen (F σ) k) := by
  have W1 := W DD p g σ ts (st ++ u) n T1 C hD hf A Z N FR (fun i v hv => by
    have c := (List.getElem?_eq_some_iff.mp (V i v hv)).1
    rw [List.getElem?_append_left c]; exact V i v hv) (by rw [List.length_append]; omega) ht hT (by omega)
  match hF : F σ, W1 with
  | (.inr q, σ'), ⟨g2, n2, dp', ts', w1, w2, w2', w3, w4, w5, w6⟩ => exact ⟨g2, n2, dp', ts', w1, w2, w2', st_app w3, w4, w5, by omega⟩
  | (.inl v, σ'), ⟨g2, n2, w1, w2, w3, w4, w5, w6, w7, w8⟩ => exact CP_pre w1 w6 (K v σ' g2 n2 hF w2 w3 w4 w5 w6 w7 w8)
theorem CP_T {r : FO} (C : CP h o rr sa d v1 v2 v3 T1 g dp ts st p n r) (hT : T1 ≤ T) : CP h o rr sa d v1 v2 v3 T g dp ts st p n r := by
  match r, C with
  | (.inl v, σ), ⟨g2, n2, c1, c2, c3, c4, c5, c6, c7, c8⟩ => exact ⟨g2, n2, c1, c2, c3, c4, c5, c6, c7, by omega⟩
  | (.inr q, σ), ⟨g2, n2, dp', ts', c1, c2, c2', c3, c4, c5, c6⟩ => exact ⟨g2, n2, dp', ts', c1, c2, c2', c3, c4, c5, by omega⟩
theorem o_cut_ {w : Nat} (hw : w = 10 ∨ w = 11) (S : am_S ga) (N : NS ga (st ++ [v])) (hl : st.length < 1024) (kv : okV v) {y : Int64} : ∃ g', am_run (d + 3) 40 [some (.ref 9), some (.ref (278 + dp)), some (.int (nI (18 + w))), some (.long y), none] ga none g' ∧ NS g' (st ++ [if w = 11 then .inr (vD v) else cutV v]) ∧ am_fr nsP ga g' := by
  rcases hw with rfl | rfl
  · obtain ⟨x, ex, r1, N1, F1⟩ := x_popL (d := d + 2) S N hl
    obtain ⟨g', r2, N2, F2⟩ := x_pushL (d := d + 2) (x := x) (fr_S F1 S) N1 hl
    refine ⟨g', fun Q => ?_, by rw [if_neg (by decide), ex]; exact N2, fr_trans F1 F2⟩
    have S1 := fr_S F1 S
    simp (disch := first | with_reducible assumption | omega | exact Or.inl rfl | exact Or.inr rfl | exact bI_01 | exact c_cat | exact vt_ref | exact vt_null | rfl | with_reducible repeat (first | assumption | omega | apply S_I | apply S_L | apply S_D | apply ob_I | apply ob_L | apply ob_D | apply ob_R | apply ax_I | apply ax_L | apply ax_D | apply ax_R | apply o303 | apply o307 | apply o302 | apply o301 | apply ax304 | apply ax305 | apply ax306 | apply ax308 | apply ax309 | apply ax310 | apply lt_S | apply ar305 | apply ar308 | apply ar309)) only [g40_0, show nI (18 + 10) = nI 28 from rfl, g40_1_28, g40_168, g40_169, g40_172, g40_173, g40_176, g40_179, g40_182, g40_302, Option.toList, List.nil_append, List.cons_append, va_rf, r1 _, r2 _]
  · obtain ⟨r1, N1, F1⟩ := x_popD (d := d + 1) S N hl
    obtain ⟨g', r2, N2, F2⟩ := x_pushD (d := d + 2) (x := vD v) (fr_S F1 S) N1 hl (ok_vD kv)
    refine ⟨g', fun Q => ?_, by rw [if_pos rfl]; exact N2, fr_trans F1 F2⟩
    have S1 := fr_S F1 S
    simp (disch := first | with_reducible assumption | omega | exact Or.inl rfl | exact Or.inr rfl | exact bI_01 | exact c_cat | exact vt_ref | exact vt_null | rfl | with_reducible repeat (first | assumption | omega | apply S_I | apply S_L | apply S_D | apply ob_I | apply ob_L | apply ob_D | apply ob_R | apply ax_I | apply ax_L | apply ax_D | apply ax_R | apply o303 | apply o307 | apply o302 | apply o301 | apply ax304 | apply ax305 | apply ax306 | apply ax308 | apply ax309 | apply ax310 | apply lt_S | apply ar305 | apply ar308 | apply ar309)) only [g40_0, show nI (18 + 11) = nI 29 from rfl, g40_1_29, g40_185, g40_186, g40_189, g40_190, g40_193, g40_196, g40_199, g40_302, Option.toList, List.nil_append, List.cons_append, va_rf, r1 _, r2 _]
theorem c_cut {w i : Nat} {D1 : List (Int32 × Int64)} (h4 : 402 ≤ h.1) (ho : o < 278 ∨ 299 < o) (ho2 : o < 402) (hd : dp < 22) (hre : ∀ a, rr = some a → a < e ∨ e + 7 ≤ a) (hi : i < 48) (hw : w = 10 ∨ w = 11) (ht : tt s nn = (nI 7, nI i, -1, -1, lN w)) (W : CWk h o rr sa (d + 4) v1 v2 v3 f (ev tt rt cv cs f s as sh dp i) dp e b as D1 tm) : CWk h o rr sa (d + 4) v1 v2 v3 (f + 1) (ev tt rt cv cs (f + 1) s as sh dp nn) dp e b as (ST :: D1 ++ [(nI (18 + w), lN 0)]) tm := by
  intro DD p g σ ts st n T C hD hf A Z N FR V hl ht2 hT hT2
  rw [show p + (ST :: D1 ++ [(nI (18 + w), lN 0)]).length = p + 1 + D1.length + 1 by simp only [List.length_append, List.length_cons, List.length_nil]; omega]
  show CP h o rr sa (d + 4) v1 v2 v3 T g dp ts st (p + 1 + D1.length + 1) n (if σ.1 = 0 then (oF 8, σ) else evX tt rt cv cs f s as sh dp nn (σ.1 - 1, σ.2))
  have Cg := cd_kp A.1 ho2 hre C
  refine c_step (d := d + 2) A ho hd Cg FR (hD 0 _ rfl) Z N hT hT2 (fun s0 g1 A1 Z1 N1 FK1 at1 hT1 => ?_)
  have ex : evX tt rt cv cs f s as sh dp nn (σ.1 - 1, σ.2) = andThen (ev tt rt cv cs f s as sh dp i (σ.1 - 1, σ.2)) (fun v σ => (.inl (if w = 11 then .inr (vD v) else cutV v), σ)) := by
    unfold evX evN evCall
    simp (disch := omega) only [ht, nI_eq, Nat.reduceEqDiff, ↓reduceIte, xN_n, lN_i8]
    rcases hw with rfl | rfl
    · simp only [Nat.reduceEqDiff, ↓reduceIte, Nat.reduceLeDiff, and_false, false_and]
    · simp only [Nat.reduceEqDiff, ↓reduceIte, Nat.reduceLeDiff, and_false, false_and]
  rw [ex]
  have hD1 := d_sub (D1 := D1) (k := 1) hD (fun j x hx => by
    have c := (List.getElem?_eq_some_iff.mp hx).1
    rw [Nat.add_comm 1, List.cons_append, List.getElem?_cons_succ, List.getElem?_append_left c]; exact hx)
  have hop : DD[p + 1 + D1.length]? = some (nI (18 + w), lN 0) := by
    have := hD (1 + D1.length) (nI (18 + w), lN 0) (by rw [Nat.add_comm 1, List.cons_append, List.getElem?_cons_succ, List.getElem?_append_right (Nat.le_refl _), Nat.sub_self]; rfl)
    rwa [← Nat.add_assoc] at this
  refine c_sub (u := []) (T1 := T - 2) W C hD1 (by show σ.1 - 1 < f; omega) A1 Z1 (by rw [List.append_nil]; exact N1) (FK_F FK1 at1 FR) V (by show st.length + 0 + (σ.1 - 1) ≤ 1000; omega) ht2 (by show n + 1 + 6 * (σ.1 - 1) ≤ T - 2; omega) (by omega) hT2 (fun v σ' g2 n2 _ w2 w3 w4 w5 w6 w7 w8 => ?_)
  rw [List.append_nil] at w4
  have C2 := cd_kp w2.1 ho2 hre C
  have Aa := XS_at (p := p + 1 + D1.length) w2 hd ho
  have l2 : σ'.1 ≤ 1000 := w2.2.2.2.2.2.1
  obtain ⟨g', r1, N3, F3⟩ := o_cut_ (d := d) (dp := dp) (y := lN 0) hw Aa.2.1 (NS_at (p := p + 1 + D1.length) w4 hd) (by omega) w5
  have kn : okV (if w = 11 then .inr (vD v) else cutV v) := by
    split
    · exact ok_vD w5
    · cases v <;> exact trivial
  exact c_push (d := d + 3) w2 hd C2 (FK_F (FK_trans FK1 w6) w7 FR) hop (by omega) (by omega) r1 (XS_num Aa F3) (KZ_fr F3 (by decide) (KZ_at w3 hd)) N3 kn (FA_fr F3 (fun a q => by omega))
end XJU

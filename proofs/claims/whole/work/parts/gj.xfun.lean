/-! THE CLASS: a function's call -/
section XFU
variable {h g g' ga : am_H} {o sa dp d e e' b f s sh nn tm tmf p n T p2 gf r0 : Nat} {rr : Option Nat} {v1 v2 v3 : Option Value} {tt : Nat → ntT} {rt : Nat → Nat} {cv : Nat → Option (Option VL)} {cs : Nat → Nat → VL} {as as' : List VL} {st : List VL} {ts : List (Nat × Nat × Nat)} {σ : SR} {u v : VL} {x : Int32} {D' DD : List (Int32 × Int64)}
theorem R11_kp (K : kp (xmP o rr) h g) (h4 : 402 ≤ h.1) (ho : 22 ≤ o) (hr : ∀ a, rr = some a → 402 ≤ a) : am_R g 11 gf = am_R h 11 gf := (K.2.2 11 gf (by omega) (fun q => by
  rcases q with q | q | q | q | q | q
  · omega
  · omega
  · omega
  · omega
  · omega
  · have := hr _ q; omega)).2.2.2
theorem XS_hr (A : XS h g o rr sa dp ts σ) : 22 ≤ o ∧ ∀ a, rr = some a → 402 ≤ a := ⟨A.2.2.2.2.2.2.2.2.2.2.2.1, fun a q => (A.2.2.2.2.2.2.2.2.2.2.2.2.2 a q).1⟩
/-- from a function's beginning to its end, and back -/
theorem c_body {F : SR → FO} (h4 : 402 ≤ h.1) (ho : o < 278 ∨ 299 < o) (ho2 : o < 402) (hd : dp < 20) (hre' : ∀ a, rr = some a → a < e' ∨ e' + 7 ≤ a) (C' : cdK h e' D') (A : XS h g o rr sa (dp + 1) ts σ) (Z : KZ g) (N : NS g (st ++ as')) (FR : FRx g (dp + 1) e' 0 st.length) (hf : σ.1 < f) (hl : st.length + as'.length + σ.1 ≤ 1000) (ht : ts.length ≤ tmf) (hT : n + 6 * σ.1 ≤ T) (hT2 : T < 900000) (WF : CWk h o rr sa (d + 3) v1 v2 v3 f F (dp + 1) e' st.length as' D' tmf) : CP h o rr sa (d + 3) v1 v2 v3 T g (dp + 1) ts (st ++ as') D'.length n (F σ) := by
  have W := WF D' 0 g σ ts (st ++ as') n T C' (fun i x hx => by rw [Nat.zero_add]; exact hx) hf A Z N FR (fun i v hv => by
    rw [List.getElem?_append_right (by omega), show st.length + i - st.length = i by omega]; exact hv) (by rw [List.length_append]; exact hl) ht hT hT2
  rwa [Nat.zero_add] at W
theorem c_callX {w : Nat} (h4 : 402 ≤ h.1) (ho : o < 278 ∨ 299 < o) (ho2 : o < 402) (hd : dp ≤ 20) (hg : gf < 8) (hw : as'.length = w) (hw3 : w < 4) (hre : ∀ a, rr = some a → a < e ∨ e + 7 ≤ a) (hre' : ∀ a, rr = some a → a < e' ∨ e' + 7 ≤ a) (C : cdK h e DD) (C' : cdK h e' D') (er : am_R h 11 gf = some e') (hx : DD[p]? = some (nI 30, lN (gf * 4 + w))) (A : XS h g o rr sa dp ts σ) (Z : KZ g) (N : NS g (st ++ as')) (FR : FRx g dp e p b) (hf : σ.1 < f) (hl : st.length + as'.length + σ.1 ≤ 1000) (ht : ts.length ≤ tmf) (hT : n + 2 + 6 * σ.1 ≤ T) (hT2 : T < 900000)
    (WF : dp < 20 → CWk h o rr sa (d + 3) v1 v2 v3 f (ev tt rt cv cs f (48 + gf) as' 0 (dp + 1) (rt (48 + gf))) (dp + 1) e' st.length as' D' tmf) : CP h o rr sa (d + 3) v1 v2 v3 T g dp ts st (p + 1) n (apX tt rt cv cs f dp gf as' σ) := by
  have Cg := cd_kp A.1 ho2 hre C
  have Aa := XS_at (p := p) A (by omega) ho
  have Na := NS_at (p := p) N (show dp < 22 by omega)
  have Za := KZ_at (p := p) Z (show dp < 22 by omega)
  obtain ⟨o22', hr4⟩ := XS_hr A
  unfold apX
  by_cases c : dp = 20
  · subst c
    rw [if_pos rfl]
    have r1 := o_callN_ (d := d) (w := w) Aa hg hw3
    exact c_fail (d := d + 2) A (by omega) Cg FR hx (by omega) (by omega) r1 (XS_I Aa (Or.inl ⟨rfl, rfl⟩) ho) (st_app (NS_9 Na).2) ⟨rI_eq, by decide, by decide, Za.2⟩ (FA_I (by omega))
  · rw [if_neg c]
    have er1 : am_R (am_setI g (278 + dp) 1 (nI (p + 1))) 11 gf = some e' := (R11_kp A.1 h4 o22' hr4).trans er
    have tp := Na.1
    have r1 := o_call_ (d := d) (m := (st ++ as').length) (w := w) Aa (by omega) hg hw3 er1 tp (by rw [List.length_append]; omega) (by rw [List.length_append]; omega)
    have em : (st ++ as').length - w = st.length := by rw [List.length_append]; omega
    rw [em] at r1
    have A2 := XS_en (e' := e') (bb := st.length) Aa ho (by omega)
    have N2 := NS_en (e' := e') (j := dp + 1) (bb := st.length) Na (by omega)
    have Z2 := KZ_en (e' := e') (j := dp + 1) (bb := st.length) Za (by omega)
    obtain ⟨F2, q2⟩ := FR_en (g := am_setI g (278 + dp) 1 (nI (p + 1))) (e' := e') (j := dp + 1) (bb := st.length) (by omega)
    have G := x_good (v1 := v1) (v2 := v2) (v3 := v3) (n := n) A (by omega) Cg FR hx (by omega) r1 A2.2.1 Z2.1
    have FK2 : FK g (enH (am_setI g (278 + dp) 1 (nI (p + 1))) (dp + 1) e' st.length) dp := FK_trans FK_at (FK_en (by omega))
    have at2 : am_I (enH (am_setI g (278 + dp) 1 (nI (p + 1))) (dp + 1) e' st.length) (278 + dp) 1 = nI (p + 1) := by rw [en_I (by omega) (by omega)]; exact rI_eq
    refine CP_pre G FK2 ?_
    generalize enH (am_setI g (278 + dp) 1 (nI (p + 1))) (dp + 1) e' st.length = g2 at A2 N2 Z2 F2 q2 at2
    have B := c_body (n := n + 1) (T := T - 1) h4 ho ho2 (by omega) hre' C' A2 Z2 N2 F2 hf hl ht (by omega) (by omega) (WF (by omega))
    match ev tt rt cv cs f (48 + gf) as' 0 (dp + 1) (rt (48 + gf)) σ, B with
    | (.inr q, σ'), ⟨g3, n3, dp', ts', w1, w2, w2', w3, w4, w5, w6⟩ => exact ⟨g3, n3, dp', ts', w1, w2, w2', st_app w3, w4, FK_le w5 (by omega), by omega⟩
    | (.inl v, σ'), ⟨g3, n3, w1, w2, w3, w4, w5, w6, w7, w8⟩ =>
      have C3 := cd_kp w2.1 ho2 hre' C'
      obtain ⟨g4, G4, A4, Z4, N4, FA4⟩ := x_leave (d := d + 1) (v1 := v1) (v2 := v2) (v3 := v3) (n := n3) (bb := 0) w2 ho (by omega) C3 (FK_F w6 w7 F2) (((w6.2 3).1 (by decide)).trans q2) w3 w4 (by omega) (by omega)
      refine ⟨g4, n3 + 1, GR_trans w1 G4, A4, Z4, N4, w5, FK_trans (FK_le w6 (by omega)) (FA_K FA4 (by omega)), ?_, by omega⟩
      rw [(FA4 (278 + dp) (by omega) (by omega) 1).1, (w6.1 dp (by omega) 1).1]
      exact at2
theorem c_fun1 {i : Nat} {D1 : List (Int32 × Int64)} (h4 : 402 ≤ h.1) (ho : o < 278 ∨ 299 < o) (ho2 : o < 402) (hd : dp ≤ 20) (hg : gf < 8) (hre : ∀ a, rr = some a → a < e ∨ e + 7 ≤ a) (hre' : ∀ a, rr = some a → a < e' ∨ e' + 7 ≤ a) (hi : i < 48) (C' : cdK h e' D') (er : am_R h 11 gf = some e') (htm : tm ≤ tmf) (ht : tt s nn = (nI 8, nI i, -1, -1, lN gf)) (W : CWk h o rr sa (d + 3) v1 v2 v3 f (ev tt rt cv cs f s as sh dp i) dp e b as D1 tm) (L1 : ∀ σ v σ', ev tt rt cv cs f s as sh dp i σ = (.inl v, σ') → σ'.1 < σ.1)
    (WF : ∀ as' bb, as'.length = 1 → dp < 20 → CWk h o rr sa (d + 3) v1 v2 v3 f (ev tt rt cv cs f (48 + gf) as' 0 (dp + 1) (rt (48 + gf))) (dp + 1) e' bb as' D' tmf) : CWk h o rr sa (d + 3) v1 v2 v3 (f + 1) (ev tt rt cv cs (f + 1) s as sh dp nn) dp e b as (ST :: D1 ++ [(nI 30, lN (gf * 4 + 1))]) tm := by
  intro DD p g σ ts st n T C hD hf A Z N FR V hl ht2 hT hT2
  rw [show p + (ST :: D1 ++ [(nI 30, lN (gf * 4 + 1))]).length = p + 1 + D1.length + 1 by simp only [List.length_append, List.length_cons, List.length_nil]; omega]
  show CP h o rr sa (d + 3) v1 v2 v3 T g dp ts st (p + 1 + D1.length + 1) n (if σ.1 = 0 then (oF 8, σ) else evX tt rt cv cs f s as sh dp nn (σ.1 - 1, σ.2))
  have Cg := cd_kp A.1 ho2 hre C
  refine c_step (d := d + 1) A ho (by omega) Cg FR (hD 0 _ rfl) Z N hT hT2 (fun s0 g1 A1 Z1 N1 FK1 at1 hT1 => ?_)
  have ex : evX tt rt cv cs f s as sh dp nn (σ.1 - 1, σ.2) = andThen (ev tt rt cv cs f s as sh dp i (σ.1 - 1, σ.2)) (fun v σ => apX tt rt cv cs f dp gf [v] σ) := by
    unfold evX evN
    simp (disch := omega) only [ht, nI_eq, Nat.reduceEqDiff, ↓reduceIte, xN_n, lN_i8, chL, evArgs]
    generalize ev tt rt cv cs f s as sh dp i (σ.1 - 1, σ.2) = q
    obtain ⟨q, σ1⟩ := q
    cases q <;> rfl
  rw [ex]
  have hD1 := d_sub (D1 := D1) (k := 1) hD (fun j x hx => by
    have c := (List.getElem?_eq_some_iff.mp hx).1
    rw [Nat.add_comm 1, List.cons_append, List.getElem?_cons_succ, List.getElem?_append_left c]; exact hx)
  have hop : DD[p + 1 + D1.length]? = some (nI 30, lN (gf * 4 + 1)) := by
    have := hD (1 + D1.length) (nI 30, lN (gf * 4 + 1)) (by rw [Nat.add_comm 1, List.cons_append, List.getElem?_cons_succ, List.getElem?_append_right (Nat.le_refl _), Nat.sub_self]; rfl)
    rwa [← Nat.add_assoc] at this
  refine c_sub (u := []) (T1 := T - 3) W C hD1 (by show σ.1 - 1 < f; omega) A1 Z1 (by rw [List.append_nil]; exact N1) (FK_F FK1 at1 FR) V (by show st.length + 0 + (σ.1 - 1) ≤ 1000; omega) ht2 (by show n + 1 + 6 * (σ.1 - 1) ≤ T - 3; omega) (by omega) hT2 (fun v σ' g2 n2 hF w2 w3 w4 w5 w6 w7 w8 => ?_)
  rw [List.append_nil] at w4
  have la : σ'.1 < σ.1 - 1 := L1 _ _ _ hF
  exact c_callX (d := d) (w := 1) h4 ho ho2 hd hg rfl (by decide) hre hre' C C' er hop w2 w3 w4 (FK_F (FK_trans FK1 w6) w7 FR) (by omega) (by show st.length + 1 + σ'.1 ≤ 1000; omega) (by omega) (by omega) hT2 (fun hc => WF [v] st.length rfl hc)
theorem c_fun2 {i j : Nat} {D1 D2 : List (Int32 × Int64)} (h4 : 402 ≤ h.1) (ho : o < 278 ∨ 299 < o) (ho2 : o < 402) (hd : dp ≤ 20) (hg : gf < 8) (hre : ∀ a, rr = some a → a < e ∨ e + 7 ≤ a) (hre' : ∀ a, rr = some a → a < e' ∨ e' + 7 ≤ a) (hi : i < 48) (hj : j < 48) (C' : cdK h e' D') (er : am_R h 11 gf = some e') (htm : tm ≤ tmf) (ht : tt s nn = (nI 8, nI i, nI j, -1, lN gf)) (W : CWk h o rr sa (d + 3) v1 v2 v3 f (ev tt rt cv cs f s as sh dp i) dp e b as D1 tm) (W2 : CWk h o rr sa (d + 3) v1 v2 v3 f (ev tt rt cv cs f s as sh dp j) dp e b as D2 tm) (L1 : ∀ σ v σ', ev tt rt cv cs f s as sh dp i σ = (.inl v, σ') → σ'.1 < σ.1) (L2 : ∀ σ v σ', ev tt rt cv cs f s as sh dp j σ = (.inl v, σ') → σ'.1 < σ.1)
    (WF : ∀ as' bb, as'.length = 2 → dp < 20 → CWk h o rr sa (d + 3) v1 v2 v3 f (ev tt rt cv cs f (48 + gf) as' 0 (dp + 1) (rt (48 + gf))) (dp + 1) e' bb as' D' tmf) : CWk h o rr sa (d + 3) v1 v2 v3 (f + 1) (ev tt rt cv cs (f + 1) s as sh dp nn) dp e b as (ST :: D1 ++ D2 ++ [(nI 30, lN (gf * 4 + 2))]) tm := by
  intro DD p g σ ts st n T C hD hf A Z N FR V hl ht2 hT hT2
  rw [show p + (ST :: D1 ++ D2 ++ [(nI 30, lN (gf * 4 + 2))]).length = p + 1 + D1.length + D2.length + 1 by simp only [List.length_append, List.length_cons, List.length_nil]; omega]
  show CP h o rr sa (d + 3) v1 v2 v3 T g dp ts st (p + 1 + D1.length + D2.length + 1) n (if σ.1 = 0 then (oF 8, σ) else evX tt rt cv cs f s as sh dp nn (σ.1 - 1, σ.2))
  have Cg := cd_kp A.1 ho2 hre C
  refine c_step (d := d + 1) A ho (by omega) Cg FR (hD 0 _ rfl) Z N hT hT2 (fun s0 g1 A1 Z1 N1 FK1 at1 hT1 => ?_)
  have ex : evX tt rt cv cs f s as sh dp nn (σ.1 - 1, σ.2) = andThen (ev tt rt cv cs f s as sh dp i (σ.1 - 1, σ.2)) (fun u σ => andThen (ev tt rt cv cs f s as sh dp j σ) (fun v σ => apX tt rt cv cs f dp gf [u, v] σ)) := by
    unfold evX evN
    simp (disch := omega) only [ht, nI_eq, Nat.reduceEqDiff, ↓reduceIte, xN_n, lN_i8, chL, evArgs, nI_m1]
    generalize ev tt rt cv cs f s as sh dp i (σ.1 - 1, σ.2) = q
    obtain ⟨q, σ1⟩ := q
    cases q with
    | inr q => rfl
    | inl u =>
      dsimp only [andThen]
      generalize ev tt rt cv cs f s as sh dp j σ1 = q2
      obtain ⟨q2, σ2⟩ := q2
      cases q2 <;> rfl
  rw [ex]
  have hDa : ∀ i x, (D1 ++ (D2 ++ [(nI 30, lN (gf * 4 + 2))]))[i]? = some x → DD[p + 1 + i]? = some x := fun i x hx => by
    have := hD (i + 1) x (by rw [List.append_assoc, List.cons_append, List.getElem?_cons_succ]; exact hx)
    rwa [show p + (i + 1) = p + 1 + i by omega] at this
  have hD1 : ∀ i x, D1[i]? = some x → DD[p + 1 + i]? = some x := fun i x hx => hDa i x (by
    have c := (List.getElem?_eq_some_iff.mp hx).1
    rw [List.getElem?_append_left c]; exact hx)
  have hDb : ∀ i x, (D2 ++ [(nI 30, lN (gf * 4 + 2))])[i]? = some x → DD[p + 1 + D1.length + i]? = some x := fun i x hx => by
    have := hDa (D1.length + i) x (by rw [List.getElem?_append_right (by omega), show D1.length + i - D1.length = i by omega]; exact hx)
    rwa [← Nat.add_assoc] at this
  have hD2 : ∀ i x, D2[i]? = some x → DD[p + 1 + D1.length + i]? = some x := fun i x hx => hDb i x (by
    have c := (List.getElem?_eq_some_iff.mp hx).1
    rw [List.getElem?_append_left c]; exact hx)
  have hop : DD[p + 1 + D1.length + D2.length]? = some (nI 30, lN (gf * 4 + 2)) := hDb D2.length _ (by rw [List.getElem?_append_right (Nat.le_refl _), Nat.sub_self]; rfl)
  refine c_sub (u := []) (T1 := T - 3) W C hD1 (by show σ.1 - 1 < f; omega) A1 Z1 (by rw [List.append_nil]; exact N1) (FK_F FK1 at1 FR) V (by show st.length + 0 + (σ.1 - 1) ≤ 1000; omega) ht2 (by show n + 1 + 6 * (σ.1 - 1) ≤ T - 3; omega) (by omega) hT2 (fun u σ' g2 n2 hF w2 w3 w4 w5 w6 w7 w8 => ?_)
  rw [List.append_nil] at w4
  have la : σ'.1 < σ.1 - 1 := L1 _ _ _ hF
  refine c_sub (u := [u]) (T1 := T - 3) W2 C hD2 (by omega) w2 w3 w4 (FK_F (FK_trans FK1 w6) w7 FR) V (by show st.length + 1 + σ'.1 ≤ 1000; omega) ht2 (by omega) (by omega) hT2 (fun v σ2 g3 n3 hF2 x2 x3 x4 x5 x6 x7 x8 => ?_)
  have lb : σ2.1 < σ'.1 := L2 _ _ _ hF2
  exact c_callX (d := d) (w := 2) h4 ho ho2 hd hg rfl (by decide) hre hre' C C' er hop x2 x3 (by rw [List.append_assoc] at x4; exact x4) (FK_F (FK_trans (FK_trans FK1 w6) x6) x7 FR) (by omega) (by show st.length + 2 + σ2.1 ≤ 1000; omega) (by omega) (by omega) hT2 (fun hc => WF [u, v] st.length rfl hc)
theorem c_fun3 {i j l : Nat} {D1 D2 D3 : List (Int32 × Int64)} (h4 : 402 ≤ h.1) (ho : o < 278 ∨ 299 < o) (ho2 : o < 402) (hd : dp ≤ 20) (hg : gf < 8) (hre : ∀ a, rr = some a → a < e ∨ e + 7 ≤ a) (hre' : ∀ a, rr = some a → a < e' ∨ e' + 7 ≤ a) (hi : i < 48) (hj : j < 48) (hl3 : l < 48) (C' : cdK h e' D') (er : am_R h 11 gf = some e') (htm : tm ≤ tmf) (ht : tt s nn = (nI 8, nI i, nI j, nI l, lN gf)) (W : CWk h o rr sa (d + 3) v1 v2 v3 f (ev tt rt cv cs f s as sh dp i) dp e b as D1 tm) (W2 : CWk h o rr sa (d + 3) v1 v2 v3 f (ev tt rt cv cs f s as sh dp j) dp e b as D2 tm) (W3 : CWk h o rr sa (d + 3) v1 v2 v3 f (ev tt rt cv cs f s as sh dp l) dp e b as D3 tm) (L1 : ∀ σ v σ', ev tt rt cv cs f s as sh dp i σ = (.inl v, σ') → σ'.1 < σ.1) (L2 : ∀ σ v σ', ev tt rt cv cs f s as sh dp j σ = (.inl v, σ') → σ'.1 < σ.1) (L3 : ∀ σ v σ', ev tt rt cv cs f s as sh dp l σ = (.inl v, σ') → σ'.1 < σ.1)
    (WF : ∀ as' bb, as'.length = 3 → dp < 20 → CWk h o rr sa (d + 3) v1 v2 v3 f (ev tt rt cv cs f (48 + gf) as' 0 (dp + 1) (rt (48 + gf))) (dp + 1) e' bb as' D' tmf) : CWk h o rr sa (d + 3) v1 v2 v3 (f + 1) (ev tt rt cv cs (f + 1) s as sh dp nn) dp e b as (ST :: D1 ++ D2 ++ D3 ++ [(nI 30, lN (gf * 4 + 3))]) tm := by
  intro DD p g σ ts st n T C hD hf A Z N FR V hl ht2 hT hT2
  rw [show p + (ST :: D1 ++ D2 ++ D3 ++ [(nI 30, lN (gf * 4 + 3))]).length = p + 1 + D1.length + D2.length + D3.length + 1 by simp only [List.length_append, List.length_cons, List.length_nil]; omega]
  show CP h o rr sa (d + 3) v1 v2 v3 T g dp ts st (p + 1 + D1.length + D2.length + D3.length + 1) n (if σ.1 = 0 then (oF 8, σ) else evX tt rt cv cs f s as sh dp nn (σ.1 - 1, σ.2))
  have Cg := cd_kp A.1 ho2 hre C
  refine c_step (d := d + 1) A ho (by omega) Cg FR (hD 0 _ rfl) Z N hT hT2 (fun s0 g1 A1 Z1 N1 FK1 at1 hT1 => ?_)
  have ex : evX tt rt cv cs f s as sh dp nn (σ.1 - 1, σ.2) = andThen (ev tt rt cv cs f s as sh dp i (σ.1 - 1, σ.2)) (fun u σ => andThen (ev tt rt cv cs f s as sh dp j σ) (fun v σ => andThen (ev tt rt cv cs f s as sh dp l σ) (fun w σ => apX tt rt cv cs f dp gf [u, v, w] σ))) := by
    unfold evX evN
    simp (disch := omega) only [ht, nI_eq, Nat.reduceEqDiff, ↓reduceIte, xN_n, lN_i8, chL, evArgs, nI_m1]
    generalize ev tt rt cv cs f s as sh dp i (σ.1 - 1, σ.2) = q
    obtain ⟨q, σ1⟩ := q
    cases q with
    | inr q => rfl
    | inl u =>
      dsimp only [andThen]
      generalize ev tt rt cv cs f s as sh dp j σ1 = q2
      obtain ⟨q2, σ2⟩ := q2
      cases q2 with
      | inr q => rfl
      | inl v =>
        dsimp only
        generalize ev tt rt cv cs f s as sh dp l σ2 = q3
        obtain ⟨q3, σ3⟩ := q3
        cases q3 <;> rfl
  rw [ex]
  have hDa : ∀ i x, (D1 ++ (D2 ++ (D3 ++ [(nI 30, lN (gf * 4 + 3))])))[i]? = some x → DD[p + 1 + i]? = some x := fun i x hx => by
    have := hD (i + 1) x (by rw [List.append_assoc, List.append_assoc, List.cons_append, List.getElem?_cons_succ]; exact hx)
    rwa [show p + (i + 1) = p + 1 + i by omega] at this
  have hD1 : ∀ i x, D1[i]? = some x → DD[p + 1 + i]? = some x := fun i x hx => hDa i x (by
    have c := (List.getElem?_eq_some_iff.mp hx).1
    rw [List.getElem?_append_left c]; exact hx)
  have hDb : ∀ i x, (D2 ++ (D3 ++ [(nI 30, lN (gf * 4 + 3))]))[i]? = some x → DD[p + 1 + D1.length + i]? = some x := fun i x hx => by
    have := hDa (D1.length + i) x (by rw [List.getElem?_append_right (by omega), show D1.length + i - D1.length = i by omega]; exact hx)
    rwa [← Nat.add_assoc] at this
  have hD2 : ∀ i x, D2[i]? = some x → DD[p + 1 + D1.length + i]? = some x := fun i x hx => hDb i x (by
    have c := (List.getElem?_eq_some_iff.mp hx).1
    rw [List.getElem?_append_left c]; exact hx)
  have hDc : ∀ i x, (D3 ++ [(nI 30, lN (gf * 4 + 3))])[i]? = some x → DD[p + 1 + D1.length + D2.length + i]? = some x := fun i x hx => by
    have := hDb (D2.length + i) x (by rw [List.getElem?_append_right (by omega), show D2.length + i - D2.length = i by omega]; exact hx)
    rwa [← Nat.add_assoc] at this
  have hD3 : ∀ i x, D3[i]? = some x → DD[p + 1 + D1.length + D2.length + i]? = some x := fun i x hx => hDc i x (by
    have c := (List.getElem?_eq_some_iff.mp hx).1
    rw [List.getElem?_append_left c]; exact hx)
  have hop : DD[p + 1 + D1.length + D2.length + D3.length]? = some (nI 30, lN (gf * 4 + 3)) := hDc D3.length _ (by rw [List.getElem?_append_right (Nat.le_refl _), Nat.sub_self]; rfl)
  refine c_sub (u := []) (T1 := T - 3) W C hD1 (by show σ.1 - 1 < f; omega) A1 Z1 (by rw [List.append_nil]; exact N1) (FK_F FK1 at1 FR) V (by show st.length + 0 + (σ.1 - 1) ≤ 1000; omega) ht2 (by show n + 1 + 6 * (σ.1 - 1) ≤ T - 3; omega) (by omega) hT2 (fun u σ' g2 n2 hF w2 w3 w4 w5 w6 w7 w8 => ?_)
  rw [List.append_nil] at w4
  have la : σ'.1 < σ.1 - 1 := L1 _ _ _ hF
  have FK2 := FK_trans FK1 w6
  refine c_sub (u := [u]) (T1 := T - 3) W2 C hD2 (by omega) w2 w3 w4 (FK_F FK2 w7 FR) V (by show st.length + 1 + σ'.1 ≤ 1000; omega) ht2 (by omega) (by omega) hT2 (fun v σ2 g3 n3 hF2 x2 x3 x4 x5 x6 x7 x8 => ?_)
  have lb : σ2.1 < σ'.1 := L2 _ _ _ hF2
  have FK3 := FK_trans FK2 x6
  refine c_sub (u := [u, v]) (T1 := T - 3) W3 C hD3 (by omega) x2 x3 (by rw [List.append_assoc] at x4; exact x4) (FK_F FK3 x7 FR) V (by show st.length + 2 + σ2.1 ≤ 1000; omega) ht2 (by omega) (by omega) hT2 (fun w σ3 g4 n4 hF3 y2 y3 y4 y5 y6 y7 y8 => ?_)
  have lc : σ3.1 < σ2.1 := L3 _ _ _ hF3
  exact c_callX (d := d) (w := 3) h4 ho ho2 hd hg rfl (by decide) hre hre' C C' er hop y2 y3 (by rw [List.append_assoc] at y4; exact y4) (FK_F (FK_trans FK3 y6) y7 FR) (by omega) (by show st.length + 3 + σ3.1 ≤ 1000; omega) (by omega) (by omega) hT2 (fun hc => WF [u, v, w] st.length rfl hc)
end XFU

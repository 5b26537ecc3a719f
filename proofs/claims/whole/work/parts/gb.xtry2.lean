/-! THE CLASS: try, the node -/
/-- try: what comes behind a failure -/
def trM (r : FO) (k : SR → FO) : FO := match r with
  | (.inr (.inl 8), σ) => (oF 8, σ)
  | (.inr _, σ) => k σ
  | (.inl v, σ) => (.inl v, σ)
section XTS
variable {h g g' g2 ga : am_H} {o sa dp dp' d e b f s sh nn tm p n n' T T1 p2 : Nat} {rr : Option Nat} {v1 v2 v3 : Option Value} {tt : Nat → ntT} {rt : Nat → Nat} {cv : Nat → Option (Option VL)} {cs : Nat → Nat → VL} {as : List VL} {st : List VL} {ts ts' : List (Nat × Nat × Nat)} {σ : SR} {u v : VL} {x : Int32}
theorem FLx_kind {q : Nat ⊕ Nat} (L : FLx h g q) : ∃ k, 0 < k ∧ k < 12 ∧ am_I g 9 13 = nI k := by
  match q, L with
  | .inl k, ⟨k1, k2, k3, k4⟩ => exact ⟨k, k2, k3, k1⟩
  | .inr c, ⟨k1, k2, k, k3, k4, k5, k6⟩ => exact ⟨k, by omega, by omega, k6⟩
theorem BR_rec {q : Nat ⊕ Nat} (B : BR (d + 1) v1 v2 v3 g n g' n') (S : am_S g') (L : FLx h g' q) (R : am_run d 54 [some (.ref 9)] g' none g2) : GR (d + 1) v1 v2 v3 g n g2 (n' + 1) := fun v5 v6 => by
  obtain ⟨w5, w6, hB⟩ := B v5 v6
  obtain ⟨k, k1, k2, k3⟩ := FLx_kind L
  refine ⟨w5, w6, fun Q => (hB Q).trans ?_⟩
  simp (disch := first | with_reducible assumption | omega | exact Or.inl rfl | exact Or.inr rfl | exact bI_01 | exact c_cat | exact vt_ref | exact vt_null | rfl | with_reducible repeat (first | assumption | omega | apply S_I | apply S_L | apply S_D | apply ob_I | apply ob_L | apply ob_D | apply ob_R | apply ax_I | apply ax_L | apply ax_D | apply ax_R | apply o303 | apply o307 | apply o302 | apply o301 | apply ax304 | apply ax305 | apply ax306 | apply ax308 | apply ax309 | apply ax310 | apply lt_S | apply ar305 | apply ar308 | apply ar309)) only [g32_121, g32_122, g32_125, g32_128, g32_129, g32_132, g32_135, Option.toList, List.nil_append, List.cons_append, va_rf, nI_ltI, nI_leI, nI_eq, nI_add, nI_sub, nI_lt0, nI_e0, nI_m1, m1_nI, Nat.reduceEqDiff, Nat.reduceLT, Nat.reduceLeDiff, Nat.reduceAdd, Nat.reduceSub, Nat.reduceMul, ↓reduceIte, eq_self, k3, show ¬ k = 0 by omega, R _]
theorem c_try {i j : Nat} {D1 D2 : List (Int32 × Int64)} (h4 : 402 ≤ h.1) (ho : o < 278 ∨ 299 < o) (ho2 : o < 402) (hd : dp < 22) (htm : tm < 210) (hre : ∀ a, rr = some a → a < e ∨ e + 7 ≤ a) (hi : i < 48) (hj : j < 48) (ht : tt s nn = (nI 7, nI i, nI j, -1, lN 1)) (W : CWk h o rr sa (d + 4) v1 v2 v3 f (ev tt rt cv cs f s as sh dp i) dp e b as D1 (tm + 1)) (W2 : CWk h o rr sa (d + 4) v1 v2 v3 f (ev tt rt cv cs f s as sh dp j) dp e b as D2 tm) (L1 : ∀ σ, (ev tt rt cv cs f s as sh dp i σ).2.1 ≤ σ.1) : CWk h o rr sa (d + 4) v1 v2 v3 (f + 1) (ev tt rt cv cs (f + 1) s as sh dp nn) dp e b as (ST :: (nI 18, lN (D1.length + 1)) :: D1 ++ (nI 19, lN D2.length) :: D2) tm := by
  intro DD p g σ ts st n T C hD hf A Z N FR V hl ht2 hT hT2
  have Cl := C.2.2.2.2.2.2.2.2.2
  rw [show p + (ST :: (nI 18, lN (D1.length + 1)) :: D1 ++ (nI 19, lN D2.length) :: D2).length = p + 1 + 1 + D1.length + 1 + D2.length by simp only [List.length_append, List.length_cons]; omega]
  show CP h o rr sa (d + 4) v1 v2 v3 T g dp ts st (p + 1 + 1 + D1.length + 1 + D2.length) n (if σ.1 = 0 then (oF 8, σ) else evX tt rt cv cs f s as sh dp nn (σ.1 - 1, σ.2))
  have Cg := cd_kp A.1 ho2 hre C
  refine c_step (d := d + 2) A ho hd Cg FR (hD 0 _ rfl) Z N hT hT2 (fun s0 g1 A1 Z1 N1 FK1 at1 hT1 => ?_)
  have ex : evX tt rt cv cs f s as sh dp nn (σ.1 - 1, σ.2) = trM (ev tt rt cv cs f s as sh dp i (σ.1 - 1, σ.2)) (ev tt rt cv cs f s as sh dp j) := by
    unfold evX evN evCall
    simp (disch := omega) only [ht, nI_eq, Nat.reduceEqDiff, ↓reduceIte, xN_n, lN_i8, Nat.reduceLeDiff, and_false, false_and]
    rfl
  rw [ex]
  have hD1 : ∀ i x, D1[i]? = some x → DD[p + 1 + 1 + i]? = some x := fun i x hx => by
    have c := (List.getElem?_eq_some_iff.mp hx).1
    have := hD (i + 1 + 1) x (by rw [List.cons_append, List.getElem?_cons_succ, List.cons_append, List.getElem?_cons_succ, List.getElem?_append_left c]; exact hx)
    rwa [show p + (i + 1 + 1) = p + 1 + 1 + i by omega] at this
  have hop1 : DD[p + 1]? = some (nI 18, lN (D1.length + 1)) := hD 1 _ rfl
  have hDb : ∀ i x, ((nI 19, lN D2.length) :: D2)[i]? = some x → DD[p + 1 + 1 + D1.length + i]? = some x := fun i x hx => by
    have := hD (D1.length + i + 1 + 1) x (by rw [List.cons_append, List.getElem?_cons_succ, List.cons_append, List.getElem?_cons_succ, List.getElem?_append_right (by omega), show D1.length + i - D1.length = i by omega]; exact hx)
    rwa [show p + (D1.length + i + 1 + 1) = p + 1 + 1 + D1.length + i by omega] at this
  have hop2 : DD[p + 1 + 1 + D1.length]? = some (nI 19, lN D2.length) := hDb 0 _ rfl
  have hD2 : ∀ i x, D2[i]? = some x → DD[p + 1 + 1 + D1.length + 1 + i]? = some x := fun i x hx => by
    have := hDb (i + 1) x hx
    rwa [show p + 1 + 1 + D1.length + (i + 1) = p + 1 + 1 + D1.length + 1 + i by omega] at this
  have hb2 := (List.getElem?_eq_some_iff.mp hop2).1
  have hDl : p + 1 + 1 + D1.length + 1 + D2.length ≤ DD.length := by
    by_cases c : D2.length = 0
    · omega
    · have := hD2 (D2.length - 1) _ (List.getElem?_eq_getElem (by omega))
      have := (List.getElem?_eq_some_iff.mp this).1
      omega
  have FR1 := FK_F FK1 at1 FR
  have C1 := cd_kp A1.1 ho2 hre C
  have Aa := XS_at (p := p + 1) A1 hd ho
  have Na := NS_at (p := p + 1) N1 hd
  have Za := KZ_at (p := p + 1) Z1 hd
  have r1 := o_try_ (d := d + 2) (k := D1.length + 1) Aa hd rI_eq (by omega) (by omega) Na (by omega)
  obtain ⟨R1, T1, e1⟩ := XS_iff.mp Aa
  have A2 : XS h (trH (am_setI g1 (278 + dp) 1 (nI (p + 1 + 1))) ts.length (p + 1 + 1) (D1.length + 1) st.length dp) o rr sa dp (ts ++ [(p + 1 + 1 + (D1.length + 1), st.length, dp)]) (σ.1 - 1, σ.2) := XS_iff.mpr ⟨XR_I (XR_I (XR_I (XR_I R1 (Or.inr (Or.inl ⟨by decide, by decide⟩)) ho) (Or.inr (Or.inl ⟨by decide, by decide⟩)) ho) (Or.inr (Or.inl ⟨by decide, by decide⟩)) ho) (Or.inl ⟨rfl, Or.inl rfl⟩) ho, TS_try T1, by rw [rI_k (by decide), rI_a (by decide), rI_a (by decide), rI_a (by decide)]; exact e1⟩
  have N2 : NS (trH (am_setI g1 (278 + dp) 1 (nI (p + 1 + 1))) ts.length (p + 1 + 1) (D1.length + 1) st.length dp) st := NS_fr (P := fun a => a = 9 ∨ a = 17 ∨ a = 18 ∨ a = 19) (fr_I (fr_I (fr_I (fr_I fr_refl (Or.inr (Or.inl rfl))) (Or.inr (Or.inr (Or.inl rfl)))) (Or.inr (Or.inr (Or.inr rfl)))) (Or.inl rfl)) (by decide) (by decide) (by decide) (by decide) Na
  have Z2 : KZ (trH (am_setI g1 (278 + dp) 1 (nI (p + 1 + 1))) ts.length (p + 1 + 1) (D1.length + 1) st.length dp) := ⟨by rw [rI_k (by decide), rI_a (by decide), rI_a (by decide), rI_a (by decide)]; exact Za.1, Za.2⟩
  have FA2 : FA (am_setI g1 (278 + dp) 1 (nI (p + 1 + 1))) (trH (am_setI g1 (278 + dp) 1 (nI (p + 1 + 1))) ts.length (p + 1 + 1) (D1.length + 1) st.length dp) := FA_fr (P := fun a => a = 9 ∨ a = 17 ∨ a = 18 ∨ a = 19) (fr_I (fr_I (fr_I (fr_I fr_refl (Or.inr (Or.inl rfl))) (Or.inr (Or.inr (Or.inl rfl)))) (Or.inr (Or.inr (Or.inr rfl)))) (Or.inl rfl)) (fun a q => by omega)
  obtain ⟨b1, b2, b3⟩ := c_ok (v1 := v1) (v2 := v2) (v3 := v3) (n := n + 1) A1 hd C1 FR1 hop1 (by omega) r1 A2.2.1 Z2 FA2
  refine CP_pre b1 b2 ?_
  have FR2 := FK_F b2 b3 FR1
  have W1 := W DD (p + 1 + 1) _ (σ.1 - 1, σ.2) (ts ++ [(p + 1 + 1 + (D1.length + 1), st.length, dp)]) st (n + 1 + 1) (T - 3) C hD1 (by show σ.1 - 1 < f; omega) A2 Z2 N2 FR2 V (by show st.length + (σ.1 - 1) ≤ 1000; omega) (by rw [List.length_append]; show ts.length + 1 ≤ tm + 1; omega) (by show n + 1 + 1 + 6 * (σ.1 - 1) ≤ T - 3; omega) (by omega)
  have la : (ev tt rt cv cs f s as sh dp i (σ.1 - 1, σ.2)).2.1 ≤ σ.1 - 1 := L1 _
  generalize trH (am_setI g1 (278 + dp) 1 (nI (p + 1 + 1))) ts.length (p + 1 + 1) (D1.length + 1) st.length dp = gt at W1 FR2 ⊢
  match ev tt rt cv cs f s as sh dp i (σ.1 - 1, σ.2), W1, la with
  | (.inl v, σ'), ⟨g3, n3, w1, w2, w3, w4, w5, w6, w7, w8⟩, la =>
    refine CP_pre w1 w6 ?_
    have C3 := cd_kp w2.1 ho2 hre C
    have Ab := XS_at (p := p + 1 + 1 + D1.length) w2 hd ho
    have Nb := NS_at (p := p + 1 + 1 + D1.length) w4 hd
    have Zb := KZ_at (p := p + 1 + 1 + D1.length) w3 hd
    have r2 := o_end_ (d := d + 2) (k := D2.length) Ab hd rI_eq (by omega) (by omega) (by omega)
    obtain ⟨R2, T2, e2⟩ := XS_iff.mp Ab
    have A4 : XS h (am_setI (am_setI (am_setI g3 (278 + dp) 1 (nI (p + 1 + 1 + D1.length + 1))) 9 9 (nI ts.length)) (278 + dp) 1 (nI (p + 1 + 1 + D1.length + 1 + D2.length))) o rr sa dp ts σ' := XS_iff.mpr ⟨XR_I (XR_I R2 (Or.inl ⟨rfl, Or.inl rfl⟩) ho) (Or.inr (Or.inr (Or.inr ⟨by omega, by omega⟩))) ho, TS_pop T2 (by rw [rI_a (by omega), rI_eq]) (fun i => by rw [rI_a (by omega), rI_a (by decide)]) (fun i => by rw [rI_a (by omega), rI_a (by decide)]) (fun i => by rw [rI_a (by omega), rI_a (by decide)]), by rw [rI_a (by omega), rI_k (by decide)]; exact e2⟩
    have Z4 : KZ (am_setI (am_setI (am_setI g3 (278 + dp) 1 (nI (p + 1 + 1 + D1.length + 1))) 9 9 (nI ts.length)) (278 + dp) 1 (nI (p + 1 + 1 + D1.length + 1 + D2.length))) := ⟨by rw [rI_a (by omega), rI_k (by decide)]; exact Zb.1, Zb.2⟩
    have N4 : NS (am_setI (am_setI (am_setI g3 (278 + dp) 1 (nI (p + 1 + 1 + D1.length + 1))) 9 9 (nI ts.length)) (278 + dp) 1 (nI (p + 1 + 1 + D1.length + 1 + D2.length))) (st ++ [v]) := NS_ax (NS_fr (P := fun a => a = 9) (fr_I fr_refl rfl) (by decide) (by decide) (by decide) (by decide) Nb) hd
    have G := x_good (v1 := v1) (v2 := v2) (v3 := v3) (n := n3) w2 hd C3 (FK_F w6 w7 FR2) hop2 (by omega) r2 A4.2.1 Z4.1
    exact ⟨_, n3 + 1, G, A4, Z4, N4, w5, FK_trans FK_at (FK_trans (FA_K (FA_I (by omega)) hd) FK_at), rI_eq, by omega⟩
  | (.inr q, σ'), ⟨g3, n3, dp', ts', w1, w2, w2', w3, w4, w5, w6⟩, la =>
    have la : σ'.1 ≤ σ.1 - 1 := la
    by_cases q8 : q = .inl 8
    · subst q8
      exact ⟨g3, n3, dp', ts', w1, w2, Or.inl rfl, w3, w4, w5, by omega⟩
    · obtain rfl : ts' = ts ++ [(p + 1 + 1 + (D1.length + 1), st.length, dp)] := w2'.resolve_left q8
      have hq : trM (.inr q, σ') (ev tt rt cv cs f s as sh dp j) = ev tt rt cv cs f s as sh dp j σ' := by
        unfold trM
        split
        · rename_i heq
          injection heq with e1 e2
          exact absurd (Sum.inr.inj e1) q8
        · rename_i heq
          injection heq with e1 e2
          rw [e2]
        · rename_i heq
          injection heq with e1 e2
          cases e1
      rw [hq]
      have rc := x_recover (d := d + 3) w2 hd (by omega) (by omega) w4 q8
      have G := BR_rec w1 w2.2.1 w4 rc
      obtain ⟨R3, T3, e3⟩ := XS_iff.mp w2
      have A5 : XS h (rcH g3 ts.length (p + 1 + 1 + (D1.length + 1)) st.length dp) o rr sa dp ts σ' := XS_iff.mpr ⟨XR_R14 (XR_I (XR_I (XR_I (XR_I (XR_I R3 (Or.inl ⟨rfl, Or.inl rfl⟩) ho) (Or.inl ⟨rfl, Or.inr (Or.inl rfl)⟩) ho) (Or.inr (Or.inr (Or.inl ⟨by decide, by decide⟩))) ho) (Or.inr (Or.inr (Or.inr ⟨by omega, by omega⟩))) ho) (Or.inl ⟨rfl, Or.inr (Or.inr rfl)⟩) ho), TS_pop T3 (by rw [hI_R, rI_k (by decide), rI_a (by omega), rI_a (by decide), rI_k (by decide), rI_eq]) (fun i => by rw [hI_R, rI_a (by decide), rI_a (by omega), rI_a (by decide), rI_a (by decide), rI_a (by decide)]) (fun i => by rw [hI_R, rI_a (by decide), rI_a (by omega), rI_a (by decide), rI_a (by decide), rI_a (by decide)]) (fun i => by rw [hI_R, rI_a (by decide), rI_a (by omega), rI_a (by decide), rI_a (by decide), rI_a (by decide)]), by rw [hI_R, rI_k (by decide), rI_a (by omega), rI_a (by decide), rI_eq]⟩
      have Z5 : KZ (rcH g3 ts.length (p + 1 + 1 + (D1.length + 1)) st.length dp) := ⟨by rw [hI_R, rI_eq], by rw [hR_R, if_pos rfl, if_pos rfl]⟩
      have N5 : NS (rcH g3 ts.length (p + 1 + 1 + (D1.length + 1)) st.length dp) st := ⟨by rw [hI_R, rI_a (by decide), rI_a (by omega), rI_eq], fun i v hv => xn_keep (g := g3) (by rw [hI_R, rI_a (by decide), rI_a (by omega), rI_a (by decide), rI_a (by decide), rI_a (by decide)]) rfl rfl (w3 i v hv)⟩
      have FK5 : FK g3 (rcH g3 ts.length (p + 1 + 1 + (D1.length + 1)) st.length dp) dp := ⟨fun j hj k => ⟨by rw [hI_R, rI_a (by omega), rI_a (by omega), rI_a (by omega), rI_a (by omega), rI_a (by omega)], rfl, by rw [hR_R, if_neg (by omega)]; rfl⟩, fun k => ⟨fun hk => by rw [hI_R, rI_a (by omega), rI_k hk, rI_a (by omega), rI_a (by omega), rI_a (by omega)], rfl, by rw [hR_R, if_neg (by omega)]; rfl⟩⟩
      have FK6 := FK_trans w5 FK5
      have a5 : am_I (rcH g3 ts.length (p + 1 + 1 + (D1.length + 1)) st.length dp) (278 + dp) 1 = nI (p + 1 + 1 + D1.length + 1) := by rw [hI_R, rI_a (by omega), rI_eq]; rfl
      refine CP_pre G FK6 ?_
      exact CP_T (W2 DD (p + 1 + 1 + D1.length + 1) _ σ' ts st (n3 + 1) (T - 2) C hD2 (by omega) A5 Z5 N5 (FK_F FK6 a5 FR2) V (by omega) ht2 (by omega) (by omega)) (by omega)
end XTS

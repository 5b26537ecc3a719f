/-! THE CLASS: root, the node -/
theorem evRoot_eq (ap : List VL → SR → FO) (l h : UInt64) (σ : SR) : evRoot ap l h σ = andThen (wo ap l σ) (fun r σ => andThen (wo ap h σ) (fun t σ => if lt0 t = lt0 r then (oF 6, σ) else evRootL ap (lt0 r) 60 l h σ)) := by
  unfold evRoot
  generalize wo ap l σ = q
  obtain ⟨q, σ1⟩ := q
  cases q with
  | inr q => rfl
  | inl r =>
    dsimp only [andThen]
theorem evRootL_eq (ap : List VL → SR → FO) (bl : Bool) (k : Nat) (l h : UInt64) (m : VL) (σ : SR) (hm : mid l h = .inl m) : evRootL ap bl (k + 1) l h σ = andThen (wo ap (vD m) σ) (fun r σ => if lt0 r = bl then evRootL ap bl k (vD m) h σ else evRootL ap bl k l (vD m) σ) := by
  rw [evRootL, hm]
  dsimp only
  generalize wo ap (vD m) σ = q
  obtain ⟨q, σ1⟩ := q
  cases q <;> rfl
section XRN
variable {h g g' gm g2 : am_H} {o sa dp d e e' b f s sh nn tm tmf p n T p2 gf r0 t : Nat} {rr : Option Nat} {v1 v2 v3 : Option Value} {tt : Nat → ntT} {rt : Nat → Nat} {cv : Nat → Option (Option VL)} {cs : Nat → Nat → VL} {as as' : List VL} {st : List VL} {ts : List (Nat × Nat × Nat)} {σ : SR} {u v : VL} {x l hh : UInt64} {D' DD : List (Int32 × Int64)} {bl : Bool}
theorem CP_O {r : FO} (O : OPx h g' o rr sa dp ts st r) (G : am_I g' 9 13 = nI 0 → GR d v1 v2 v3 g n g' (n + 1)) (B : BR d v1 v2 v3 g n g' n) (F : FK g g' dp) (ha : am_I g' (278 + dp) 1 = nI p) (hT : n + 1 + 6 * r.2.1 ≤ T) : CP h o rr sa d v1 v2 v3 T g dp ts st p n r := by
  match r, O, hT with
  | (.inl v, σ'), ⟨A', z, n2, k⟩, hT => exact ⟨g', n + 1, G z.1, A', z, n2, k, F, ha, hT⟩
  | (.inr q, σ'), ⟨A', l, n2⟩, hT =>
    have hT : n + 1 + 6 * σ'.1 ≤ T := hT
    exact ⟨g', n, dp, ts, B, A', Or.inr rfl, n2, l, F, by omega⟩
theorem c_ask {k : VL → SR → FO} (h4 : 402 ≤ h.1) (ho : o < 278 ∨ 299 < o) (ho2 : o < 402) (hd : dp ≤ 20) (hre' : ∀ a, rr = some a → a < e' ∨ e' + 7 ≤ a) (C' : cdK h e' D') (A : XS h gm o rr sa dp ts σ) (Z : KZ gm) (N : NS gm st) (kx : okD x) (ec : am_R gm (278 + (dp + 1)) 0 = some e') (et : am_I gm (278 + (dp + 1)) 3 = nI t) (ht : t < 100) (Fm : FK g gm dp) (am : am_I gm (278 + dp) 1 = nI p) (hf : σ.1 < f + 1) (hl : st.length + σ.1 ≤ 1000) (htm : ts.length ≤ tmf) (hT : n + 6 * σ.1 ≤ T) (hT2 : T < 900000)
    (hG : ∀ g', (∀ dd, am_run (dd + 1) 36 [some (.ref 9), some (.ref (278 + (dp + 1))), some (.double x), none] gm none g') → am_S g' → am_I g' 9 13 = nI 0 → GR (d + 3) v1 v2 v3 g n g' (n + 1)) (hB : ∀ g', (∀ dd, am_run (dd + 1) 36 [some (.ref 9), some (.ref (278 + (dp + 1))), some (.double x), none] gm none g') → am_S g' → BR (d + 3) v1 v2 v3 g n g' n)
    (WF : dp < 20 → CWk h o rr sa (d + 3) v1 v2 v3 f (ev tt rt cv cs f (48 + gf) [.inr x] 0 (dp + 1) (rt (48 + gf))) (dp + 1) e' st.length [.inr x] D' tmf)
    (K : dp < 20 → ∀ v σ' g2 n2, XS h g2 o rr sa (dp + 1) ts σ' → KZ g2 → NS g2 (st ++ [.inr x] ++ [v]) → okV v → FRx g2 (dp + 1) e' D'.length st.length → am_I g2 (278 + (dp + 1)) 3 = nI (t + 1) → am_I g2 (278 + (dp + 1)) 7 = am_I gm (278 + (dp + 1)) 7 → (∀ k, am_D g2 (278 + (dp + 1)) k = am_D gm (278 + (dp + 1)) k) → am_I g2 (278 + dp) 1 = nI p → σ'.1 < σ.1 → n2 + 6 * σ'.1 + 2 ≤ T → CP h o rr sa (d + 3) v1 v2 v3 T g2 dp ts st p n2 (k v σ')) : CP h o rr sa (d + 3) v1 v2 v3 T g dp ts st p n (andThen (wo (apX tt rt cv cs f dp gf) x σ) k) := by
  obtain ⟨g1, r1, F1, at1, Q1⟩ := x_ask ho hd A Z N (by omega) kx ec et ht
  unfold wo
  by_cases s0 : σ.1 = 0
  · rw [if_pos s0] at Q1 ⊢
    obtain ⟨q1, q2, q3⟩ := Q1
    exact ⟨g1, n, dp, ts, hB g1 r1 q1.2.1, q1, Or.inr rfl, q3, q2, FK_trans Fm F1, by omega⟩
  · rw [if_neg s0] at Q1 ⊢
    unfold apX
    by_cases c : dp = 20
    · rw [if_pos c] at Q1 ⊢
      obtain ⟨q1, q2, q3⟩ := Q1
      exact ⟨g1, n, dp, ts, hB g1 r1 q1.2.1, q1, Or.inr rfl, q3, q2, FK_trans Fm F1, by show n + 6 * (σ.1 - 1) ≤ T; omega⟩
    · rw [if_neg c] at Q1 ⊢
      obtain ⟨q1, q2, q3, q4, q5, q6, q7⟩ := Q1
      refine CP_pre (hG g1 r1 q1.2.1 q2.1) (FK_trans Fm F1) ?_
      have B := c_body (n := n + 1) (T := T - 2) (st := st) (as' := [.inr x]) h4 ho ho2 (by omega) hre' C' q1 q2 q3 q4 (by show σ.1 - 1 < f; omega) (by show st.length + 1 + (σ.1 - 1) ≤ 1000; omega) htm (by show n + 1 + 6 * (σ.1 - 1) ≤ T - 2; omega) (by omega) (WF (by omega))
      have le : (ev tt rt cv cs f (48 + gf) [.inr x] 0 (dp + 1) (rt (48 + gf)) (σ.1 - 1, σ.2)).2.1 ≤ σ.1 - 1 := ev_le f _ _ _ _ _ _
      match ev tt rt cv cs f (48 + gf) [.inr x] 0 (dp + 1) (rt (48 + gf)) (σ.1 - 1, σ.2), B, le with
      | (.inr q, σ'), ⟨g3, n3, dp', ts', w1, w2, w2', w3, w4, w5, w6⟩, le => exact ⟨g3, n3, dp', ts', w1, w2, w2', st_app w3, w4, FK_le w5 (by omega), by omega⟩
      | (.inl v, σ'), ⟨g3, n3, w1, w2, w3, w4, w5, w6, w7, w8⟩, le =>
        have le : σ'.1 ≤ σ.1 - 1 := le
        refine CP_pre w1 (FK_le w6 (by omega)) ?_
        exact K (by omega) v σ' g3 n3 w2 w3 w4 w5 (FK_F w6 w7 q4) (((w6.2 3).1 (by decide)).trans q5) (((w6.2 7).1 (by decide)).trans q6) (fun k => ((w6.2 k).2.1).trans (q7 k)) (((w6.1 dp (by omega) 1).1).trans (at1.trans am)) (by omega) (by omega)
/-- the middle is taken -/
theorem XS_fD {j k : Nat} (A : XS h g o rr sa dp ts σ) (hj : j < 22) : XS h (am_setD g (278 + j) k x) o rr sa dp ts σ := by
  obtain ⟨R, T, e⟩ := XS_iff.mp A
  exact XS_iff.mpr ⟨XR_fD R hj, T, e⟩
theorem NS_fD {j k : Nat} (N : NS g st) (hj : j < 22) : NS (am_setD g (278 + j) k x) st := NS_fr (P := fun a => a = 278 + j) (fr_D fr_refl rfl) (by omega) (by omega) (by omega) (by omega) N
theorem FK_fD {k : Nat} (hd : dp < 21) : FK g (am_setD g (278 + (dp + 1)) k x) dp := ⟨fun j hj i => ⟨rfl, by rw [hD_D, if_neg (by omega)], rfl⟩, fun i => ⟨fun _ => rfl, by rw [hD_D, if_neg (by omega)], rfl⟩⟩
theorem x_halveN {q : Nat ⊕ Nat} (A : XS h gm o rr sa dp ts σ) (ho : o < 278 ∨ 299 < o) (hd : dp < 20) (Z : KZ gm) (N : NS gm st) (el : am_D gm (278 + (dp + 1)) 4 = l) (eh : am_D gm (278 + (dp + 1)) 5 = hh) (kl : okD l) (kh : okD hh) (hm : mid l hh = .inr q) : ∃ g', (∀ dd, am_run (dd + 2) 39 [some (.ref 9), some (.ref (278 + (dp + 1))), none, none] gm none g') ∧ OPx h g' o rr sa dp ts st (.inr q, σ) ∧ FK gm g' dp ∧ am_I g' (278 + dp) 1 = am_I gm (278 + dp) 1 := by
  have S := A.2.1
  have O := o278 S (show dp + 1 < 22 by omega)
  have h4 : 4 ≤ 278 + (dp + 1) := by omega
  have n1 := ok_sub kh kl
  unfold mid at hm
  by_cases f1 : finB (Jvm.FP.dsub hh l) = true
  · rw [if_pos f1] at hm
    unfold gv at hm
    have n2 := ok_mul (finB_ok.mp f1) ok_half
    have n3 := ok_add' kl n2
    by_cases f2 : finB (Jvm.FP.dadd l (Jvm.FP.dmul (Jvm.FP.dsub hh l) 4602678819172646912)) = true
    · rw [if_pos f2] at hm; cases hm
    · rw [if_neg f2] at hm
      obtain rfl : .inl 5 = q := Sum.inr.inj hm
      have A1 := XS_fD (x := Jvm.FP.dadd l (Jvm.FP.dmul (Jvm.FP.dsub hh l) 4602678819172646912)) (k := 6) A (show dp + 1 < 22 by omega)
      have S1 := A1.2.1
      have O1 := o278 S1 (show dp + 1 < 22 by omega)
      have N1 := NS_fD (x := Jvm.FP.dadd l (Jvm.FP.dmul (Jvm.FP.dsub hh l) 4602678819172646912)) (k := 6) N (show dp + 1 < 22 by omega)
      refine ⟨_, fun dd Q => ?_, OPx_F A1 ho (Z : KZ (am_setD gm (278 + (dp + 1)) 6 (Jvm.FP.dadd l (Jvm.FP.dmul (Jvm.FP.dsub hh l) 4602678819172646912)))) N1.2 (by decide) (by decide), FK_trans (FK_fD (by omega)) (FA_K (FA_I (by omega)) (by omega)), by rw [rI_a (by omega)]; rfl⟩
      have ie1 := x_isInfinite (d := dd + 1) (g := gm) n1
      rw [f1, Bool.not_true, bI_f] at ie1
      have ie2 := x_isInfinite (d := dd + 1) (g := am_setD gm (278 + (dp + 1)) 6 (Jvm.FP.dadd l (Jvm.FP.dmul (Jvm.FP.dsub hh l) 4602678819172646912))) n3
      rw [Bool.eq_false_iff.mpr f2, Bool.not_false, bI_t] at ie2
      have em : am_D (am_setD gm (278 + (dp + 1)) 6 (Jvm.FP.dadd l (Jvm.FP.dmul (Jvm.FP.dsub hh l) 4602678819172646912))) (278 + (dp + 1)) 6 = Jvm.FP.dadd l (Jvm.FP.dmul (Jvm.FP.dsub hh l) 4602678819172646912) := rD_eq
      simp (disch := first | with_reducible assumption | omega | exact Or.inl rfl | exact Or.inr rfl | exact bI_01 | exact c_cat | exact vt_ref | exact vt_null | rfl | with_reducible repeat (first | assumption | omega | apply S_I | apply S_L | apply S_D | apply ob_I | apply ob_L | apply ob_D | apply ob_R | apply ax_I | apply ax_L | apply ax_D | apply ax_R | apply o303 | apply o307 | apply o302 | apply o301 | apply ax304 | apply ax305 | apply ax306 | apply ax308 | apply ax309 | apply ax310 | apply lt_S | apply ar305 | apply ar308 | apply ar309)) only [g39_0, g39_1, g39_4, g39_5, g39_8, g39_9, g39_10, g39_11, g39_14, g39_17, g39_18, g39_19, g39_22, g39_23, g39_24, g39_25, g39_28, g39_29, g39_32, g39_33, g39_34, g39_37, g39_38, g39_41, g39_44, g39_47, g39_48, g39_49, g39_52, g39_55, g39_56, g39_59, g39_61, g39_64, g39_65, g39_68, g39_69, g39_72, g39_75, g39_78, g39_79, g39_80, g39_81, g39_84, g39_87, Option.toList, List.nil_append, List.cons_append, va_rf, nI_ltI, nI_leI, nI_eq, nI_add, nI_sub, nI_lt0, nI_e0, nI_m1, m1_nI, Nat.reduceEqDiff, Nat.reduceLT, Nat.reduceLeDiff, Nat.reduceAdd, Nat.reduceSub, Nat.reduceMul, ↓reduceIte, eq_self, el, eh, ie1 _, em, ie2 _]
  · rw [if_neg f1] at hm
    obtain rfl : .inl 5 = q := Sum.inr.inj hm
    refine ⟨_, fun dd Q => ?_, OPx_F A ho Z N.2 (by decide) (by decide), FA_K (FA_I (by omega)) (by omega), rI_a (by omega)⟩
    have ie1 := x_isInfinite (d := dd + 1) (g := gm) n1
    rw [Bool.eq_false_iff.mpr f1, Bool.not_false, bI_t] at ie1
    simp (disch := first | with_reducible assumption | omega | exact Or.inl rfl | exact Or.inr rfl | exact bI_01 | exact c_cat | exact vt_ref | exact vt_null | rfl | with_reducible repeat (first | assumption | omega | apply S_I | apply S_L | apply S_D | apply ob_I | apply ob_L | apply ob_D | apply ob_R | apply ax_I | apply ax_L | apply ax_D | apply ax_R | apply o303 | apply o307 | apply o302 | apply o301 | apply ax304 | apply ax305 | apply ax306 | apply ax308 | apply ax309 | apply ax310 | apply lt_S | apply ar305 | apply ar308 | apply ar309)) only [g39_0, g39_1, g39_4, g39_5, g39_8, g39_9, g39_10, g39_11, g39_14, g39_17, g39_18, g39_19, g39_22, g39_23, g39_24, g39_25, g39_28, g39_29, g39_32, g39_33, g39_34, g39_37, g39_38, g39_41, g39_44, g39_47, g39_48, g39_49, g39_52, g39_55, g39_56, g39_59, g39_61, g39_64, g39_65, g39_68, g39_69, g39_72, g39_75, g39_78, g39_79, g39_80, g39_81, g39_84, g39_87, Option.toList, List.nil_append, List.cons_append, va_rf, nI_ltI, nI_leI, nI_eq, nI_add, nI_sub, nI_lt0, nI_e0, nI_m1, m1_nI, Nat.reduceEqDiff, Nat.reduceLT, Nat.reduceLeDiff, Nat.reduceAdd, Nat.reduceSub, Nat.reduceMul, ↓reduceIte, eq_self, el, eh, ie1 _]
theorem x_halveM {m : VL} (S : am_S gm) (hd : dp < 20) (et : am_I gm (278 + (dp + 1)) 3 = nI t) (ht : t ≤ 62) (el : am_D gm (278 + (dp + 1)) 4 = l) (eh : am_D gm (278 + (dp + 1)) 5 = hh) (kl : okD l) (kh : okD hh) (hm : mid l hh = .inl m) : ∃ y, m = .inr y ∧ okD y ∧ (t < 62 → ∀ g', (∀ dd, am_run (dd + 1) 36 [some (.ref 9), some (.ref (278 + (dp + 1))), some (.double y), none] (am_setD gm (278 + (dp + 1)) 6 y) none g') → ∀ dd, am_run (dd + 2) 39 [some (.ref 9), some (.ref (278 + (dp + 1))), none, none] gm none g') ∧ (t = 62 → ∀ g', (∀ dd, am_run dd 60 [some (.ref 12), some (.double y), none] (am_setD gm (278 + (dp + 1)) 6 y) none g') → ∀ dd, am_run (dd + 2) 39 [some (.ref 9), some (.ref (278 + (dp + 1))), none, none] gm none g') := by
  have O := o278 S (show dp + 1 < 22 by omega)
  have h4 : 4 ≤ 278 + (dp + 1) := by omega
  have n1 := ok_sub kh kl
  unfold mid at hm
  by_cases f1 : finB (Jvm.FP.dsub hh l) = true
  · rw [if_pos f1] at hm
    unfold gv at hm
    have n2 := ok_mul (finB_ok.mp f1) ok_half
    have n3 := ok_add' kl n2
    by_cases f2 : finB (Jvm.FP.dadd l (Jvm.FP.dmul (Jvm.FP.dsub hh l) 4602678819172646912)) = true
    · rw [if_pos f2] at hm
      obtain rfl := Sum.inl.inj hm
      have S1 : am_S (am_setD gm (278 + (dp + 1)) 6 (Jvm.FP.dadd l (Jvm.FP.dmul (Jvm.FP.dsub hh l) 4602678819172646912))) := S
      have O1 := o278 S1 (show dp + 1 < 22 by omega)
      have em : am_D (am_setD gm (278 + (dp + 1)) 6 (Jvm.FP.dadd l (Jvm.FP.dmul (Jvm.FP.dsub hh l) 4602678819172646912))) (278 + (dp + 1)) 6 = Jvm.FP.dadd l (Jvm.FP.dmul (Jvm.FP.dsub hh l) 4602678819172646912) := rD_eq
      have et' : am_I (am_setD gm (278 + (dp + 1)) 6 (Jvm.FP.dadd l (Jvm.FP.dmul (Jvm.FP.dsub hh l) 4602678819172646912))) (278 + (dp + 1)) 3 = nI t := et
      refine ⟨_, rfl, finB_ok.mp f2, fun ht' g' R dd Q => ?_, fun ht' g' R dd Q => ?_⟩
      · have ie1 := x_isInfinite (d := dd + 1) (g := gm) n1
        rw [f1, Bool.not_true, bI_f] at ie1
        have ie2 := x_isInfinite (d := dd + 1) (g := am_setD gm (278 + (dp + 1)) 6 (Jvm.FP.dadd l (Jvm.FP.dmul (Jvm.FP.dsub hh l) 4602678819172646912))) n3
        rw [f2, Bool.not_true, bI_f] at ie2
        have R := R dd
        simp (disch := first | with_reducible assumption | omega | exact Or.inl rfl | exact Or.inr rfl | exact bI_01 | exact c_cat | exact vt_ref | exact vt_null | rfl | with_reducible repeat (first | assumption | omega | apply S_I | apply S_L | apply S_D | apply ob_I | apply ob_L | apply ob_D | apply ob_R | apply ax_I | apply ax_L | apply ax_D | apply ax_R | apply o303 | apply o307 | apply o302 | apply o301 | apply ax304 | apply ax305 | apply ax306 | apply ax308 | apply ax309 | apply ax310 | apply lt_S | apply ar305 | apply ar308 | apply ar309)) only [g39_0, g39_1, g39_4, g39_5, g39_8, g39_9, g39_10, g39_11, g39_14, g39_17, g39_18, g39_19, g39_22, g39_23, g39_24, g39_25, g39_28, g39_29, g39_32, g39_33, g39_34, g39_37, g39_38, g39_41, g39_44, g39_47, g39_48, g39_49, g39_52, g39_55, g39_56, g39_59, g39_61, g39_64, g39_65, g39_68, g39_69, g39_72, g39_75, g39_78, g39_79, g39_80, g39_81, g39_84, g39_87, Option.toList, List.nil_append, List.cons_append, va_rf, nI_ltI, nI_leI, nI_eq, nI_add, nI_sub, nI_lt0, nI_e0, nI_m1, m1_nI, Nat.reduceEqDiff, Nat.reduceLT, Nat.reduceLeDiff, Nat.reduceAdd, Nat.reduceSub, Nat.reduceMul, ↓reduceIte, eq_self, el, eh, ie1 _, em, ie2 _, et', ht', R _]
      · have ie1 := x_isInfinite (d := dd + 1) (g := gm) n1
        rw [f1, Bool.not_true, bI_f] at ie1
        have ie2 := x_isInfinite (d := dd + 1) (g := am_setD gm (278 + (dp + 1)) 6 (Jvm.FP.dadd l (Jvm.FP.dmul (Jvm.FP.dsub hh l) 4602678819172646912))) n3
        rw [f2, Bool.not_true, bI_f] at ie2
        have R := R (dd + 1)
        subst ht'
        simp (disch := first | with_reducible assumption | omega | exact Or.inl rfl | exact Or.inr rfl | exact bI_01 | exact c_cat | exact vt_ref | exact vt_null | rfl | with_reducible repeat (first | assumption | omega | apply S_I | apply S_L | apply S_D | apply ob_I | apply ob_L | apply ob_D | apply ob_R | apply ax_I | apply ax_L | apply ax_D | apply ax_R | apply o303 | apply o307 | apply o302 | apply o301 | apply ax304 | apply ax305 | apply ax306 | apply ax308 | apply ax309 | apply ax310 | apply lt_S | apply ar305 | apply ar308 | apply ar309)) only [g39_0, g39_1, g39_4, g39_5, g39_8, g39_9, g39_10, g39_11, g39_14, g39_17, g39_18, g39_19, g39_22, g39_23, g39_24, g39_25, g39_28, g39_29, g39_32, g39_33, g39_34, g39_37, g39_38, g39_41, g39_44, g39_47, g39_48, g39_49, g39_52, g39_55, g39_56, g39_59, g39_61, g39_64, g39_65, g39_68, g39_69, g39_72, g39_75, g39_78, g39_79, g39_80, g39_81, g39_84, g39_87, Option.toList, List.nil_append, List.cons_append, va_rf, nI_ltI, nI_leI, nI_eq, nI_add, nI_sub, nI_lt0, nI_e0, nI_m1, m1_nI, Nat.reduceEqDiff, Nat.reduceLT, Nat.reduceLeDiff, Nat.reduceAdd, Nat.reduceSub, Nat.reduceMul, ↓reduceIte, eq_self, el, eh, ie1 _, em, ie2 _, et', Nat.lt_irrefl, R _]
    · rw [if_neg f2] at hm; cases hm
  · rw [if_neg f1] at hm; cases hm
end XRN

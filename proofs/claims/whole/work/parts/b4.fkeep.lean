/-! THE CLASS: a formula is kept -/
section FKP
variable {d c q s : Nat} {h g hF : am_H} {Q : Option Value → am_H → Prop} {D : List (Int32 × Int64)} {P : List Int32} {N : List Nat} {F k : Int32} {cd : Nat → Option (Nat × Nat)}
theorem S_ex (S : am_S h) (E : am_ex h g) : am_S g := by
  obtain ⟨s1, s2, s3, s4, s5, s6⟩ := S
  have R : ∀ a j, a < 402 → am_R g a j = am_R h a j := fun a j ha => ((E.2 a (by omega)).2 j).2.2.2
  refine ⟨Nat.le_trans s1 E.1, fun a h1 h2 => (E.2 a (by omega)).1.trans (s2 a h1 h2), fun q hq => ?_, fun c hc => (R 10 c (by decide)).trans (s4 c hc), fun i hi => (R 16 i (by decide)).trans (s5 i hi), fun s hs => ⟨(R 300 s (by decide)).trans (s6 s hs).1, (R _ _ (by omega)).trans (s6 s hs).2.1, fun i hi => (R _ _ (by omega)).trans ((s6 s hs).2.2 i hi)⟩⟩
  have := (rfL_free2 q hq).2.2.2.1
  rw [R _ _ this]; exact s3 q hq
theorem Gv_ex (G : am_Gv h) (h4 : 402 ≤ h.1) (E : am_ex h g) : am_Gv g := by
  obtain ⟨a1, a2, a3, a4, a5, a6, a7⟩ := G
  have e1 := E.2 1 (by omega)
  have e2 := E.2 2 (by omega)
  have e3 := E.2 3 (by omega)
  exact ⟨e1.1.trans a1, fun j hj => (e1.2 j).2.1.trans (a2 j hj), e2.1.trans a3, (e2.2 0).2.2.2.trans a4, (e2.2 1).1.trans a5, e3.1.trans a6, fun j hj => (e3.2 j).1.trans (a7 j hj)⟩
theorem S_new {t : Nat × Nat} {n : Nat} (S : am_S h) : am_S (am_new h t n) := S_ex S (ex_new ex_refl)
theorem x_makeReads (S : am_S h) (hc : c < 256) : ∃ g, am_run d 4 [some (.ref (22 + c))] h none g ∧ kp (fun a j => a = 22 + c ∧ (j = 8 ∨ j = 9)) h g ∧ am_S g ∧ (am_Gv h → am_Gv g) ∧ am_I g (22 + c) 9 = nI 0 ∧ (∀ rr, am_R h (22 + c) 8 = some rr → g = am_setI h (22 + c) 9 (nI 0)) ∧ (am_R h (22 + c) 8 = none → am_R g (22 + c) 8 = some h.1 ∧ am_tg g h.1 = (100, 24) ∧ g.1 = h.1 + 1 ∧ g.2.1 = h.2.1 + 24) := by
  have O := o22 S hc
  have h4 := S.1
  match hr : am_R h (22 + c) 8 with
  | some rr =>
    have Fr : am_fr (fun a => a = 22 + c) h (am_setI h (22 + c) 9 (nI 0)) := fr_I fr_refl rfl
    refine ⟨am_setI h (22 + c) 9 (nI 0), fun Q => ?_, kp_I kp_refl (by omega), S, fun G => Gv_fr Fr (by omega) (by omega) (by omega) G, rI_eq, fun _ _ => rfl, fun e => by cases e⟩
    have hr' : am_R (am_setI h (22 + c) 9 (nI 0)) (22 + c) 8 = some rr := hr
    have O2 : am_ob (am_setI h (22 + c) 9 (nI 0)) (22 + c) 0 := ob_I O
    simp (disch := first | with_reducible assumption | omega | exact Or.inl rfl | exact Or.inr rfl | exact bI_01 | exact c_cat | exact vt_ref | exact vt_null | rfl | with_reducible repeat (first | assumption | omega | apply S_I | apply S_L | apply S_D | apply ob_I | apply ob_L | apply ob_D | apply ob_R | apply ax_I | apply ax_L | apply ax_D | apply ax_R | apply o303 | apply o307 | apply o302 | apply o301 | apply ax304 | apply ax305 | apply ax306 | apply ax308 | apply ax309 | apply ax310 | apply lt_S | apply ar305 | apply ar308 | apply ar309)) only [g4_0, g4_1, g4_2, g4_5, g4_6, g4_9, g4_9r, g4_9n, g4_12, g4_13, g4_15, g4_17, g4_17r, g4_17n, g4_20, Option.toList, List.nil_append, List.cons_append, va_rf, hr']
  | none =>
    have S1 : am_S (am_new (am_setI h (22 + c) 9 (nI 0)) (100, 24) 24) := S_new (S_I S)
    have O1 : am_ob (am_new (am_setI h (22 + c) 9 (nI 0)) (100, 24) 24) (22 + c) 0 := o22 S1 hc
    have O2 : am_ob (am_setI h (22 + c) 9 (nI 0)) (22 + c) 0 := ob_I O
    have ne : ¬ 22 + c = h.1 := by omega
    have Fr : am_fr (fun a => a = 22 + c) h (am_setI h (22 + c) 9 (nI 0)) := fr_I fr_refl rfl
    refine ⟨am_setR (am_new (am_setI h (22 + c) 9 (nI 0)) (100, 24) 24) (22 + c) 8 (some h.1), fun Q => ?_, kp_R (kp_trans (kp_I kp_refl (by omega)) (kp_ex (ex_new ex_refl))) (by omega), S_Rg S1 (by omega), fun G => Gv_R (Gv_ex (Gv_fr Fr (by omega) (by omega) (by omega) G) h4 (ex_new ex_refl)) (by omega), ?_, fun rr e => (by cases e), fun _ => ⟨by rw [hR_R, if_pos rfl, if_pos rfl], if_pos rfl, rfl, rfl⟩⟩
    · have hr' : am_R (am_setI h (22 + c) 9 (nI 0)) (22 + c) 8 = none := hr
      simp (disch := first | with_reducible assumption | omega | exact Or.inl rfl | exact Or.inr rfl | exact bI_01 | exact c_cat | exact vt_ref | exact vt_null | rfl | with_reducible repeat (first | assumption | omega | apply S_I | apply S_L | apply S_D | apply ob_I | apply ob_L | apply ob_D | apply ob_R | apply ax_I | apply ax_L | apply ax_D | apply ax_R | apply o303 | apply o307 | apply o302 | apply o301 | apply ax304 | apply ax305 | apply ax306 | apply ax308 | apply ax309 | apply ax310 | apply lt_S | apply ar305 | apply ar308 | apply ar309)) only [g4_0, g4_1, g4_2, g4_5, g4_6, g4_9, g4_9r, g4_9n, g4_12, g4_13, g4_15, g4_17, g4_17r, g4_17n, g4_20, Option.toList, List.nil_append, List.cons_append, va_rf, hr', show (am_setI h (22 + c) 9 (nI 0)).1 = h.1 from rfl]
    · show (if 22 + c = h.1 then (0 : Int32) else am_I (am_setI h (22 + c) 9 (nI 0)) (22 + c) 9) = nI 0
      rw [if_neg ne, rI_eq]
theorem x_fkeep (S : am_S hF) (G : am_Gv hF) (hc : c < 256) (X : PXd hF D P N F k) : ∃ h1, (∀ Q, am_J 104 146 79 [some (.ref 4), some (.int (nI c)), some (.int (nI 0)), some (.ref (22 + c))] [] hF Q ↔ Q (some (.int k)) h1) ∧ kp (fun a _ => a = 22 + c) hF h1 ∧ am_S h1 ∧ am_Gv h1 ∧ CO h1 hF.1 D P N F k ∧ am_R h1 (22 + c) 3 = some hF.1 ∧ (∀ rr, am_R hF (22 + c) 8 = some rr → am_R h1 (22 + c) 8 = some rr) ∧ (am_R hF (22 + c) 8 = none → am_R h1 (22 + c) 8 = some (hF.1 + 7) ∧ am_tg h1 (hF.1 + 7) = (100, 24) ∧ hF.1 + 7 < h1.1) ∧ am_I h1 (22 + c) 0 = nI 6 ∧ am_I h1 (22 + c) 7 = nI 1 ∧ am_I h1 (22 + c) 9 = nI 0 ∧ h1.1 ≤ hF.1 + 8 ∧ h1.2.1 ≤ hF.2.1 + 1100 := by
  have h4 := S.1
  obtain ⟨hK, rK, EK, k1, k2, C⟩ := x_kept (d := 100) S X
  have lD : D.length ≤ 160 := X.1.2.1
  have lP : P.length ≤ 400 := X.2.1.2.1
  have lNN : N.length ≤ 256 := nodup_le 256 N X.2.2.1.2.2.1 X.2.2.1.2.2.2.1
  have SK := S_ex S EK
  have GK := Gv_ex G h4 EK
  have S1 : am_S (am_setR hK (22 + c) 3 (some hF.1)) := S_Rg SK (by omega)
  have G1 : am_Gv (am_setR hK (22 + c) 3 (some hF.1)) := Gv_R GK (by omega)
  obtain ⟨g, rg, Kg, Sg, Gg, i9, m1, m2⟩ := x_makeReads (d := 103) S1 hc
  have OK := o22 SK hc
  have O1 := o22 S1 hc
  have Og := o22 Sg hc
  have e8 : am_R (am_setR hK (22 + c) 3 (some hF.1)) (22 + c) 8 = am_R hF (22 + c) 8 := by
    rw [hR_R, if_pos rfl, if_neg (by decide)]; exact ((EK.2 (22 + c) (by omega)).2 8).2.2.2
  have g3 : am_R g (22 + c) 3 = some hF.1 := by
    rw [(Kg.2.2 (22 + c) 3 (by have := S1.1; omega) (by omega)).2.2.2, hR_R, if_pos rfl, if_pos rfl]
  have Fr : am_fr (fun a => a = 22 + c) g (am_setI (am_setL (am_setI g (22 + c) 0 (nI 6)) (22 + c) 1 (lN 0)) (22 + c) 7 (nI 1)) := fr_I (fr_L (fr_I fr_refl rfl) rfl) rfl
  have CK : CO (am_setI (am_setL (am_setI g (22 + c) 0 (nI 6)) (22 + c) 1 (lN 0)) (22 + c) 7 (nI 1)) hF.1 D P N F k := by
    have hg1 : hK.1 ≤ g.1 := Kg.1
    refine CO_keep C hg1 (fun a h1 h2 => ?_)
    have hlt : a < hK.1 := by omega
    have q := Kg.2.1 a hlt
    refine ⟨(fr_tg Fr).trans (q.trans rfl), fun j _ => ?_⟩
    have q2 := Kg.2.2 a j hlt (by omega)
    refine ⟨(fr_rdI Fr (by omega)).trans q2.1, (fr_rdL Fr (by omega)).trans (q2.2.1 (by omega)), (fr_rdR Fr).trans (q2.2.2.2.trans ?_)⟩
    rw [hR_R, if_neg (by omega)]
  refine ⟨am_setI (am_setL (am_setI g (22 + c) 0 (nI 6)) (22 + c) 1 (lN 0)) (22 + c) 7 (nI 1), fun Q => ?_, ?_, fr_S Fr Sg, Gv_fr Fr (by omega) (by omega) (by omega) (Gg G1), CK, (fr_rdR Fr).trans g3, fun rr hr => ?_, fun hr => ?_, ?_, rI_eq, ?_, ?_, ?_⟩
  · have e0 : am_I (am_setI (am_setL (am_setI g (22 + c) 0 (nI 6)) (22 + c) 1 (lN 0)) (22 + c) 7 (nI 1)) hF.1 7 = k := by
      have := CK
      obtain ⟨-, -, -, -, -, -, -, -, -, -, -, -, -, -, -, -, -, -, i7, -⟩ := this
      exact i7
    have Oe : am_ob (am_setI (am_setL (am_setI g (22 + c) 0 (nI 6)) (22 + c) 1 (lN 0)) (22 + c) 7 (nI 1)) hF.1 1 := ⟨by have := CK.2.1; omega, by rw [CK.2.2.1]⟩
    have g3' : am_R (am_setI (am_setL (am_setI g (22 + c) 0 (nI 6)) (22 + c) 1 (lN 0)) (22 + c) 7 (nI 1)) (22 + c) 3 = some hF.1 := (fr_rdR Fr).trans g3
    simp (disch := first | with_reducible assumption | omega | exact Or.inl rfl | exact Or.inr rfl | exact bI_01 | exact c_cat | exact vt_ref | exact vt_null | rfl | with_reducible repeat (first | assumption | omega | apply S_I | apply S_L | apply S_D | apply ob_I | apply ob_L | apply ob_D | apply ob_R | apply ax_I | apply ax_L | apply ax_D | apply ax_R | apply o303 | apply o307 | apply o302 | apply o301 | apply ax304 | apply ax305 | apply ax306 | apply ax308 | apply ax309 | apply ax310 | apply lt_S | apply ar305 | apply ar308 | apply ar309)) only [g146_79, g146_80, g146_81, g146_84, g146_87, g146_90, g146_90r, g146_90n, g146_93, g146_94, g146_97, g146_98, g146_100, g146_103, g146_104, g146_105, g146_108, g146_109, g146_112, g146_115, g3_0, g3_1, g3_2, g3_5, g3_6, g3_7, g3_10, Option.toList, List.nil_append, List.cons_append, va_rf, rK _, rg _, g3', e0]
  · refine kp_trans (kp_trans (kp_R (kp_ex EK) rfl) (kp_mono (fun a j q => q.1) Kg)) (kp_fr Fr (fun a j q => q))
  · rw [fr_rdR Fr]
    have := m1 rr (e8.trans hr)
    rw [this]
    exact e8.trans hr
  · obtain ⟨z1, z2, z3, z4⟩ := m2 (e8.trans hr)
    have e1 : (am_setR hK (22 + c) 3 (some hF.1)).1 = hF.1 + 7 := k1
    rw [e1] at z1 z2 z3
    refine ⟨(fr_rdR Fr).trans z1, (fr_tg Fr).trans z2, ?_⟩
    show hF.1 + 7 < g.1
    omega
  · rw [rI_k (by decide), hI_L, rI_eq]
  · rw [rI_k (by decide), hI_L, rI_k (by decide)]; exact i9
  · show g.1 ≤ _
    match hr : am_R hF (22 + c) 8 with
    | some rr =>
      rw [m1 rr (e8.trans hr)]
      show hK.1 ≤ _
      omega
    | none =>
      rw [(m2 (e8.trans hr)).2.2.1]
      show hK.1 + 1 ≤ _
      omega
  · show g.2.1 ≤ _
    match hr : am_R hF (22 + c) 8 with
    | some rr =>
      rw [m1 rr (e8.trans hr)]
      show hK.2.1 ≤ _
      omega
    | none =>
      rw [(m2 (e8.trans hr)).2.2.2]
      show hK.2.1 + 24 ≤ _
      omega
/-- a slot is free -/
theorem cnt_ge : ∀ m (cd : Nat → Option (Nat × Nat)), (∀ s, s < m → ∃ c e, c < 256 ∧ cd c = some (e, s)) → m ≤ cntF cd 256 := by
  intro m
  induction m with
  | zero => intro cd _; exact Nat.zero_le _
  | succ m ih =>
    intro cd H
    obtain ⟨c, e, hc, he⟩ := H m (Nat.lt_succ_self _)
    have h1 := cnt_lo (cd := cd) (c := c) (y := none) 256 hc
    rw [he, show (if (none : Option (Nat × Nat)).isSome = true then 1 else 0) = 0 from rfl, show (if (some (e, m) : Option (Nat × Nat)).isSome = true then 1 else 0) = 1 from rfl] at h1
    have h2 := ih (cdU cd c none) (fun s hs => by
      obtain ⟨c', e', hc', he'⟩ := H s (by omega)
      refine ⟨c', e', hc', ?_⟩
      rw [cdU_ne]
      · exact he'
      · intro q
        rw [q, he] at he'
        cases he'
        omega)
    omega
theorem m_slot (S : am_S h) {v3 : Int32} {f : Nat} (hf : f < 48) (h0 : am_I h 374 f = nI 0) (h1 : ∀ s, s < f → am_I h 374 s = nI 1) : ∀ r i, f - i = r → i ≤ f → (am_J d 191 71 [some (.ref 349), some (.int v3), some (.int (nI i))] [] h Q ↔ am_J d 191 86 [some (.ref 349), some (.int v3), some (.int (nI f))] [] h Q) := by
  intro r
  induction r with
  | zero =>
    intro i hr hi
    obtain rfl : i = f := by omega
    rw [g191_71]
    simp (disch := first | with_reducible assumption | omega | exact Or.inl rfl | exact Or.inr rfl | exact bI_01 | exact c_cat | exact vt_ref | exact vt_null | rfl | with_reducible repeat (first | assumption | omega | apply S_I | apply S_L | apply S_D | apply ob_I | apply ob_L | apply ob_D | apply ob_R | apply ax_I | apply ax_L | apply ax_D | apply ax_R | apply o303 | apply o307 | apply o302 | apply o301 | apply ax304 | apply ax305 | apply ax306 | apply ax308 | apply ax309 | apply ax310 | apply lt_S | apply ar305 | apply ar308 | apply ar309)) only [g191_72, g191_75, g191_76, g191_77, g191_80, g191_83, Option.toList, List.nil_append, List.cons_append, va_rf, nI_ltI, nI_leI, nI_eq, nI_add, nI_sub, nI_lt0, nI_e0, nI_m1, m1_nI, Nat.reduceEqDiff, Nat.reduceLT, Nat.reduceLeDiff, Nat.reduceAdd, Nat.reduceSub, Nat.reduceMul, ↓reduceIte, eq_self, h0]
  | succ r ih =>
    intro i hr hi
    rw [← ih (i + 1) (by omega) (by omega), g191_71]
    have := h1 i (by omega)
    simp (disch := first | with_reducible assumption | omega | exact Or.inl rfl | exact Or.inr rfl | exact bI_01 | exact c_cat | exact vt_ref | exact vt_null | rfl | with_reducible repeat (first | assumption | omega | apply S_I | apply S_L | apply S_D | apply ob_I | apply ob_L | apply ob_D | apply ob_R | apply ax_I | apply ax_L | apply ax_D | apply ax_R | apply o303 | apply o307 | apply o302 | apply o301 | apply ax304 | apply ax305 | apply ax306 | apply ax308 | apply ax309 | apply ax310 | apply lt_S | apply ar305 | apply ar308 | apply ar309)) only [g191_72, g191_75, g191_76, g191_77, g191_80, g191_83, Option.toList, List.nil_append, List.cons_append, va_rf, nI_ltI, nI_leI, nI_eq, nI_add, nI_sub, nI_lt0, nI_e0, nI_m1, m1_nI, Nat.reduceEqDiff, Nat.reduceLT, Nat.reduceLeDiff, Nat.reduceAdd, Nat.reduceSub, Nat.reduceMul, ↓reduceIte, eq_self, this]
end FKP

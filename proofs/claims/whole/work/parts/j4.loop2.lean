/-! RECALCULATE: the loop to its end, on both sides -/
section JLQ
variable {d e : Nat} {tt : Nat → ntT} {rt : Nat → Nat} {pF : Nat → List Nat} {fe : Nat → Nat} {mb : Nat → Bool} {ea ra sl : Nat → Nat} {nl : Nat → List Nat} {nc : Nat → Nat} {Gc : Nat → List (Nat × Nat)} {nf n : Nat} {m : Nat → Nat} {ch oc : Nat → Bool} {cy sp : Nat → Nat} {cs : Nat → Nat → VL} {R F : Nat} {q st rc : Nat → Nat} {mu : Nat → Nat → Bool} {v1 v2 : Option Value}
/-- one turn on both sides: x is the ready one -/
theorem J_turn {gx gm : am_H} {dn : Nat → Bool} {t f : Nat} {dl : Nat → Nat} {w2 v4 v5 v6 : Option Value} (hd : 1350 ≤ d) (M : MBR mb n m) (P : RP n m mu n R F q st rc) (hl : ∀ x y, y ∈ nl x → y < 256) (hch : ∀ x, ch x = true → x < 256 ∧ mb x = true) (hoc : ∀ i, i < n → (oc (m i) = true ↔ q i ≠ 999)) (hcq : ∀ i, i < n → q i ≠ 999 → rc (st (q i)) = cy (m i)) (hcy : ∀ x, x < 256 → oc x = true → cy x < 256) (hno : ∀ x, x ∈ nl x → oc x = true)
    (J : JL gx gm tt rt pF fe mb ea ra sl nl nc Gc nf n m ch oc cy sp cs R F q st rc dn t dl) (ht : t < 48) (hf : f = fnd (fun i => rdy nl ch dn oc (m i)) n 0) (fn : f < n) :
    ∃ gx' gm' v4' v5' v6' w2', (∀ Q, am_J (e + 7) 154 37 [some (.ref 4), v1, v2, some (.int (nI t)), v4, v5, v6] [] gx Q ↔ am_J (e + 7) 154 37 [some (.ref 4), v1, v2, some (.int (nI (t + 1))), v4', v5', v6'] [] gx' Q) ∧ (∀ Q, am_J (d + 2) 227 64 [some (.ref 349), some (.int (nI 1)), w2] [] gm Q ↔ am_J (d + 2) 227 64 [some (.ref 349), some (.int (nI 1)), w2'] [] gm' Q) ∧ kp (pXl mb ra) gx gx' ∧ am_fr mdL gm gm' ∧ (∀ k, k < 56 ∨ (70 < k ∧ k ≠ 81 ∧ k ≠ 83) → am_I gm' 349 k = am_I gm 349 k) ∧
      JL gx' gm' tt rt pF fe mb ea ra sl nl nc Gc nf n m ch oc cy sp cs R F q st rc (fun c => dn c || decide (c = m f)) (t + 1) (fun i => if i = t then m f else dl i) := by
  obtain ⟨J1, J2, J3, J4, J5, J6, J7, J8, J9, J10⟩ := id J
  obtain ⟨x256, hm⟩ := M.2.1 f fn
  have S := J1.1
  have rz := (fnd_spec (p := fun i => rdy nl ch dn oc (m i)) n 0).2.2.2 (by rw [← hf]; omega)
  rw [← hf] at rz
  have rz : rdy nl ch dn oc (m f) = true := rz
  have nz : ∀ i, i < f → rdy nl ch dn oc (m i) = false := fun i hi => (fnd_spec (p := fun i => rdy nl ch dn oc (m i)) n 0).2.2.1 i (Nat.zero_le _) (by rw [← hf]; exact hi)
  obtain ⟨r1, r2, r3⟩ := rdy_iff.mp rz
  have fx : fnd (rdy nl ch dn oc) 256 0 = m f := fnd_eq (Nat.zero_le _) (by omega) (fun j _ hj => by
    cases hz : rdy nl ch dn oc j
    · rfl
    · obtain ⟨a1, a2⟩ := hch j (rdy_iff.mp hz).1
      obtain ⟨i, i1, rfl⟩ := M.2.2.2 j a1 a2
      have : i < f := by
        rcases Nat.lt_trichotomy i f with c | c | c
        · exact c
        · subst c; omega
        · have := M.2.2.1 f i c i1; omega
      rw [nz i this] at hz; cases hz) (fun _ => rz)
  -- the class asks for the next one
  have xn := x_next (d := e + 5) S M P J3 hl (fun y hy => (hch y hy).2) hoc ht
  rw [← hf] at xn
  generalize hrf : (if q f = 999 then (-1 : Int32) else nI (rc (st (q f)))) = rf at xn
  have Kn : kp (fun a k => (a = 311 ∧ (k = 9 ∨ k = 11 ∨ k = 12)) ∨ a = 318) gx (nxH gx f t (m f) rf) := by
    unfold nxH
    exact kp_I (kp_I (kp_I (kp_L kp_refl (by omega)) (by omega)) (by omega)) (by omega)
  have S1 : am_S (nxH gx f t (m f) rf) := S
  have X1 := XL_kp J1 Kn S1 x256 hm (fun a k z => ⟨fun h => by omega, by omega, by omega, fun s hs => by omega⟩)
  have N1 := nx_NX (rf := rf) J3 M fn ht
  have rf1 : am_I (nxH gx f t (m f) rf) 311 12 = rf := by
    unfold nxH
    rw [rI_k (by decide), rI_a (by decide), rI_eq]
  have E1 : ∀ c, c < 256 → E2 (nxH gx f t (m f) rf) gm mb ch dn c := fun c hc => E2_keep (x := 1000) S.1 hc (by omega) Kn (fun k z => by omega) (fun rr hr => by
    obtain ⟨y1, y2, -⟩ := J1.2.2.2.2.2.2.2 c hc rr hr
    exact ⟨y2, fun k z => by omega⟩) MFr_refl rfl (J7 c hc)
  -- the model's search
  obtain ⟨g1, F1, n1, R1⟩ := m_search (d := d - 460) (v1 := some (.int (nI 1))) (dn := dn) (ch := ch) (oc := oc) (cy := cy) hl hcy 256 0 gm rfl (Nat.zero_le _) J2.1 J2.2.2.2.1 J4
  rw [fx, show d - 460 + 462 = d + 2 by omega] at R1
  have Sm1 := fr_S F1 J2.1
  have M1 := ML_fr F1 (fun a ha => by omega) J2
  have E2' : ∀ c, c < 256 → E2 (nxH gx f t (m f) rf) g1 mb ch dn c := fun c hc => E2_fr F1 (fun a ha => by omega) (E1 c hc)
  obtain ⟨-, -, m395⟩ := J4 (m f) x256
  have m395 : am_I g1 395 (m f) = if oc (m f) = true then nI (cy (m f)) else -1 := (fr_rdI F1 (by decide)).trans m395
  have m81 : am_I g1 349 81 = nI t := (n1 81 (by decide)).trans J5
  have x4 : m f / 64 < 4 := by omega
  obtain ⟨s1, s2, s3, s4⟩ := J8 (m f / 64) x4
  have nxI : ∀ a k, a ≠ 311 → a ≠ 318 → am_I (nxH gx f t (m f) rf) a k = am_I gx a k := fun a k h1 h2 => by
    unfold nxH
    rw [rI_a h1, rI_a h2, rI_a h1, hI_L]
  have s1' : am_I (nxH gx f t (m f) rf) (321 + 7 * (m f / 64)) 3 = nI (sp (m f / 64)) := (nxI _ 3 (by omega) (by omega)).trans s1
  have s2' : am_I g1 381 (m f / 64) = nI (sp (m f / 64)) := (fr_rdI F1 (by decide)).trans s2
  obtain ⟨-, -, -, y4, y5, y6, -⟩ := X1.2.2.1 (m f) x256 hm
  have STEP : ∃ gx' gm', RUN d e (nxH gx f t (m f) rf) g1 gx' gm' v1 v2 t (m f) ∧ STP (nxH gx f t (m f) rf) g1 gx' gm' mb ch dn ra (m f) t := by
    cases ho : oc (m f) with
    | true =>
      rw [ho, if_pos rfl] at m395
      have q9 := (hoc f fn).mp ho
      rw [if_neg q9, hcq f fn q9] at hrf
      exact J_stepC S1 Sm1 x256 ht y4 y5 (rf1.trans hrf.symm) (hcy _ x256 ho) m395 m81 hm
    | false =>
      rw [ho, if_neg (by decide)] at m395
      have q9 : q f = 999 := by
        apply Classical.byContradiction
        intro z
        rw [(hoc f fn).mpr z] at ho; cases ho
      rw [if_pos q9] at hrf
      by_cases z : sp (m f / 64) = 0
      · rw [z] at s1' s2'
        refine J_stepW (cs := cs) X1 M1 x256 ht hm (rf1.trans hrf.symm) m395 s1' s2' m81 E2' hl (fun h => by rw [hno _ h] at ho; cases ho) (r3.resolve_left (fun h => by rw [ho] at h; cases h)) (fun k hk => ?_) hd
        obtain ⟨a1, a2⟩ := s4 z k hk
        have kn : k < 5 := by have := (J1.2.2.2.1 (m f / 64) x4).1; omega
        have i0 := nxI (323 + 7 * (m f / 64) + k) 0 (by omega) (by omega)
        have l1 : am_L (nxH gx f t (m f) rf) (323 + 7 * (m f / 64) + k) 1 = am_L gx (323 + 7 * (m f / 64) + k) 1 := by
          unfold nxH
          rw [hL_I, hL_I, hL_I, rL_a (by omega)]
        match cs (m f / 64) k, a1, a2 with
        | .inl _, ⟨b1, b2⟩, ⟨c1, c2⟩ => exact ⟨⟨i0.trans b1, l1.trans b2⟩, (fr_rdI F1 (by decide)).trans c1, (fr_rdL F1 (by decide)).trans c2⟩
        | .inr _, ⟨b1, b2, b3⟩, ⟨c1, c2, c3⟩ => exact ⟨⟨i0.trans b1, b2, b3⟩, (fr_rdI F1 (by decide)).trans c1, (fr_rdD F1 (by decide)).trans c2, c3⟩
      · exact J_stepS S1 Sm1 x256 ht y4 y5 (rf1.trans hrf.symm) m395 s1' s2' z s3 m81 hm
  obtain ⟨gx', gm', ⟨⟨v5', v6', RX⟩, RM⟩, K2, Sx', F2, w391, w394, w394', w81, E3⟩ := STEP
  have Kw : ∀ a k, woP (22 + m f) (some (ra (m f))) a k → pXl mb ra a k := fun a k z => by
    unfold pXl
    rcases z with (z | z | z | z | z | z) | z
    · omega
    · omega
    · omega
    · omega
    · omega
    · cases z; exact Or.inr (Or.inr (Or.inr (Or.inr (Or.inr (Or.inr (Or.inr ⟨m f, x256, hm, rfl⟩))))))
    · omega
  have KT : kp (pXl mb ra) gx gx' := kp_trans (kp_mono (fun a k z => by unfold pXl; omega) Kn) (kp_mono Kw K2)
  have nW : ∀ a k, (a < 9 ∨ a = 11 ∨ (22 ≤ a ∧ a < 278 ∧ a ≠ 22 + m f) ∨ (300 ≤ a ∧ a < 402) ∨ (402 ≤ a ∧ a ≠ ra (m f))) → ¬ woP (22 + m f) (some (ra (m f))) a k := fun a k h z => by
    rcases z with (z | z | z | z | z | z) | z
    · omega
    · omega
    · omega
    · omega
    · omega
    · cases z; omega
    · omega
  have G2 := fun a k (ha : a < 402) h => K2.2.2 a k (Nat.lt_of_lt_of_le ha S1.1) (nW a k h)
  have X2 := XL_kp X1 K2 Sx' x256 hm (fun a k z => by
    rcases z with (z | z | z | z | z | z) | z
    · exact ⟨fun h => by omega, by omega, by omega, fun s hs => by omega⟩
    · exact ⟨fun h => by omega, by omega, by omega, fun s hs => by omega⟩
    · exact ⟨fun h => by omega, by omega, by omega, fun s hs => by omega⟩
    · exact ⟨fun h => by omega, by omega, by omega, fun s hs => by omega⟩
    · exact ⟨fun h => by omega, by omega, by omega, fun s hs => by omega⟩
    · cases z; exact ⟨fun h => rfl, by omega, by omega, fun s hs => by omega⟩
    · exact ⟨fun h => by omega, by omega, by omega, fun s hs => by omega⟩)
  have M2 := ML_fr F2.1 (fun a ha => by omega) M1
  have N2 := NX_eq (g' := gx') (fun a k h1 h2 => by
    have := G2 a k (by omega) (by omega)
    exact ⟨this.1, this.2.1 (by omega)⟩) N1
  have cN : cnB (fun c => dn c || decide (c = m f)) 256 = t + 1 := by
    rw [cnB_set (r := dn) (i := m f) r2 (by show (dn (m f) || decide (m f = m f)) = true; rw [decide_eq_true rfl, Bool.or_true]) (fun k hk => by show (dn k || decide (k = m f)) = dn k; rw [decide_eq_false hk, Bool.or_false]) 256 x256, J9]
  have xm1 : ¬ nI (m f) = -1 := nI_nem1 (by omega)
  refine ⟨gx', gm', some (.int (nI (m f))), v5', v6', some (.int (nI (m f))), fun Q => ?_, fun Q => ?_, KT, fr_trans (fr_mono (fun a ha => by omega) F1) (fr_mono (fun a ha => by omega) F2.1), fun k hk => (F2.2.1 349 k (by omega)).trans (n1 k (by omega)), X2, M2, N2, fun j hj => ?_, w81, fun i hi => ?_, fun c hc => ?_, fun s hs => ?_, cN, fun c hc => ?_⟩
  · have a1 : am_J (e + 7) 154 37 [some (.ref 4), v1, v2, some (.int (nI t)), v4, v5, v6] [] gx Q ↔ am_J (e + 7) 154 61 [some (.ref 4), v1, v2, some (.int (nI t)), some (.int (nI (m f))), v5, v6] [] (nxH gx f t (m f) rf) Q := by
      have xn' := fun Q => (xn Q).trans (by rw [if_pos fn])
      rw [g154_37]
      simp (disch := first | with_reducible assumption | omega | exact Or.inl rfl | exact Or.inr rfl | exact bI_01 | exact c_cat | exact vt_ref | exact vt_null | rfl | with_reducible repeat (first | assumption | omega | apply S_I | apply S_L | apply S_D | apply ob_I | apply ob_L | apply ob_D | apply ob_R | apply ax_I | apply ax_L | apply ax_D | apply ax_R | apply o303 | apply o307 | apply o302 | apply o301 | apply ax304 | apply ax305 | apply ax306 | apply ax308 | apply ax309 | apply ax310 | apply lt_S | apply ar305 | apply ar308 | apply ar309)) only [g154_38, g154_40, g154_43, g154_44, g154_47, g154_50, g154_52, g154_54, g154_55, Option.toList, List.nil_append, List.cons_append, va_rf, nI_ltI, nI_leI, nI_eq, nI_add, nI_sub, nI_lt0, nI_e0, nI_m1, m1_nI, Nat.reduceEqDiff, Nat.reduceLT, Nat.reduceLeDiff, Nat.reduceAdd, Nat.reduceSub, Nat.reduceMul, ↓reduceIte, eq_self, show ¬ 48 ≤ t by omega, xn' _, xm1]
    rw [a1, RX v5 v6 Q]
    simp (disch := first | with_reducible assumption | omega | exact Or.inl rfl | exact Or.inr rfl | exact bI_01 | exact c_cat | exact vt_ref | exact vt_null | rfl | with_reducible repeat (first | assumption | omega | apply S_I | apply S_L | apply S_D | apply ob_I | apply ob_L | apply ob_D | apply ob_R | apply ax_I | apply ax_L | apply ax_D | apply ax_R | apply o303 | apply o307 | apply o302 | apply o301 | apply ax304 | apply ax305 | apply ax306 | apply ax308 | apply ax309 | apply ax310 | apply lt_S | apply ar305 | apply ar308 | apply ar309)) only [g154_157, g154_160, Option.toList, List.nil_append, List.cons_append, va_rf, nI_ltI, nI_leI, nI_eq, nI_add, nI_sub, nI_lt0, nI_e0, nI_m1, m1_nI, Nat.reduceEqDiff, Nat.reduceLT, Nat.reduceLeDiff, Nat.reduceAdd, Nat.reduceSub, Nat.reduceMul, ↓reduceIte, eq_self]
  · have SM := J2.1
    rw [g227_64]
    simp (disch := first | with_reducible assumption | omega | exact Or.inl rfl | exact Or.inr rfl | exact bI_01 | exact c_cat | exact vt_ref | exact vt_null | rfl | with_reducible repeat (first | assumption | omega | apply S_I | apply S_L | apply S_D | apply ob_I | apply ob_L | apply ob_D | apply ob_R | apply ax_I | apply ax_L | apply ax_D | apply ax_R | apply o303 | apply o307 | apply o302 | apply o301 | apply ax304 | apply ax305 | apply ax306 | apply ax308 | apply ax309 | apply ax310 | apply lt_S | apply ar305 | apply ar308 | apply ar309)) only [g227_65, g227_68, g227_69, R1 _, g227_91, g227_92, g227_95, g227_98, g227_99, g227_102, g227_103, g227_104, g227_105, g227_108, g227_109, g227_110, g227_113, Option.toList, List.nil_append, List.cons_append, va_rf, nI_ltI, nI_leI, nI_eq, nI_add, nI_sub, nI_lt0, nI_e0, nI_m1, m1_nI, Nat.reduceEqDiff, Nat.reduceLT, Nat.reduceLeDiff, Nat.reduceAdd, Nat.reduceSub, Nat.reduceMul, ↓reduceIte, eq_self, show ¬ 256 ≤ m f by omega, RM _]
  · rw [F2.2.1 392 j (by omega), fr_rdI F1 (by decide)]
    refine ⟨(J4 j hj).1, ?_, ?_⟩
    · show _ = bI (dn j || decide (j = m f))
      by_cases ej : j = m f
      · subst ej; rw [w391, decide_eq_true rfl, Bool.or_true]; rfl
      · rw [F2.2.1 391 j (by omega), fr_rdI F1 (by decide), decide_eq_false ej, Bool.or_false]; exact (J4 j hj).2.1
    · rw [F2.2.1 395 j (by omega), fr_rdI F1 (by decide)]; exact (J4 j hj).2.2
  · show _ = nI (if i = t then m f else dl i)
    by_cases ei : i = t
    · subst ei; rw [if_pos rfl]; exact w394
    · rw [if_neg ei, w394' i ei, fr_rdI F1 (by decide)]; exact J6 i (by omega)
  · by_cases ec : c = m f
    · subst ec; exact E3
    · refine E2_keep (x := m f) S1.1 hc ec K2 (fun k => nW _ _ (by omega)) (fun rr hr => ?_) F2 (by show (dn c || decide (c = m f)) = dn c; rw [decide_eq_false ec, Bool.or_false]) (E2' c hc)
      obtain ⟨z1, z2, z3, -⟩ := X1.2.2.2.2.2.2.2 c hc rr hr
      exact ⟨z2, fun k => nW _ _ (by
        have : rr ≠ ra (m f) := fun h => ec (z3 (m f) x256 hm h.symm).symm
        omega)⟩
  · obtain ⟨a1, a2, a3, a4⟩ := J8 s hs
    refine ⟨((G2 _ 3 (by omega) (by omega)).1.trans (nxI _ 3 (by omega) (by omega))).trans a1, (F2.2.1 381 s (by omega)).trans ((fr_rdI F1 (by decide)).trans a2), a3, fun z k hk => ?_⟩
    obtain ⟨b1, b2⟩ := a4 z k hk
    have kn : k < 5 := by have := (J1.2.2.2.1 s hs).1; omega
    have G := fun j => G2 (323 + 7 * s + k) j (by omega) (by omega)
    have i0 := (G 0).1.trans (nxI (323 + 7 * s + k) 0 (by omega) (by omega))
    have l1 : am_L (nxH gx f t (m f) rf) (323 + 7 * s + k) 1 = am_L gx (323 + 7 * s + k) 1 := by
      unfold nxH
      rw [hL_I, hL_I, hL_I, rL_a (by omega)]
    have d2 : am_D (nxH gx f t (m f) rf) (323 + 7 * s + k) 2 = am_D gx (323 + 7 * s + k) 2 := rfl
    have i379 := (F2.2.1 379 (5 * s + k) (by omega)).trans (fr_rdI F1 (by decide) : am_I g1 379 (5 * s + k) = am_I gm 379 (5 * s + k))
    match cs s k, b1, b2 with
    | .inl _, ⟨c1, c2⟩, ⟨e1, e2⟩ => exact ⟨⟨i0.trans c1, (((G 1).2.1 (by omega)).trans l1).trans c2⟩, i379.trans e1, ((fr_rdL F2.1 (by omega)).trans (fr_rdL F1 (by decide))).trans e2⟩
    | .inr _, ⟨c1, c2, c3⟩, ⟨e1, e2, e3⟩ => exact ⟨⟨i0.trans c1, (((G 2).2.2.1 (by omega) (by omega)).trans d2).trans c2, c3⟩, i379.trans e1, ((fr_rdD F2.1 (by omega)).trans (fr_rdD F1 (by decide))).trans e2, e3⟩
  · have hc : (dn c || decide (c = m f)) = true := hc
    rw [Bool.or_eq_true] at hc
    rcases hc with hc | hc
    · exact J10 c hc
    · rw [of_decide_eq_true hc]; exact r1
end JLQ

/-! THE INVARIANT behind a function that was kept -/
section IVN
variable {q q' own na e0 : Nat} {h g : am_H} {nf : Nat} {fe : Nat → Nat} {fX fM : Nat → Int64} {fA : Nat → Nat} {nc : Nat → Nat} {ce : Nat → Nat → Nat} {cX cM : Nat → Nat → Int64} {cd : Nat → Option (Nat × Nat)} {lab : Nat → Option Nat} {x y : Int64}
theorem upf_eq {α : Type} {f : Nat → α} {i : Nat} {v : α} : upf f i v i = v := if_pos rfl
theorem upf_ne {α : Type} {f : Nat → α} {i j : Nat} {v : α} (e : j ≠ i) : upf f i v j = f j := if_neg e
theorem pFK_up (h1 : own < nf → fA own = na) (h2 : own < nf → fM own = y) : ∀ z, pFK nf fA fM z ≠ [] → pFK (max nf (own + 1)) (upf fA own na) (upf fM own y) z = pFK nf fA fM z := by
  intro z hz
  unfold pFK at hz ⊢
  by_cases c : z / 4 < nf ∧ fA (z / 4) = z % 4
  · rw [if_pos c]
    by_cases e : z / 4 = own
    · have e1 := h1 (by omega)
      have e2 := h2 (by omega)
      rw [e, upf_eq, upf_eq, if_pos ⟨by omega, by rw [← e1, ← e]; exact c.2⟩, e2]
    · rw [upf_ne e, upf_ne e, if_pos ⟨by omega, c.2⟩]
  · rw [if_neg c] at hz; exact absurd rfl hz
theorem pFm_pFK2 (h1 : own < nf → fA own = na) (hna : na ≤ 3) : ∀ z, pFm 2 own y (fnE 2 own na nf y fM fA) z ≠ [] → pFK (max nf (own + 1)) (upf fA own na) (upf fM own y) z = pFm 2 own y (fnE 2 own na nf y fM fA) z := by
  intro z hz
  unfold pFm fnE at hz ⊢
  rw [if_neg (show ¬ 100 + z < 100 by omega), show 100 + z - 100 = z by omega] at hz ⊢
  unfold pFK
  by_cases c : (2 : Nat) = 2 ∧ z = 4 * own + na
  · rw [if_pos c]
    have e1 : z / 4 = own := by omega
    have e2 : z % 4 = na := by omega
    rw [e1, e2, upf_eq, upf_eq, if_pos ⟨by omega, rfl⟩]
  · rw [if_neg c] at hz ⊢
    by_cases c2 : z / 4 < nf ∧ fA (z / 4) = z % 4
    · rw [if_pos c2]
      have e : z / 4 ≠ own := fun e => by
        rw [e] at c2
        have := h1 c2.1
        exact c ⟨rfl, by omega⟩
      rw [upf_ne e, upf_ne e, if_pos ⟨by omega, c2.2⟩]
    · rw [if_neg c2] at hz; exact absurd ltM_0 hz
theorem Inv_function (hq : q ≤ q') (I : Inv q h) (GG : iG h nf fe fX fM fA nc ce cX cM cd lab) (ho : own < 8) (hown : own = fdI fX x nf) (hxy : NM x y) (hna1 : 1 ≤ na) (hna3 : na ≤ 3) (hnA : own < nf → fA own = na) (K : kp (Pfu own) h g) (S : am_S g) (G : am_Gv g) (M : iM q' g) (t0 : am_I g 5 1 = nI 0) (t1 : am_I g 349 2 = nI 0) (F : iF g) (he0 : h.1 ≤ e0) (k1 : am_R g 11 own = some e0) (k2 : am_L g e0 9 = x) (k3 : am_I g e0 10 = nI na) (k4 : am_I g e0 11 = nI 1) (k5 : am_L g 358 own = y) (k6 : am_I g 361 own = nI na) (k7 : am_I g 377 own = nI 1) (k8 : am_I g 4 10 = nI (max nf (own + 1))) (k9 : am_I g 349 16 = nI (max nf (own + 1))) (C : ∃ pN L G, CRel g e0 (48 + own) true na pN (pFK (max nf (own + 1)) (upf fA own na) (upf fM own y)) L G) : Inv q' g := by
  obtain ⟨a1, a2, a3, a4, a5, -, a6, a7, a8, -⟩ := Inv_iff.mp I
  obtain ⟨g1, g2, g3, g4, g5⟩ := GG
  have h4 := a1.1
  have lz : ∀ a, h.1 ≤ a → lab a = none := fun a ha => by
    match hl : lab a with
    | none => rfl
    | some z => have := g5 a z hl; omega
  have hle : own ≤ nf := by rw [hown]; exact fdI_le
  obtain ⟨n1, n2, n3, n4, n5, n6⟩ := id g1
  obtain ⟨KF, KD⟩ := KN_of g1
  have eqX : own < nf → fX own = x := fun hlt => by
    have := fdI_at (f := fX) (x := x) (n := nf) (by rw [← hown]; exact hlt)
    rw [← hown] at this; exact this
  have eqM : own < nf → fM own = y := fun hlt => (NM_iff (KF own hlt).1 hxy).mp (eqX hlt)
  have hF := pFK_up (fA := fA) (fM := fM) (nf := nf) hnA eqM
  have nox : ∀ i, i < nf → fX i = x → i = own := fun i hi e => by
    by_cases c : own < nf
    · exact KD i own hi c (e.trans (eqX c).symm)
    · have := fdI_first (f := fX) (x := x) (n := nf) hi e
      omega
  refine Inv_iff.mpr ⟨S, G, ⟨fun _ => 0, 0, ⟨t0, by decide, fun j hj => absurd hj (Nat.not_lt_zero _)⟩, t1, fun j hj => absurd hj (Nat.not_lt_zero _)⟩, iO_kp K h4 (fun a k hf => by unfold Pfu rX pmt; omega) a4, F, M, iD_kp hq K h4 (fun a k hf => by unfold Pfu rX pmt; omega) a6, iP_kp K h4 (fun a k hf => by unfold Pfu rX pmt; omega) a7, iR_kp K h4 (fun a k hf => by unfold Pfu rX pmt; omega) a8, max nf (own + 1), upf fe own e0, upf fX own x, upf fM own y, upf fA own na, nc, ce, cX, cM, cd, lab, ⟨by omega, k8, k9, fun i h1 h2 => ?_, fun i j hi hj e => ?_, fun i hi => ?_⟩, fun s' hs' => iC_gh rfl (fun i hi => ⟨rfl, rfl, rfl⟩) hF (iC_kp K h4 hs' (fun a k hf => ?_) (g2 s' hs')), fun c hc => ?_, iS_kp K h4 (fun a k hf => by unfold Pfu rX pmt; omega) g4, fun a z hl => Nat.lt_of_lt_of_le (g5 a z hl) K.1⟩
  · rw [(K.2.2 11 i (by omega) (by unfold Pfu rX pmt; omega)).2.2.2]
    exact n4 i (by omega) h2
  · by_cases ei : i = own
    · by_cases ej : j = own
      · omega
      · rw [ei, upf_eq, upf_ne ej] at e
        have := nox j (by omega) e.symm
        omega
    · by_cases ej : j = own
      · rw [ej, upf_eq, upf_ne ei] at e
        have := nox i (by omega) e
        omega
      · rw [upf_ne ei, upf_ne ej] at e
        exact n5 i j (by omega) (by omega) e
  · by_cases ei : i = own
    · subst ei
      rw [upf_eq, upf_eq, upf_eq, upf_eq]
      exact ⟨k1, k2, k3, k5, k6, hxy, hna1, hna3, by rw [k4, k7], Or.inr k7, fun j hj => lz _ (by omega), C⟩
    · rw [upf_ne ei, upf_ne ei, upf_ne ei, upf_ne ei]
      obtain ⟨b1, b2, b3, b4, b5, b6, b7, b8, b9, b10, b11, pN, L, GL, b12⟩ := n6 i (by omega)
      have c0 := b12
      obtain ⟨D, E, k, m, r, -, -, -, -, -, q6, -, -⟩ := c0
      have q1 := q6.1
      have q2 := q6.2.1
      have R := fun a k (ha : a < 402) hp => K.2.2 a k (by omega) (show ¬ Pfu own a k from hp)
      have Fc := fun k => K.2.2 (fe i) k (by omega) (show ¬ Pfu own (fe i) k by unfold Pfu rX pmt; omega)
      refine ⟨(R 11 i (by decide) (by unfold Pfu rX pmt; omega)).2.2.2.trans b1, ((Fc 9).2.1 (by omega)).trans b2, (Fc 10).1.trans b3, ((R 358 i (by decide) (by unfold Pfu rX pmt; omega)).2.1 (by decide)).trans b4, (R 361 i (by decide) (by unfold Pfu rX pmt; omega)).1.trans b5, b6, b7, b8, ?_, ?_, b11, pN, L, GL, CRel_txt (Nat.le_refl _) (fun q => q) (fun k hk => rfl) hF (CRel_kp K h4 b12 (fun a k h1 h2 h3 => by unfold Pfu rX pmt; omega) (fun a k h1 h2 h3 => by unfold Pfu rX pmt; omega) (fun a h1 => by unfold Pfu rX pmt; omega))⟩
      · rw [(Fc 11).1, (R 377 i (by decide) (by unfold Pfu rX pmt; omega)).1]; exact b9
      · rw [(R 377 i (by decide) (by unfold Pfu rX pmt; omega)).1]; exact b10
  · unfold Pfu rX pmt
    rcases hf with hf | hf | hf | hf | hf | hf | hf
    · omega
    · omega
    · omega
    · omega
    · have := hf.1; omega
    · omega
    · omega
  · have J := g3 c hc
    refine iE_gh (nc := nc) (cM := cM) (Nat.le_refl _) (g2 (c / 64) (by omega)).1 (fun k hk => rfl) hF (iE_kp K h4 hc (fun a k hf => ?_) J)
    obtain ⟨st, -, -, -, -, -, -, -, -, -, j13⟩ := J
    unfold Pfu rX pmt
    rcases hf with hf | hf | hf | hf | ⟨e', z, he, hf⟩
    · omega
    · omega
    · omega
    · have := hf.1; omega
    · have hz := (j13 e' z he).2.2.1
      omega
end IVN

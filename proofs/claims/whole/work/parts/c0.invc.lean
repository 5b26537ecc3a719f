/-! THE INVARIANT behind a constant that was kept -/
def Pco (s own a k : Nat) : Prop := rX a ∨ a = 5 ∨ (a = 4 ∧ k = 13) ∨ pmt a k ∨ (a = 323 + 7 * s + own ∧ k ≠ 8) ∨ (a = 321 + 7 * s ∧ (k = 1 ∨ k = 2)) ∨ (a = 362 ∧ k = s) ∨ ((a = 359 ∨ a = 379 ∨ a = 380) ∧ k = 5 * s + own) ∨ (a = 378 ∧ k = s) ∨ (((352 ≤ a ∧ a ≤ 355) ∨ a = 357) ∧ 48 * (56 + 5 * s + own) ≤ k ∧ k < 48 * (56 + 5 * s + own) + 48) ∨ ((a = 356 ∨ a = 364) ∧ k = 56 + 5 * s + own)
def up1 (f : Nat → Nat) (s v s' : Nat) : Nat := if s' = s then v else f s'
def up2 {α : Type} (f : Nat → Nat → α) (s i : Nat) (v : α) (s' i' : Nat) : α := if s' = s ∧ i' = i then v else f s' i'
section IVC
variable {q q' s own e0 : Nat} {h g : am_H} {nf : Nat} {fe : Nat → Nat} {fX fM : Nat → Int64} {fA : Nat → Nat} {nc : Nat → Nat} {ce : Nat → Nat → Nat} {cX cM : Nat → Nat → Int64} {cd : Nat → Option (Nat × Nat)} {lab : Nat → Option Nat} {x y : Int64}
theorem Inv_constant (hq : q ≤ q') (I : Inv q h) (GG : iG h nf fe fX fM fA nc ce cX cM cd lab) (hs : s < 4) (ho : own < 5) (hown : own = fdI (cX s) x (nc s)) (hxy : NM x y) (K : kp (Pco s own) h g) (S : am_S g) (G : am_Gv g) (M : iM q' g) (t0 : am_I g 5 1 = nI 0) (t1 : am_I g 349 2 = nI 0) (F : iF g) (he0 : h.1 ≤ e0) (k1 : am_R g (323 + 7 * s + own) 3 = some e0) (k2 : am_L g e0 9 = x) (k3 : am_L g 359 (5 * s + own) = y) (k4 : am_I g (323 + 7 * s + own) 0 = nI 0) (k5 : am_I g 379 (5 * s + own) = nI 0) (k6 : am_I g (321 + 7 * s) 1 = nI (max (nc s) (own + 1))) (k7 : am_I g 362 s = nI (max (nc s) (own + 1))) (k8 : am_I g (321 + 7 * s) 2 = nI 1) (k9 : am_I g 378 s = nI 1) (C : ∃ G, CRel g e0 (56 + 5 * s + own) false (1000 + own) (pNC cM s) (pFK nf fA fM) [] G) : Inv q' g := by
  obtain ⟨a1, a2, a3, a4, a5, -, a6, a7, a8, -⟩ := Inv_iff.mp I
  obtain ⟨g1, g2, g3, g4, g5⟩ := GG
  have h4 := a1.1
  have lz : ∀ a, h.1 ≤ a → lab a = none := fun a ha => by
    match hl : lab a with
    | none => rfl
    | some z => have := g5 a z hl; omega
  have hle : own ≤ nc s := by rw [hown]; exact fdI_le
  have C0 := g2 s hs
  have eqX : own < nc s → cX s own = x := fun hlt => by
    have := fdI_at (f := cX s) (x := x) (n := nc s) (by rw [← hown]; exact hlt)
    rw [← hown] at this; exact this
  have eqM : own < nc s → cM s own = y := fun hlt => by
    have h1 := KC_of C0 own hlt
    exact (NM_iff h1 hxy).mp (eqX hlt)
  have ncs : up1 nc s (max (nc s) (own + 1)) s = max (nc s) (own + 1) := if_pos rfl
  have nco : ∀ s', s' ≠ s → up1 nc s (max (nc s) (own + 1)) s' = nc s' := fun s' e => if_neg e
  have oldM : ∀ s' i, i < nc s' → up2 cM s own y s' i = cM s' i := fun s' i hi => by
    unfold up2
    by_cases e : s' = s ∧ i = own
    · rw [if_pos e]; obtain ⟨rfl, rfl⟩ := e; exact (eqM hi).symm
    · rw [if_neg e]
  refine Inv_iff.mpr ⟨S, G, ⟨fun _ => 0, 0, ⟨t0, by decide, fun j hj => absurd hj (Nat.not_lt_zero _)⟩, t1, fun j hj => absurd hj (Nat.not_lt_zero _)⟩, iO_kp K h4 (fun a k hf => by unfold Pco rX pmt; omega) a4, F, M, iD_kp hq K h4 (fun a k hf => by unfold Pco rX pmt; omega) a6, iP_kp K h4 (fun a k hf => by unfold Pco rX pmt; omega) a7, iR_kp K h4 (fun a k hf => by unfold Pco rX pmt; omega) a8, nf, fe, fX, fM, fA, up1 nc s (max (nc s) (own + 1)), up2 ce s own e0, up2 cX s own x, up2 cM s own y, cd, lab, iN_kp K h4 (fun a k hf => ?_) g1, fun s' hs' => ?_, fun c hc => ?_, iS_kp K h4 (fun a k hf => by unfold Pco rX pmt; omega) g4, fun a z hl => Nat.lt_of_lt_of_le (g5 a z hl) K.1⟩
  · unfold Pco rX pmt
    rcases hf with hf | hf | hf | hf | hf | hf | hf | hf | hf
    · omega
    · omega
    · omega
    · omega
    · omega
    · omega
    · have := hf.1; omega
    · omega
    · omega
  · by_cases es : s' = s
    · subst es
      obtain ⟨c1, c2, c3, c4, c5, c6, c7, c8, c9, c10⟩ := C0
      have R := fun a k (ha : a < 402) hp => K.2.2 a k (by omega) (show ¬ Pco s' own a k from hp)
      unfold iC
      rw [ncs]
      refine ⟨by omega, k6, k7, by rw [k8, k9], Or.inr k9, ?_, ?_, ?_, fun q1 => absurd (k9.symm.trans q1) (by decide), fun i hi => ?_⟩
      · rw [(R (321 + 7 * s') 3 (by omega) (by unfold Pco rX pmt; omega)).1, (R 381 s' (by omega) (by unfold Pco rX pmt; omega)).1]; exact c6
      · rw [(R 381 s' (by omega) (by unfold Pco rX pmt; omega)).1]; exact c7
      · rw [(R (321 + 7 * s') 4 (by omega) (by unfold Pco rX pmt; omega)).1, (R 382 s' (by omega) (by unfold Pco rX pmt; omega)).1]; exact c8
      · by_cases ei : i = own
        · subst ei
          rw [show up2 ce s' i e0 s' i = e0 from if_pos ⟨rfl, rfl⟩, show up2 cX s' i x s' i = x from if_pos ⟨rfl, rfl⟩, show up2 cM s' i y s' i = y from if_pos ⟨rfl, rfl⟩]
          obtain ⟨GL, CR⟩ := C
          refine ⟨k1, k2, k3, hxy, fun j hj => lz _ (by omega), ⟨GL, CRel_txt (Nat.le_refl _) (fun q => q) (fun k hk => by unfold pNC; rw [oldM s' k (by omega)]) (fun z _ => rfl) CR⟩, 0, by decide, k4, k5, fun q => absurd q (by decide), fun q => absurd q (by decide), fun q => absurd q (by decide)⟩
        · have hi' : i < nc s' := by omega
          obtain ⟨b1, b2, b3, b4, b5, ⟨GL, b6⟩, st, b7, b8⟩ := c10 i hi'
          rw [show up2 ce s' own e0 s' i = ce s' i from if_neg (fun q => ei q.2), show up2 cX s' own x s' i = cX s' i from if_neg (fun q => ei q.2), oldM s' i hi']
          have c0 := b6
          obtain ⟨D, E, k, m, r, -, -, -, -, -, q6, -, -⟩ := c0
          have q1 := q6.1
          have q2 := q6.2.1
          have Fc := fun k => K.2.2 (ce s' i) k (by omega) (show ¬ Pco s' own (ce s' i) k by unfold Pco rX pmt; omega)
          have O := fun k => R (323 + 7 * s' + i) k (by omega) (by unfold Pco rX pmt; omega)
          have Mm := fun a (ha : a = 359 ∨ a = 379 ∨ a = 380 ∨ a = 383 ∨ a = 384) => R a (5 * s' + i) (by omega) (by unfold Pco rX pmt; omega)
          refine ⟨(O 3).2.2.2.trans b1, ((Fc 9).2.1 (by omega)).trans b2, ((Mm 359 (by omega)).2.1 (by omega)).trans b3, b4, b5, ⟨GL, CRel_txt (Nat.le_refl _) (fun q => q) (fun k hk => by unfold pNC; rw [oldM s' k (by omega)]) (fun z _ => rfl) (CRel_kp K h4 b6 (fun a k h1 h2 h3 => by unfold Pco rX pmt; omega) (fun a k h1 h2 h3 => by unfold Pco rX pmt; omega) (fun a h1 => by unfold Pco rX pmt; omega))⟩, st, b7, ?_⟩
          rw [(Mm 379 (by omega)).1, (Mm 383 (by omega)).2.1 (by omega), (Mm 384 (by omega)).2.2.1 (by omega) (by omega), (Mm 380 (by omega)).1]
          exact iV_eq (fun j => ⟨(O j).1, (O j).2.1 (by omega), (O j).2.2.1 (by omega) (by omega)⟩) b8
    · refine iC_gh (nco s' es) (fun i hi => ⟨if_neg (fun q => es q.1), if_neg (fun q => es q.1), if_neg (fun q => es q.1)⟩) (fun z _ => rfl) (iC_kp K h4 hs' (fun a k hf => ?_) (g2 s' hs'))
      unfold Pco rX pmt
      rcases hf with hf | hf | hf | hf | hf | hf | hf
      · omega
      · omega
      · omega
      · omega
      · have := hf.1; omega
      · omega
      · omega
  · have J := g3 c hc
    refine iE_gh (nc := nc) (cM := cM) ?_ ?_ (fun k hk => oldM _ k hk) (fun z _ => rfl) (iE_kp K h4 hc (fun a k hf => ?_) J)
    · by_cases es : c / 64 = s
      · rw [es, ncs]; omega
      · rw [nco _ es]; exact Nat.le_refl _
    · by_cases es : c / 64 = s
      · rw [es, ncs]; have := C0.1; omega
      · rw [nco _ es]; exact (g2 (c / 64) (by omega)).1
    · obtain ⟨st, -, -, -, -, -, -, -, -, -, j13⟩ := J
      unfold Pco rX pmt
      rcases hf with hf | hf | hf | hf | ⟨e', z, he, hf⟩
      · omega
      · omega
      · omega
      · have := hf.1; omega
      · have hz := (j13 e' z he).2.2.1
        omega
theorem pFm_pFK1 {own : Nat} : pFm 1 0 (lN 0) (fnE 1 0 0 nf (lN 0) fM fA) = pFK nf fA fM := by
  funext z
  unfold pFm fnE pFK
  rw [if_neg (show ¬ 100 + z < 100 by omega), if_neg (fun q => absurd q.1 (by decide)), show 100 + z - 100 = z by omega]
  by_cases c : z / 4 < nf ∧ fA (z / 4) = z % 4
  · rw [if_pos c, if_pos c]
  · rw [if_neg c, if_neg c]; exact ltM_0
end IVC

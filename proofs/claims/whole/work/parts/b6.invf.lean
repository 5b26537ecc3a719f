/-! THE INVARIANT behind a formula that was kept -/
def Pfo (c s a k : Nat) : Prop := rX a ∨ a = 5 ∨ (a = 4 ∧ (k = 13 ∨ k = 11)) ∨ pmt a k ∨ a = 22 + c ∨ ((a = 365 ∨ a = 369 ∨ a = 373 ∨ a = 375 ∨ a = 376) ∧ k = c) ∨ (a = 374 ∧ k = s) ∨ (a = 349 ∧ k = 49) ∨ (((352 ≤ a ∧ a ≤ 355) ∨ a = 357) ∧ 48 * s ≤ k ∧ k < 48 * s + 48) ∨ ((a = 356 ∨ a = 364) ∧ k = s)
section IVF
variable {q q' c s e0 : Nat} {h g : am_H} {nf : Nat} {fe : Nat → Nat} {fX fM : Nat → Int64} {fA : Nat → Nat} {nc : Nat → Nat} {ce : Nat → Nat → Nat} {cX cM : Nat → Nat → Int64} {cd : Nat → Option (Nat × Nat)} {lab : Nat → Option Nat}
theorem iK_up (I : iK q h) : iK (q + 1) h := by
  obtain ⟨⟨i0, ed, e1, e2⟩, r⟩ := I
  exact ⟨⟨i0, ed, by omega, e2⟩, r⟩
theorem Inv_formula (hq : q ≤ q') (I : Inv q h) (GG : iG h nf fe fX fM fA nc ce cX cM cd lab) (hc : c < 256) (hs : s < 48) (K : kp (Pfo c s) h g) (S : am_S g) (G : am_Gv g) (M : iM q' g) (t0 : am_I g 5 1 = nI 0) (t1 : am_I g 349 2 = nI 0) (F : iF g) (he0 : h.1 ≤ e0) (k1 : am_R g (22 + c) 3 = some e0) (k2 : am_I g 369 c = nI s) (k3 : am_I g 374 s = nI 1) (k4 : am_I g (22 + c) 0 = nI 6) (k5 : am_I g 365 c = nI 6) (k6 : am_I g (22 + c) 7 = nI 1) (k7 : am_I g 375 c = nI 1) (k8 : am_I g 376 c = nI 1) (k9 : am_I g (22 + c) 9 = nI 0) (k10 : am_I g 373 c = nI 0) (r1 : ∀ rr, am_R h (22 + c) 8 = some rr → am_R g (22 + c) 8 = some rr) (r2 : am_R h (22 + c) 8 = none → ∃ rr, am_R g (22 + c) 8 = some rr ∧ am_tg g rr = (100, 24) ∧ e0 + 7 ≤ rr ∧ rr < g.1) (C : ∃ L G, CRel g e0 s false (nc (c / 64)) (pNC cM (c / 64)) (pFK nf fA fM) L G) (n1 : am_I g 4 11 = nI (cntF (cdU cd c (some (e0, s))) 256)) (n2 : am_I g 349 49 = nI (cntF (cdU cd c (some (e0, s))) 256)) (n3 : cntF (cdU cd c (some (e0, s))) 256 ≤ 48) (hsl : (∃ e1, cd c = some (e1, s)) ∨ (cd c = none ∧ am_I h 374 s = nI 0)) : Inv q' g := by
  obtain ⟨a1, a2, a3, a4, a5, -, a6, a7, a8, -⟩ := Inv_iff.mp I
  obtain ⟨g1, g2, g3, g4, g5⟩ := GG
  have h4 := a1.1
  obtain ⟨s1, s2, s3, s4, s5, s6⟩ := g4
  obtain ⟨lab', l1, l2, l3, l4⟩ : ∃ lab' : Nat → Option Nat, (∀ a, a < h.1 → lab' a = lab a) ∧ (∀ j, j < 7 → lab' (e0 + j) = none) ∧ (∀ rr, am_R g (22 + c) 8 = some rr → 402 ≤ rr ∧ rr < g.1 ∧ am_tg g rr = (100, 24) ∧ lab' rr = some c) ∧ ∀ a x, lab' a = some x → a < g.1 := by
    have lz : ∀ a, h.1 ≤ a → lab a = none := fun a ha => by
      match hl : lab a with
      | none => rfl
      | some x => have := g5 a x hl; omega
    obtain ⟨st, -, -, -, -, -, -, j7, -, -, -⟩ := g3 c hc
    match hr : am_R h (22 + c) 8 with
    | some rr =>
      obtain ⟨z1, z2, z3, z4⟩ := j7 rr hr
      refine ⟨lab, fun _ _ => rfl, fun j hj => lz _ (by omega), fun rr' hr' => ?_, fun a x hl => Nat.lt_of_lt_of_le (g5 a x hl) K.1⟩
      rw [r1 rr hr] at hr'
      cases hr'
      exact ⟨z1, Nat.lt_of_lt_of_le z2 K.1, (K.2.1 rr z2).trans z3, z4⟩
    | none =>
      obtain ⟨rr, y1, y2, y3, y4⟩ := r2 hr
      refine ⟨fun a => if a = rr then some c else lab a, fun a ha => if_neg (by omega), fun j hj => ?_, fun rr' hr' => ?_, fun a x hl => ?_⟩
      · show (if e0 + j = rr then some c else lab (e0 + j)) = none
        rw [if_neg (by omega)]; exact lz _ (by omega)
      · rw [y1] at hr'
        cases hr'
        exact ⟨by omega, y4, y2, if_pos rfl⟩
      · have hl : (if a = rr then some c else lab a) = some x := hl
        by_cases e : a = rr
        · omega
        · rw [if_neg e] at hl
          exact Nat.lt_of_lt_of_le (g5 a x hl) K.1
  have nosl : ∀ x e', x < 256 → x ≠ c → cd x = some (e', s) → False := fun x e' hx hne he => by
    rcases hsl with ⟨e1, hcd⟩ | ⟨-, h374⟩
    · exact hne (s4 x c e' e1 s hx hc he hcd)
    · obtain ⟨st, -, -, -, -, -, -, -, -, -, j10⟩ := g3 x hx
      have := (j10 e' s he).2.2.2.1
      rw [h374] at this
      exact absurd this (by decide)
  refine Inv_iff.mpr ⟨S, G, ⟨fun _ => 0, 0, ⟨t0, by decide, fun j hj => absurd hj (Nat.not_lt_zero _)⟩, t1, fun j hj => absurd hj (Nat.not_lt_zero _)⟩, iO_kp K h4 (fun a k hf => by unfold Pfo rX pmt; omega) a4, F, M, iD_kp hq K h4 (fun a k hf => by unfold Pfo rX pmt; omega) a6, iP_kp K h4 (fun a k hf => by unfold Pfo rX pmt; omega) a7, iR_kp K h4 (fun a k hf => by unfold Pfo rX pmt; omega) a8, nf, fe, fX, fM, fA, nc, ce, cX, cM, cdU cd c (some (e0, s)), lab', iN_kp K h4 (fun a k hf => ?_) (iN_lab l1 g1), fun s' hs' => iC_kp K h4 hs' (fun a k hf => ?_) (iC_lab l1 (g2 s' hs')), fun x hx => ?_, ⟨n1, n2, n3, fun x x' e e' z h1 h2 h3 h5 => ?_, fun z hz => ?_, fun z hz h1 => ?_⟩, l4⟩
  · unfold Pfo rX pmt
    rcases hf with hf | hf | hf | hf | hf | hf | hf | hf | hf
    · omega
    · omega
    · omega
    · omega
    · omega
    · omega
    · have := hf.1; omega
    · omega
    · omega
  · unfold Pfo rX pmt
    rcases hf with hf | hf | hf | hf | hf | hf | hf
    · omega
    · omega
    · omega
    · omega
    · have := hf.1; omega
    · omega
    · omega
  · by_cases e : x = c
    · subst e
      refine ⟨6, by decide, ⟨k4, k5, fun q => absurd q (by decide), fun q => absurd q (by decide), fun _ q => absurd q (by decide)⟩, fun _ q => absurd q (by decide), by rw [k6, k7], Or.inr k7, ⟨0, Nat.zero_le _, k9, k10, fun rr _ i hi => absurd hi (Nat.not_lt_zero _)⟩, l3, fun _ => k10, fun q => (by rw [cdU_eq] at q; cases q), fun e s' he => ?_⟩
      rw [cdU_eq] at he
      cases he
      refine ⟨k1, k2, hs, k3, by rw [k8, k7], fun _ => k8, ?_, l2, C⟩
      match hr : am_R h (22 + x) 8 with
      | some rr => rw [r1 rr hr]; exact fun q => by cases q
      | none =>
        obtain ⟨rr, y1, -⟩ := r2 hr
        rw [y1]; exact fun q => by cases q
    · have J' := iE_lab l1 (g3 x hx)
      refine iE_cd (cdU_ne e) (iE_kp K h4 hx (fun a k hf => ?_) J')
      obtain ⟨st, -, -, -, -, -, -, -, -, -, j13⟩ := J'
      unfold Pfo rX pmt
      rcases hf with hf | hf | hf | hf | ⟨e', z, he, hf⟩
      · omega
      · omega
      · omega
      · have := hf.1; omega
      · have hz := (j13 e' z he).2.2.1
        have hne : z ≠ s := fun q => nosl x e' hx e (by rw [← q]; exact he)
        omega
  · by_cases q1 : x = c
    · by_cases q2 : x' = c
      · omega
      · rw [q1, cdU_eq] at h3; cases h3
        rw [cdU_ne q2] at h5
        exact (nosl x' e' h2 q2 h5).elim
    · by_cases q2 : x' = c
      · rw [q2, cdU_eq] at h5; cases h5
        rw [cdU_ne q1] at h3
        exact (nosl x e h1 q1 h3).elim
      · rw [cdU_ne q1] at h3; rw [cdU_ne q2] at h5
        exact s4 x x' e e' z h1 h2 h3 h5
  · by_cases q1 : z = s
    · rw [q1]; exact Or.inr k3
    · rw [(K.2.2 374 z (by omega) (by unfold Pfo rX pmt; omega)).1]; exact s5 z hz
  · by_cases q1 : z = s
    · exact ⟨c, e0, hc, by rw [cdU_eq, q1]⟩
    · rw [(K.2.2 374 z (by omega) (by unfold Pfo rX pmt; omega)).1] at h1
      obtain ⟨x, e, hx, he⟩ := s6 z hz h1
      refine ⟨x, e, hx, ?_⟩
      rw [cdU_ne]
      · exact he
      · intro q2
        rw [q2] at he
        rcases hsl with ⟨e1, hcd⟩ | ⟨hcd, -⟩
        · rw [hcd] at he; cases he; exact q1 rfl
        · rw [hcd] at he; cases he
theorem pFm_pFK : pFm 0 0 (lN 0) (fnE 0 0 0 nf (lN 0) fM fA) = pFK nf fA fM := by
  funext z
  unfold pFm fnE pFK
  rw [if_neg (show ¬ 100 + z < 100 by omega), if_neg (fun q => absurd q.1 (by decide)), show 100 + z - 100 = z by omega]
  by_cases c : z / 4 < nf ∧ fA (z / 4) = z % 4
  · rw [if_pos c, if_pos c]
  · rw [if_neg c, if_neg c]; exact ltM_0
theorem PXd_inj {D D' : List (Int32 × Int64)} {P P' : List Int32} {N N' : List Nat} {F F' k k' : Int32} (X : PXd h D P N F k) (Y : PXd h D' P' N' F' k') : D = D' ∧ P = P' ∧ N = N' ∧ F = F' ∧ k = k' := by
  obtain ⟨⟨c1, c2, c3⟩, ⟨p1, p2, p3⟩, ⟨n1, n2, n3, n4, n5⟩, e8, e7⟩ := X
  obtain ⟨⟨c1', c2', c3'⟩, ⟨p1', p2', p3'⟩, ⟨n1', n2', n3', n4', n5'⟩, e8', e7'⟩ := Y
  have lN := nodup_le 256 N n3 n4
  have lN' := nodup_le 256 N' n3' n4'
  have l1 : D.length = D'.length := (nI_eq (by omega) (by omega)).mp (c1.symm.trans c1')
  have l2 : P.length = P'.length := (nI_eq (by omega) (by omega)).mp (p1.symm.trans p1')
  have l3 : N.length = N'.length := (nI_eq (by omega) (by omega)).mp (n1.symm.trans n1')
  refine ⟨?_, ?_, ?_, e8.symm.trans e8', e7.symm.trans e7'⟩
  · apply List.ext_getElem l1
    intro i h1 h2
    have q1 := c3 i D[i] (List.getElem?_eq_getElem h1)
    have q2 := c3' i D'[i] (List.getElem?_eq_getElem h2)
    exact Prod.ext (q1.1.symm.trans q2.1) (q1.2.1.symm.trans q2.2.1)
  · apply List.ext_getElem l2
    intro i h1 h2
    exact (p3 i P[i] (List.getElem?_eq_getElem h1)).1.symm.trans (p3' i P'[i] (List.getElem?_eq_getElem h2)).1
  · apply List.ext_getElem l3
    intro i h1 h2
    have q1 := n2 i N[i] (List.getElem?_eq_getElem h1)
    have q2 := n2' i N'[i] (List.getElem?_eq_getElem h2)
    have b1 := n4 N[i] (List.getElem_mem h1)
    have b2 := n4' N'[i] (List.getElem_mem h2)
    exact (nI_eq (by omega) (by omega)).mp (q1.symm.trans q2)
end IVF

/-! THE INVARIANT: what keeps it -/
section KEE
variable {P : Nat → Nat → Prop} {h g : am_H} {nf : Nat} {fe : Nat → Nat} {fX fM : Nat → Int64} {fA : Nat → Nat} {nc : Nat → Nat} {ce : Nat → Nat → Nat} {cX cM : Nat → Nat → Int64} {cd : Nat → Option (Nat × Nat)} {lab : Nat → Option Nat} {e s c a st : Nat}
theorem CRel_kp {fn : Bool} {kn : Nat} {pN pF : Nat → List Nat} {L : List Nat} {G : List (Nat × Nat)} (K : kp P h g) (h4 : 402 ≤ h.1) (C : CRel h e s fn kn pN pF L G) (h1 : ∀ a k, e ≤ a → a < e + 7 → (a = e → k < 9) → ¬ P a k) (h2 : ∀ a k, (352 ≤ a ∧ a ≤ 355) ∨ a = 357 → 48 * s ≤ k → k < 48 * s + 48 → ¬ P a k) (h3 : ∀ a, a = 356 ∨ a = 364 → ¬ P a s) : CRel g e s fn kn pN pF L G := by
  obtain ⟨D, E, k, m, r, a1, a2, a3, a4, a5, a6, a7, a8⟩ := C
  have ht : ∀ i, i < m → tb g (48 * s) i = tb h (48 * s) i := fun i hi => by
    have q := fun a (ha : (352 ≤ a ∧ a ≤ 355) ∨ a = 357) => K.2.2 a (48 * s + i) (by omega) (h2 a _ ha (by omega) (by omega))
    unfold tb
    rw [(q 352 (by omega)).1, (q 353 (by omega)).1, (q 354 (by omega)).1, (q 355 (by omega)).1, (q 357 (by omega)).2.1 (by omega)]
  refine ⟨D, E, k, m, r, a1, a2, a3, Rp_mono (Nat.le_refl _) ht (Nat.le_refl _) a4, NC_T a5 ht, ?_, ?_, ?_⟩
  · have b2 := a6.2.1
    refine CO_keep a6 K.1 (fun a ha hb => ⟨K.2.1 a (by omega), fun j hj => ?_⟩)
    have q := K.2.2 a j (by omega) (h1 a j ha hb hj)
    have b1 := a6.1
    exact ⟨q.1, q.2.1 (by omega), q.2.2.2⟩
  · rw [(K.2.2 356 s (by omega) (h3 356 (Or.inl rfl))).1]; exact a7
  · rw [(K.2.2 364 s (by omega) (h3 364 (Or.inr rfl))).1]; exact a8
theorem iT_kp (K : kp P h g) (h4 : 402 ≤ h.1) (hP : ∀ a k, (a = 5 ∧ k = 1) ∨ a = 6 ∨ (a = 349 ∧ k = 2) ∨ a = 350 → ¬ P a k) (I : iT h) : iT g := by
  obtain ⟨t, n, ⟨t1, t2, t3⟩, e2, e3⟩ := I
  have R := fun a k (ha : a < 402) hf => (K.2.2 a k (by omega) (hP a k hf)).1
  exact ⟨t, n, ⟨(R 5 1 (by decide) (by omega)).trans t1, t2, fun j hj => ⟨(t3 j hj).1, (t3 j hj).2.1, (R 6 j (by decide) (by omega)).trans (t3 j hj).2.2⟩⟩, (R 349 2 (by decide) (by omega)).trans e2, fun j hj => (R 350 j (by decide) (by omega)).trans (e3 j hj)⟩
theorem iO_kp (K : kp P h g) (h4 : 402 ≤ h.1) (hP : ∀ a k, (a = 7 ∧ k = 1) ∨ a = 8 ∨ (a = 349 ∧ k = 3) ∨ a = 351 → ¬ P a k) (I : iO h) : iO g := by
  obtain ⟨E, e1, e2, e3, e4, e5⟩ := I
  have R := fun a k (ha : a < 402) hf => (K.2.2 a k (by omega) (hP a k hf)).1
  exact ⟨E, e1, e2, (R 7 1 (by decide) (by omega)).trans e3, (R 349 3 (by decide) (by omega)).trans e4, fun i x hx => ⟨(R 8 i (by decide) (by omega)).trans (e5 i x hx).1, (R 351 i (by decide) (by omega)).trans (e5 i x hx).2⟩⟩
theorem iF_kp (K : kp P h g) (h4 : 402 ≤ h.1) (hP : ∀ a k, (a = 4 ∧ k = 13) ∨ (a = 349 ∧ k = 4) ∨ (a = 302 ∧ k = 7) → ¬ P a k) (I : iF h) : iF g := by
  obtain ⟨e1, c, hc, e2⟩ := I
  have R := fun a k (ha : a < 402) hf => (K.2.2 a k (by omega) (hP a k hf)).1
  exact ⟨by rw [R 4 13 (by decide) (by omega), R 349 4 (by decide) (by omega)]; exact e1, c, hc, (R 302 7 (by decide) (by omega)).trans e2⟩
def ffN (lab : Nat → Option Nat) (a k : Nat) : Prop := (a = 4 ∧ k = 10) ∨ (a = 349 ∧ k = 16) ∨ a = 11 ∨ a = 358 ∨ a = 361 ∨ a = 377 ∨ (402 ≤ a ∧ lab a = none) ∨ (((352 ≤ a ∧ a ≤ 355) ∨ a = 357) ∧ 2304 ≤ k ∧ k < 2688) ∨ ((a = 356 ∨ a = 364) ∧ 48 ≤ k ∧ k < 56)
theorem ffN_lab {k : Nat} (h1 : 402 ≤ a) (h2 : lab a = none) : ffN lab a k := Or.inr (Or.inr (Or.inr (Or.inr (Or.inr (Or.inr (Or.inl ⟨h1, h2⟩))))))
theorem iN_kp (K : kp P h g) (h4 : 402 ≤ h.1) (hP : ∀ a k, ffN lab a k → ¬ P a k) (I : iN h nf fe fX fM fA lab) : iN g nf fe fX fM fA lab := by
  obtain ⟨a1, a2, a3, a4, a5, a6⟩ := I
  have R := fun a k (ha : a < 402) hf => K.2.2 a k (by omega) (hP a k hf)
  unfold ffN at R hP
  refine ⟨a1, (R 4 10 (by decide) (by omega)).1.trans a2, (R 349 16 (by decide) (by omega)).1.trans a3, fun i h1 h2 => (R 11 i (by decide) (by omega)).2.2.2.trans (a4 i h1 h2), a5, fun i hi => ?_⟩
  obtain ⟨b1, b2, b3, b4, b5, b6, b7, b8, b9, b10, b11, pN, L, G, b12⟩ := a6 i hi
  have c0 := b12
  obtain ⟨D, E, k, m, r, -, -, -, -, -, q6, -, -⟩ := c0
  have q1 := q6.1
  have q2 := q6.2.1
  have l0 := b11 0 (by decide)
  rw [Nat.add_zero] at l0
  have F := fun k => K.2.2 (fe i) k (by omega) (hP (fe i) k (ffN_lab q1 l0))
  refine ⟨(R 11 i (by decide) (by omega)).2.2.2.trans b1, ((F 9).2.1 (by omega)).trans b2, (F 10).1.trans b3, ((R 358 i (by decide) (by omega)).2.1 (by omega)).trans b4, (R 361 i (by decide) (by omega)).1.trans b5, b6, b7, b8, ?_, ?_, b11, pN, L, G, CRel_kp K h4 b12 (fun a k h1 h2 h3 => ?_) (fun a k h1 h2 h3 => hP a k (by omega)) (fun a h1 => hP a _ (by omega))⟩
  · rw [(F 11).1, (R 377 i (by decide) (by omega)).1]; exact b9
  · rw [(R 377 i (by decide) (by omega)).1]; exact b10
  · have := b11 (a - fe i) (by omega)
    rw [show fe i + (a - fe i) = a by omega] at this
    exact hP a k (ffN_lab (by omega) this)
theorem iV_eq {x : Int32} {y : Int64} {z : UInt64} {k : Int32} (hI : ∀ j, am_I g a j = am_I h a j ∧ am_L g a j = am_L h a j ∧ am_D g a j = am_D h a j) (I : iV h a x y z k st) : iV g a x y z k st := by
  obtain ⟨i1, i2, i3, i4, i5⟩ := I
  exact ⟨(hI 0).1.trans i1, i2, fun q => (hI 1).2.1.trans (i3 q), fun q => ⟨(hI 2).2.2.trans (i4 q).1, (hI 1).2.1.trans (i4 q).2.1, (i4 q).2.2⟩, fun q1 q2 => ⟨(hI 4).1.trans (i5 q1 q2).1, (i5 q1 q2).2⟩⟩
def ffC (lab : Nat → Option Nat) (s a k : Nat) : Prop := a = 321 + 7 * s ∨ (323 + 7 * s ≤ a ∧ a < 328 + 7 * s) ∨ ((a = 362 ∨ a = 378 ∨ a = 381 ∨ a = 382) ∧ k = s) ∨ ((a = 359 ∨ a = 379 ∨ a = 380 ∨ a = 383 ∨ a = 384) ∧ 5 * s ≤ k ∧ k < 5 * s + 5) ∨ (402 ≤ a ∧ lab a = none) ∨ (((352 ≤ a ∧ a ≤ 355) ∨ a = 357) ∧ 48 * (56 + 5 * s) ≤ k ∧ k < 48 * (61 + 5 * s)) ∨ ((a = 356 ∨ a = 364) ∧ 56 + 5 * s ≤ k ∧ k < 61 + 5 * s)
theorem ffC_lab {k : Nat} (h1 : 402 ≤ a) (h2 : lab a = none) : ffC lab s a k := Or.inr (Or.inr (Or.inr (Or.inr (Or.inl ⟨h1, h2⟩))))
theorem iC_kp (K : kp P h g) (h4 : 402 ≤ h.1) (hs : s < 4) (hP : ∀ a k, ffC lab s a k → ¬ P a k) (I : iC h s nf fM fA nc ce cX cM lab) : iC g s nf fM fA nc ce cX cM lab := by
  obtain ⟨a1, a2, a3, a4, a5, a6, a7, a8, a9, a10⟩ := I
  have R := fun a k (ha : a < 402) hf => K.2.2 a k (by omega) (hP a k hf)
  unfold ffC at R hP
  have r1 := fun k => R (321 + 7 * s) k (by omega) (by omega)
  have r2 := fun a (ha : a = 362 ∨ a = 378 ∨ a = 381 ∨ a = 382) => R a s (by omega) (by omega)
  refine ⟨a1, (r1 1).1.trans a2, (r2 362 (by omega)).1.trans a3, ?_, ?_, ?_, ?_, ?_, ?_, fun i hi => ?_⟩
  · rw [(r1 2).1, (r2 378 (by omega)).1]; exact a4
  · rw [(r2 378 (by omega)).1]; exact a5
  · rw [(r1 3).1, (r2 381 (by omega)).1]; exact a6
  · rw [(r2 381 (by omega)).1]; exact a7
  · rw [(r1 4).1, (r2 382 (by omega)).1]; exact a8
  · rw [(r2 378 (by omega)).1, (r2 381 (by omega)).1]
    intro q1 q2 i hi
    rw [(R 379 (5 * s + i) (by omega) (by omega)).1]
    exact a9 q1 q2 i hi
  · obtain ⟨b1, b2, b3, b4, b5, ⟨G, b6⟩, st, b7, b8⟩ := a10 i hi
    have c0 := b6
    obtain ⟨D, E, k, m, r, -, -, -, -, -, q6, -, -⟩ := c0
    have q1 := q6.1
    have q2 := q6.2.1
    have l0 := b5 0 (by decide)
    rw [Nat.add_zero] at l0
    have F := fun k => K.2.2 (ce s i) k (by omega) (hP (ce s i) k (ffC_lab q1 l0))
    have O := fun k => R (323 + 7 * s + i) k (by omega) (by omega)
    have M := fun a (ha : a = 359 ∨ a = 379 ∨ a = 380 ∨ a = 383 ∨ a = 384) => R a (5 * s + i) (by omega) (by omega)
    refine ⟨(O 3).2.2.2.trans b1, ((F 9).2.1 (by omega)).trans b2, ((M 359 (by omega)).2.1 (by omega)).trans b3, b4, b5, ⟨G, CRel_kp K h4 b6 (fun a k h1 h2 h3 => ?_) (fun a k h1 h2 h3 => hP a k (by omega)) (fun a h1 => hP a _ (by omega))⟩, st, b7, ?_⟩
    · have := b5 (a - ce s i) (by omega)
      rw [show ce s i + (a - ce s i) = a by omega] at this
      exact hP a k (ffC_lab (by omega) this)
    · rw [(M 379 (by omega)).1, (M 383 (by omega)).2.1 (by omega), (M 384 (by omega)).2.2.1 (by omega) (by omega), (M 380 (by omega)).1]
      exact iV_eq (fun j => ⟨(O j).1, (O j).2.1 (by omega), (O j).2.2.1 (by omega) (by omega)⟩) b8
def ffE (cd : Nat → Option (Nat × Nat)) (lab : Nat → Option Nat) (c a k : Nat) : Prop := a = 22 + c ∨ ((a = 365 ∨ a = 366 ∨ a = 367 ∨ a = 368 ∨ a = 369 ∨ a = 370 ∨ a = 371 ∨ a = 373 ∨ a = 375 ∨ a = 376) ∧ k = c) ∨ (a = 372 ∧ 24 * c ≤ k ∧ k < 24 * c + 24) ∨ (402 ≤ a ∧ (lab a = none ∨ lab a = some c)) ∨ ∃ e s, cd c = some (e, s) ∧ ((a = 374 ∧ k = s) ∨ (((352 ≤ a ∧ a ≤ 355) ∨ a = 357) ∧ 48 * s ≤ k ∧ k < 48 * s + 48) ∨ ((a = 356 ∨ a = 364) ∧ k = s))
theorem iE_kp (K : kp P h g) (h4 : 402 ≤ h.1) (hc : c < 256) (hP : ∀ a k, ffE cd lab c a k → ¬ P a k) (I : iE h c nf fM fA nc cM cd lab) : iE g c nf fM fA nc cM cd lab := by
  obtain ⟨st, a1, a2, a3, a4, a5, ⟨k, a6, a7, a8, a9⟩, a10, a11, a12, a13⟩ := I
  have R := fun a k (ha : a < 402) hf => K.2.2 a k (by omega) (hP a k hf)
  have O := fun k => R (22 + c) k (by omega) (Or.inl rfl)
  have M := fun a (ha : a = 365 ∨ a = 366 ∨ a = 367 ∨ a = 368 ∨ a = 369 ∨ a = 370 ∨ a = 371 ∨ a = 373 ∨ a = 375 ∨ a = 376) => R a c (by omega) (Or.inr (Or.inl ⟨ha, rfl⟩))
  refine ⟨st, a1, ?_, ?_, ?_, ?_, ⟨k, a6, (O 9).1.trans a7, (M 373 (by omega)).1.trans a8, ?_⟩, ?_, ?_, ?_, ?_⟩
  · rw [(M 365 (by omega)).1, (M 370 (by omega)).2.1 (by omega), (M 371 (by omega)).2.2.1 (by omega) (by omega), (M 366 (by omega)).1]
    exact iV_eq (fun j => ⟨(O j).1, (O j).2.1 (by omega), (O j).2.2.1 (by omega) (by omega)⟩) a2
  · rw [(O 5).1, (O 6).1, (M 367 (by omega)).1, (M 368 (by omega)).1]; exact a3
  · rw [(O 7).1, (M 375 (by omega)).1]; exact a4
  · rw [(M 375 (by omega)).1]; exact a5
  · rw [(O 8).2.2.2]
    intro rr hr i hi
    obtain ⟨z1, z2, z3, z4⟩ := a10 rr hr
    rw [(K.2.2 rr i z2 (hP rr i (Or.inr (Or.inr (Or.inr (Or.inl ⟨z1, Or.inr z4⟩)))))).1, (R 372 (24 * c + i) (by omega) (Or.inr (Or.inr (Or.inl ⟨rfl, by omega, by omega⟩)))).1]
    exact a9 rr hr i hi
  · rw [(O 8).2.2.2]
    intro rr hr
    obtain ⟨z1, z2, z3, z4⟩ := a10 rr hr
    exact ⟨z1, Nat.lt_of_lt_of_le z2 K.1, (K.2.1 rr z2).trans z3, z4⟩
  · rw [(O 8).2.2.2, (M 373 (by omega)).1]; exact a11
  · rw [(O 3).2.2.2, (M 369 (by omega)).1, (M 376 (by omega)).1]; exact a12
  · intro e s he
    obtain ⟨b1, b2, b3, b4, b5, b6, b7, b8, L, G, b9⟩ := a13 e s he
    have X : ∀ a k, ((a = 374 ∧ k = s) ∨ (((352 ≤ a ∧ a ≤ 355) ∨ a = 357) ∧ 48 * s ≤ k ∧ k < 48 * s + 48) ∨ ((a = 356 ∨ a = 364) ∧ k = s)) → ¬ P a k := fun a k q => hP a k (Or.inr (Or.inr (Or.inr (Or.inr ⟨e, s, he, q⟩))))
    rw [(O 3).2.2.2, (O 8).2.2.2, (M 369 (by omega)).1, (M 376 (by omega)).1, (M 375 (by omega)).1]
    refine ⟨b1, b2, b3, ?_, b5, b6, b7, b8, L, G, CRel_kp K h4 b9 (fun a k h1 h2 h3 => ?_) (fun a k h1 h2 h3 => X a k (by omega)) (fun a h1 => X a s (by omega))⟩
    · rw [(K.2.2 374 s (by omega) (X 374 s (by omega))).1]; exact b4
    · have c0 := b9
      obtain ⟨D, E, k', m, r, -, -, -, -, -, q6, -, -⟩ := c0
      have q1 := q6.1
      have := b8 (a - e) (by omega)
      rw [show e + (a - e) = a by omega] at this
      exact hP a k (Or.inr (Or.inr (Or.inr (Or.inl ⟨by omega, Or.inl this⟩))))
theorem iS_kp (K : kp P h g) (h4 : 402 ≤ h.1) (hP : ∀ a k, (a = 4 ∧ k = 11) ∨ (a = 349 ∧ k = 49) ∨ a = 374 → ¬ P a k) (I : iS h cd) : iS g cd := by
  obtain ⟨a1, a2, a3, a4, a5, a6⟩ := I
  have R := fun a k (ha : a < 402) hf => (K.2.2 a k (by omega) (hP a k hf)).1
  refine ⟨(R 4 11 (by decide) (by omega)).trans a1, (R 349 49 (by decide) (by omega)).trans a2, a3, a4, fun s hs => ?_, fun s hs => ?_⟩
  · rw [R 374 s (by decide) (by omega)]; exact a5 s hs
  · rw [R 374 s (by decide) (by omega)]; exact a6 s hs
theorem iD_kp {q q' : Nat} (hq : q ≤ q') (K : kp P h g) (h4 : 402 ≤ h.1) (hP : ∀ a k, (a = 4 ∧ k = 12) ∨ (a = 349 ∧ k = 86) ∨ a = 319 ∨ a = 320 ∨ a = 400 ∨ a = 401 ∨ (323 ≤ a ∧ a < 349 ∧ k = 8) → ¬ P a k) (I : iD q h) : iD q' g := by
  obtain ⟨a0, ed, b1, a1, a2, a3, a4⟩ := I
  have R := fun a k (ha : a < 402) hf => K.2.2 a k (by omega) (hP a k hf)
  refine ⟨fun s i hs hi => (R (323 + 7 * s + i) 8 (by omega) (by omega)).2.2.2.trans (a0 s i hs hi), ed, Nat.le_trans b1 hq, a1, (R 4 12 (by decide) (by omega)).1.trans a2, (R 349 86 (by decide) (by omega)).1.trans a3, fun e c h1 h2 h3 h5 => ?_⟩
  rw [(R 319 _ (by decide) (by omega)).1, (R 400 _ (by decide) (by omega)).1, (R 320 _ (by decide) (by omega)).2.1 (by omega), (R 401 _ (by decide) (by omega)).2.1 (by omega)]
  exact a4 e c h1 h2 h3 h5
theorem iP_kp (K : kp P h g) (h4 : 402 ≤ h.1) (hP : ∀ a k, (a = 311 ∧ k = 11) ∨ (a = 349 ∧ k = 81) ∨ a = 318 ∨ a = 394 → ¬ P a k) (I : iP h) : iP g := by
  obtain ⟨dn, a1, a2, a3, a4⟩ := I
  have R := fun a k (ha : a < 402) hf => (K.2.2 a k (by omega) (hP a k hf)).1
  exact ⟨dn, a1, (R 311 11 (by decide) (by omega)).trans a2, (R 349 81 (by decide) (by omega)).trans a3, fun i hi => by rw [R 318 i (by decide) (by omega), R 394 i (by decide) (by omega)]; exact a4 i hi⟩
end KEE

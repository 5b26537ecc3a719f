/-! A CELL IS TOLD PLAINLY -/
def cdU (cd : Nat → Option (Nat × Nat)) (c : Nat) (y : Option (Nat × Nat)) (x : Nat) : Option (Nat × Nat) := if x = c then y else cd x
section PLA
variable {q : Nat} {h g : am_H} {cd : Nat → Option (Nat × Nat)} {c : Nat} {y : Option (Nat × Nat)}
theorem cdU_eq : cdU cd c y c = y := if_pos rfl
theorem cdU_ne {x : Nat} (hx : x ≠ c) : cdU cd c y x = cd x := if_neg hx
theorem cnt_hi : ∀ n, n ≤ c → cntF (cdU cd c y) n = cntF cd n := by
  intro n
  induction n with
  | zero => intro _; rfl
  | succ n ih =>
    intro hn
    show cntF (cdU cd c y) n + _ = cntF cd n + _
    rw [ih (by omega), cdU_ne (by omega)]
theorem cnt_lo : ∀ n, c < n → cntF (cdU cd c y) n + (if (cd c).isSome then 1 else 0) = cntF cd n + if y.isSome then 1 else 0 := by
  intro n
  induction n with
  | zero => intro hn; omega
  | succ n ih =>
    intro hn
    show cntF (cdU cd c y) n + (if (cdU cd c y n).isSome then 1 else 0) + _ = cntF cd n + (if (cd n).isSome then 1 else 0) + _
    by_cases e : n = c
    · subst e
      rw [cnt_hi n (Nat.le_refl _), cdU_eq]
      omega
    · have := ih (by omega)
      rw [cdU_ne e]
      omega
theorem iE_cd {nf : Nat} {fM : Nat → Int64} {fA : Nat → Nat} {nc : Nat → Nat} {cM : Nat → Nat → Int64} {lab : Nat → Option Nat} {cd' : Nat → Option (Nat × Nat)} (e : cd' c = cd c) (I : iE h c nf fM fA nc cM cd lab) : iE h c nf fM fA nc cM cd' lab := by
  unfold iE at I ⊢
  rw [e]
  exact I
/-- what telling a cell plainly may touch -/
def ppl (h : am_H) (c a k : Nat) : Prop := a = 22 + c ∨ (365 ≤ a ∧ a ≤ 376 ∧ a ≠ 372 ∧ a ≠ 374 ∧ k = c) ∨ (a = 374 ∧ am_I h 369 c = nI k) ∨ (a = 4 ∧ k = 11) ∨ (a = 349 ∧ k = 49)
theorem Inv_plain (I : Inv q h) (hc : c < 256) (K : kp (ppl h c) h g) (S : am_S g) (G : am_Gv g) (M : iM q g) (k1 : am_R g (22 + c) 3 = none) (k2 : am_R g (22 + c) 8 = am_R h (22 + c) 8) (k3 : am_I g (22 + c) 7 = nI 1) (k4 : am_I g 375 c = nI 1) (k5 : am_I g 376 c = nI 0) (k6 : am_I g 369 c = -1) (k7 : am_I g (22 + c) 9 = nI 0) (k8 : am_I g 373 c = nI 0) (k9 : am_R h (22 + c) 3 = none → am_I g 4 11 = am_I h 4 11 ∧ am_I g 349 49 = am_I h 349 49) (k10 : am_R h (22 + c) 3 ≠ none → am_I g 4 11 = am_I h 4 11 - nI 1 ∧ am_I g 349 49 = am_I h 349 49 - nI 1 ∧ ∀ s, am_I h 369 c = nI s → s < 48 → am_I g 374 s = nI 0) (V : ∃ st, st ≤ 2 ∧ iV g (22 + c) (am_I g 365 c) (am_L g 370 c) (am_D g 371 c) (am_I g 366 c) st) : Inv q g := by
  obtain ⟨a1, a2, a3, a4, a5, -, a6, a7, a8, nf, fe, fX, fM, fA, nc, ce, cX, cM, cd, lab, g1, g2, g3, g4, g5⟩ := Inv_iff.mp I
  have h4 := a1.1
  have J := g3 c hc
  obtain ⟨st0, j1, j2, j3, j4, j5, j6, j7, j8, j9, j10⟩ := id J
  obtain ⟨s1, s2, s3, s4, s5, s6⟩ := g4
  refine Inv_iff.mpr ⟨S, G, iT_kp K h4 (fun a k hf => by unfold ppl; omega) a3, iO_kp K h4 (fun a k hf => by unfold ppl; omega) a4, iF_kp K h4 (fun a k hf => by unfold ppl; omega) a5, M, iD_kp (Nat.le_refl q) K h4 (fun a k hf => by unfold ppl; omega) a6, iP_kp K h4 (fun a k hf => by unfold ppl; omega) a7, iR_kp K h4 (fun a k hf => by unfold ppl; omega) a8, nf, fe, fX, fM, fA, nc, ce, cX, cM, cdU cd c none, lab, iN_kp K h4 (fun a k hf => ?_) g1, fun s hs => iC_kp K h4 hs (fun a k hf => ?_) (g2 s hs), fun x hx => ?_, ?_, fun a x hl => Nat.lt_of_lt_of_le (g5 a x hl) K.1⟩
  · unfold ppl
    rcases hf with hf | hf | hf | hf | hf | hf | hf | hf | hf
    · omega
    · omega
    · omega
    · omega
    · omega
    · omega
    · have := hf.1; omega
    · omega
    · omega
  · unfold ppl
    rcases hf with hf | hf | hf | hf | hf | hf | hf
    · omega
    · omega
    · omega
    · omega
    · have := hf.1; omega
    · omega
    · omega
  · by_cases e : x = c
    · subst e
      obtain ⟨st, v1, v2⟩ := V
      refine ⟨st, by omega, v2, fun q1 => by omega, by rw [k3, k4], Or.inr k4, ⟨0, Nat.zero_le _, k7, k8, fun rr _ i hi => absurd hi (Nat.not_lt_zero _)⟩, ?_, fun _ => k8, fun _ => ⟨k1, k6, k5, v1⟩, fun e s he => by rw [cdU_eq] at he; cases he⟩
      rw [k2]
      intro rr hr
      obtain ⟨z1, z2, z3, z4⟩ := j7 rr hr
      exact ⟨z1, Nat.lt_of_lt_of_le z2 K.1, (K.2.1 rr z2).trans z3, z4⟩
    · have J' := g3 x hx
      refine iE_cd (cdU_ne e) (iE_kp K h4 hx (fun a k hf => ?_) J')
      obtain ⟨st, -, -, -, -, -, -, -, -, -, j13⟩ := J'
      unfold ppl
      rcases hf with hf | hf | hf | hf | ⟨e', s, he, hf⟩
      · omega
      · omega
      · omega
      · have := hf.1; omega
      · have hs := (j13 e' s he).2.2.1
        rcases hf with hf | hf | hf
        · obtain ⟨rfl, rfl⟩ := hf
          intro hp
          rcases hp with hp | hp | hp | hp | hp
          · omega
          · omega
          · have hp2 := hp.2
            match hcd : cd c with
            | none =>
              have := (j9 hcd).2.1
              rw [this] at hp2
              exact absurd hp2.symm (nI_nem1 (by omega))
            | some (e2, s2') =>
              obtain ⟨-, z2, z3, -⟩ := j10 e2 s2' hcd
              rw [z2] at hp2
              have := (nI_eq (by omega) (by omega)).mp hp2
              subst this
              exact e (s4 x c e' e2 s2' hx hc he hcd)
          · omega
          · omega
        · omega
        · omega
  · have hcnt := cnt_lo (cd := cd) (c := c) (y := none) 256 hc
    rw [show (if (none : Option (Nat × Nat)).isSome = true then 1 else 0) = 0 from rfl, Nat.add_zero] at hcnt
    match hcd : cd c with
    | none =>
      rw [hcd] at hcnt
      rw [show (if (none : Option (Nat × Nat)).isSome = true then 1 else 0) = 0 from rfl, Nat.add_zero] at hcnt
      obtain ⟨z1, z2, z3, z4⟩ := j9 hcd
      obtain ⟨y1, y2⟩ := k9 z1
      have fl : ∀ s, s < 48 → am_I g 374 s = am_I h 374 s := fun s hs => (K.2.2 374 s (by omega) (fun hp => by
        unfold ppl at hp
        rw [z2] at hp
        have := nI_nem1 (a := s) (by omega)
        rcases hp with hp | hp | hp | hp | hp
        · omega
        · omega
        · exact this hp.2.symm
        · omega
        · omega)).1
      refine ⟨by rw [hcnt, y1]; exact s1, by rw [hcnt, y2]; exact s2, by omega, fun x x' e e' s h1 h2 h3 h5 => ?_, fun s hs => by rw [fl s hs]; exact s5 s hs, fun s hs h1 => ?_⟩
      · by_cases q1 : x = c
        · rw [q1, cdU_eq] at h3; cases h3
        · by_cases q2 : x' = c
          · rw [q2, cdU_eq] at h5; cases h5
          · rw [cdU_ne q1] at h3; rw [cdU_ne q2] at h5
            exact s4 x x' e e' s h1 h2 h3 h5
      · rw [fl s hs] at h1
        obtain ⟨x, e, hx, he⟩ := s6 s hs h1
        refine ⟨x, e, hx, ?_⟩
        rw [cdU_ne]
        · exact he
        · intro q1; rw [q1, hcd] at he; cases he
    | some (e0, s0) =>
      rw [hcd] at hcnt
      rw [show (if (some (e0, s0) : Option (Nat × Nat)).isSome = true then 1 else 0) = 1 from rfl] at hcnt
      obtain ⟨z1, z2, z3, z4, -⟩ := j10 e0 s0 hcd
      obtain ⟨y1, y2, y3⟩ := k10 (by rw [z1]; exact fun q => by cases q)
      have y4 := y3 s0 z2 z3
      have fl : ∀ s, s < 48 → s ≠ s0 → am_I g 374 s = am_I h 374 s := fun s hs hne => (K.2.2 374 s (by omega) (fun hp => by
        unfold ppl at hp
        rw [z2] at hp
        rcases hp with hp | hp | hp | hp | hp
        · omega
        · omega
        · have := (nI_eq (by omega) (by omega)).mp hp.2; omega
        · omega
        · omega)).1
      refine ⟨by rw [y1, s1, nI_sub (by omega)]; congr 1; omega, by rw [y2, s2, nI_sub (by omega)]; congr 1; omega, by omega, fun x x' e e' s h1 h2 h3 h5 => ?_, fun s hs => ?_, fun s hs h1 => ?_⟩
      · by_cases q1 : x = c
        · rw [q1, cdU_eq] at h3; cases h3
        · by_cases q2 : x' = c
          · rw [q2, cdU_eq] at h5; cases h5
          · rw [cdU_ne q1] at h3; rw [cdU_ne q2] at h5
            exact s4 x x' e e' s h1 h2 h3 h5
      · by_cases q1 : s = s0
        · rw [q1]; exact Or.inl y4
        · rw [fl s hs q1]; exact s5 s hs
      · by_cases q1 : s = s0
        · rw [q1, y4] at h1
          exact absurd h1 (by decide)
        · rw [fl s hs q1] at h1
          obtain ⟨x, e, hx, he⟩ := s6 s hs h1
          refine ⟨x, e, hx, ?_⟩
          rw [cdU_ne]
          · exact he
          · intro q2
            rw [q2, hcd] at he
            cases he
            exact q1 rfl
end PLA

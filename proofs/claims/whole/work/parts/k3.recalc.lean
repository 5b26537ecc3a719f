/-! RECALCULATE: as a whole, from two heaps -/
def pXA (mb : Nat → Bool) (ra fe : Nat → Nat) (nf a k : Nat) : Prop := pXC a k ∨ (311 ≤ a ∧ a ≤ 320) ∨ pXl mb ra a k ∨ (22 ≤ a ∧ a < 278 ∧ k = 7) ∨ (k = 11 ∧ ∃ j, j < nf ∧ a = fe j) ∨ (a = 4 ∧ k = 12)
abbrev pMA : Nat → Prop := fun a => a = 349 ∨ (365 ≤ a ∧ a ≤ 368) ∨ (370 ≤ a ∧ a ≤ 373) ∨ (375 ≤ a ∧ a ≤ 401)
/-- what recalculate leaves, class in gx, model in gm; it began from h and h0 -/
def REC (h h0 gx gm : am_H) (nf : Nat) (fe : Nat → Nat) (mb : Nat → Bool) (ra : Nat → Nat) (nc : Nat → Nat) (ed : Nat) : Prop :=
  kp (pXA mb ra fe nf) h gx ∧ am_S gx ∧ am_fr pMA h0 gm ∧ (∀ k, k < 56 → am_I gm 349 k = am_I h0 349 k) ∧
  (∀ s, s < 4 → C2 gx gm s (nc s) ∧ am_I gm 378 s = nI 0) ∧
  (∀ c, c < 256 → E2 gx gm mb (fun _ => false) (fun _ => false) c ∧ am_I gx (22 + c) 7 = nI 0 ∧ am_I gm 375 c = nI 0 ∧ am_I gm 376 c = nI 0) ∧
  ((∀ i, i < nf → am_I gx (fe i) 11 = nI 0) ∧ ∀ j, j < 8 → am_I gm 377 j = nI 0) ∧
  (∃ dn, dn ≤ 48 ∧ am_I gx 311 11 = nI dn ∧ am_I gm 349 81 = nI dn ∧ ∀ i, i < dn → am_I gx 318 i = am_I gm 394 i) ∧
  (∃ (nr : Nat) (st rc cy : Nat → Nat), nr ≤ 48 ∧ am_I gx 311 10 = nI nr ∧ am_I gm 349 82 = nI nr ∧ (∀ i, i ≤ nr → am_I gx 317 i = nI (st i)) ∧ st 0 = 0 ∧ (∀ i, i < nr → st i < st (i + 1)) ∧ st nr ≤ 48 ∧ (∀ j, j < st nr → am_I gx 316 j = nI (rc j) ∧ rc j < 256) ∧ (∀ x, x < 256 → am_I gm 395 x = if cy x = 999 then -1 else nI (cy x)) ∧ (∀ i j, i < nr → st i ≤ j → j + 1 < st (i + 1) → rc j < rc (j + 1)) ∧ (∀ i, i + 1 < nr → rc (st i) < rc (st (i + 1))) ∧ (∀ i x, i < nr → x < 256 → (cy x = rc (st i) ↔ ∃ j, st i ≤ j ∧ j < st (i + 1) ∧ rc j = x)) ∧ ∀ x, x < 256 → cy x ≠ 999 → ∃ i, i < nr ∧ cy x = rc (st i)) ∧
  am_I gx 4 12 = nI (ed + 1) ∧ am_I gm 349 86 = nI (ed + 1) ∧
  (∀ j, ¬ ((ed + 1) % 10 * 256 ≤ j ∧ j < (ed + 1) % 10 * 256 + 256) → am_I gx 319 j = am_I h 319 j ∧ am_L gx 320 j = am_L h 320 j) ∧
  (∀ j, ¬ (256 * (ed % 10) ≤ j ∧ j < 256 * (ed % 10) + 256) → am_I gm 400 j = am_I h0 400 j ∧ am_L gm 401 j = am_L h0 401 j) ∧
  ∀ c, c < 256 → am_I gx 319 ((ed + 1) % 10 * 256 + c) = am_I gm 400 (256 * (ed % 10) + c) ∧ am_L gx 320 ((ed + 1) % 10 * 256 + c) = am_L gm 401 (256 * (ed % 10) + c)
theorem iV_eq7 {h g : am_H} {a st : Nat} {x k : Int32} {y : Int64} {z : UInt64} (hI : ∀ j, j ≠ 7 → am_I g a j = am_I h a j ∧ am_L g a j = am_L h a j ∧ am_D g a j = am_D h a j) (I : iV h a x y z k st) : iV g a x y z k st := by
  obtain ⟨i1, i2, i3, i4, i5⟩ := I
  exact ⟨(hI 0 (by decide)).1.trans i1, i2, fun q => (hI 1 (by decide)).2.1.trans (i3 q), fun q => ⟨(hI 2 (by decide)).2.2.trans (i4 q).1, (hI 1 (by decide)).2.1.trans (i4 q).2.1, (i4 q).2.2⟩, fun q1 q2 => ⟨(hI 4 (by decide)).1.trans (i5 q1 q2).1, (i5 q1 q2).2⟩⟩
theorem E2_eq7 {gx gm gx' gm' : am_H} {mb ch dn : Nat → Bool} {c : Nat} (G : ∀ k, k ≠ 7 → am_I gx' (22 + c) k = am_I gx (22 + c) k ∧ am_L gx' (22 + c) k = am_L gx (22 + c) k ∧ am_D gx' (22 + c) k = am_D gx (22 + c) k) (G8 : am_R gx' (22 + c) 8 = am_R gx (22 + c) 8) (nr : ∀ rr, am_R gx (22 + c) 8 = some rr → ∀ k, k ≠ 11 → am_I gx' rr k = am_I gx rr k) (nr' : ∀ rr, am_R gx (22 + c) 8 = some rr → am_I gx' rr 11 = am_I gx rr 11) (m365 : am_I gm' 365 c = am_I gm 365 c) (m366 : am_I gm' 366 c = am_I gm 366 c) (m367 : am_I gm' 367 c = am_I gm 367 c) (m368 : am_I gm' 368 c = am_I gm 368 c) (m373 : am_I gm' 373 c = am_I gm 373 c) (m372 : ∀ i, am_I gm' 372 (24 * c + i) = am_I gm 372 (24 * c + i)) (m370 : am_L gm' 370 c = am_L gm 370 c) (m371 : am_D gm' 371 c = am_D gm 371 c) (E : E2 gx gm mb ch dn c) : E2 gx' gm' mb ch dn c := by
  obtain ⟨st, e1, e2, e3, ⟨k, k1, k2, k3, k4⟩, en, e5, e6⟩ := E
  refine ⟨st, e1, ?_, ?_, ⟨k, k1, (G 9 (by decide)).1.trans k2, m373.trans k3, fun rr hr i hi => ?_⟩, fun z => (by rw [G8] at z; rw [m373]; exact en z), e5, e6⟩
  · rw [m365, m366, m370, m371]
    exact iV_eq7 G e2
  · rw [(G 5 (by decide)).1, (G 6 (by decide)).1, m367, m368]; exact e3
  · rw [G8] at hr
    rw [m372 i, ← k4 rr hr i hi]
    by_cases z : i = 11
    · subst z; exact nr' rr hr
    · exact nr rr hr i z
section JRC
variable {d e nf ed : Nat} {h h0 : am_H} {tt : Nat → ntT} {rt : Nat → Nat} {pF : Nat → List Nat} {fe : Nat → Nat} {mb : Nat → Bool} {ea ra sl : Nat → Nat} {nl : Nat → List Nat} {nc : Nat → Nat} {ce : Nat → Nat → Nat} {Gf Gc : Nat → List (Nat × Nat)} {Gk : Nat → Nat → List (Nat × Nat)} {ft td tc tl : Nat → Bool}
theorem J_recalc (hd : 1350 ≤ d) (S : am_S h) (FSx : FS h nf fe Gf ft)
    (SHx : ∀ s, s < 4 → SXs h tt rt s (nc s) (ce s) pF fe ∧ CSx h s (nc s) nf (ce s) (Gk s) ∧ am_I h (321 + 7 * s) 2 = bI (tl s))
    (X : XL h tt rt pF fe mb ea ra sl nl nc) (e8 : ∀ c, c < 256 → mb c = true → am_I h (ea c) 8 = (Gc c).foldl gF (nI 0)) (T7 : ∀ y, y < 256 → am_I h (22 + y) 7 = bI (td y))
    (hl : ∀ x y, y ∈ nl x → y < 256) (hm : ∀ x y, y ∈ nl x → x < 256 ∧ mb x = true) (hmb : ∀ x, mb x = true → x < 256) (hG : ∀ c, ∀ z, z ∈ Gc c → z.1 < nf) (n48 : (mL mb 256).length ≤ 48) (inj : ∀ x y, x < 256 → y < 256 → mb x = true → mb y = true → sl x = sl y → x = y)
    (FTm : FT h0 nf Gf ft) (MLm : ML h0 tt rt pF mb sl nl nc Gc nf)
    (SHm : ∀ s, s < 4 → SMs h0 tt rt s (nc s) pF ∧ am_I h0 378 s = bI (tl s) ∧ ∀ k, k < nc s → ∃ m, SLc h0 (56 + 5 * s + k) m (Gk s k))
    (e376 : ∀ c, c < 256 → am_I h0 376 c = bI (tc c)) (e375 : ∀ c, c < 256 → am_I h0 375 c = bI (td c)) (etc : ∀ c, mb c = true → tc c = td c)
    (x4 : ∀ s, s < 4 → am_I h (321 + 7 * s) 4 = am_I h0 382 s)
    (xC : ∀ s, s < 4 → (tl s || orU (fun k => hit (rds Gf nf (fun j => decide (j < nf) && ft j) nf) (Gk s k)) (nc s)) = false → C2 h h0 s (nc s))
    (xE : ∀ ch : Nat → Bool, (∀ c, mb c = true → tc c = true → ch c = true) → ∀ c, c < 256 → E2 h h0 mb ch (fun _ => false) c)
    (e12 : am_I h 4 12 = nI ed) (e86 : am_I h0 349 86 = nI ed) (hed : ed ≤ 1000) :
    ∃ gx gm r, am_run (e + 8) 154 [some (.ref 4), none, none, none, none, none, none] h (some (.int r)) gx ∧ am_run (d + 2) 227 [some (.ref 349), none, none] h0 (some (.int r)) gm ∧ REC h h0 gx gm nf fe mb ra nc ed := by
  have h4 := S.1
  generalize hr : rds Gf nf (fun j => decide (j < nf) && ft j) nf = r at xC
  generalize hb : (fun s => tl s || orU (fun k => hit r (Gk s k)) (nc s)) = b
  have hbs : ∀ s, s < 4 → b s = (tl s || orU (fun k => hit r (Gk s k)) (nc s)) := fun s _ => by rw [← hb]
  have n8 := FSx.1
  have n5 : ∀ s, s < 4 → nc s ≤ 5 := fun s hs => (X.2.2.2.1 s hs).1
  have hGk : ∀ s, s < 4 → ∀ k, k < nc s → ∀ z, z ∈ Gk s k → z.1 < nf := fun s hs k hk => ((SHx s hs).2.1.2.2.2 k hk).2.2.2.2
  -- the class: what is stale
  obtain ⟨sI, rS, BS⟩ := x_stale (d := e + 7) S FSx
  rw [hr] at BS
  -- the model: what has changed
  obtain ⟨m1, ch, rM1, fM1, n1, b1, c1, hch⟩ := m_findChanged (d := d - 460) (tl := tl) (tc := tc) (td := td) (b := b) (Gk := Gk) (nc := nc) MLm.1 FTm n5 hGk hr.symm hbs (fun s hs => (SHm s hs).1.2.2.2.1) (fun s hs => (SHm s hs).2.2) (fun s hs => (SHm s hs).2.1) MLm.2.2.2.1 e376 e375 hm hl
  rw [show d - 460 + 461 = d + 1 by omega] at rM1
  have Sm1 := fr_S fM1 MLm.1
  have ML1 := ML_fr fM1 (fun a ha => by omega) MLm
  -- the model: the cycles
  obtain ⟨wy, hwy⟩ := rt_ex nl
  obtain ⟨m2, rM2, fM2, n2, e82, e395⟩ := m_findCycles (d := d - 461) (rt := wy) Sm1 ML1.2.2.2.1 hl hwy hm inj
  rw [show d - 461 + 462 = d + 1 by omega] at rM2
  have Sm2 := fr_S fM2 Sm1
  have F02 : am_fr (fun a => a = 349 ∨ a = 378 ∨ a = 390 ∨ a = 392 ∨ a = 393 ∨ (395 ≤ a ∧ a ≤ 399)) h0 m2 := fr_trans (fr_mono (fun a ha => by omega) fM1) (fr_mono (fun a ha => by omega) fM2)
  have i02 : ∀ k, k ≠ 83 → k ≠ 82 → am_I m2 349 k = am_I h0 349 k := fun k h1 h2 => (n2 k h1 h2).trans (n1 k h1)
  -- the constants, on both sides
  obtain ⟨g1, m3, chg, rX1, rM3, Bchg, C3, K1, S1, fM3⟩ := J_sheets (d := d) (e := e) (nc := nc) (ce := ce) (Gc := Gk) (tl := tl) (b := b) (v2 := none) hd n8 hbs BS 4 0 h m2 (nI 0) none none none rfl (Nat.zero_le _) S (fun s hs => ⟨n5 s hs, (SHx s hs).1, SMs_fr F02 (fun a ha => by omega) (SHm s hs).1, (SHx s hs).2.1⟩) Sm2 (fun s hs => absurd hs (Nat.not_lt_zero _)) (fun s _ hs => ⟨fun hf => C2_eq (fun _ _ => rfl) (fun _ _ _ => ⟨rfl, rfl, rfl⟩) (fr_rdI F02 (by decide)) (fr_rdI F02 (by decide)) (fun i hi => ⟨fr_rdI F02 (by decide), fr_rdI F02 (by decide), fr_rdL F02 (by decide), fr_rdD F02 (by decide)⟩) (xC s hs (by rw [← hbs s hs]; exact hf)), (SHx s hs).2.2, (x4 s hs).trans (fr_rdI F02 (by decide)).symm, (fr_rdI fM2 (by decide)).trans (b1 s hs)⟩) (SB_ext SB_0 (fun j _ => by simp))
  have K1' : kp (pXA mb ra fe nf) h g1 := kp_mono (fun a k z => Or.inl z) K1
  have nC : ∀ a k, pXC a k → (9 ≤ a ∧ a ≤ 21) ∨ (278 ≤ a ∧ a ≤ 299) ∨ (321 ≤ a ∧ a < 349) := fun a k ⟨s, s4, z⟩ => by unfold pXc at z; omega
  have nC1 : ∀ s, s < 4 → ∀ a k, pXC a k → ¬ (a = 321 + 7 * s ∧ k = 1) := fun s hs a k ⟨s', s4, z⟩ w => by unfold pXc at z; omega
  have nC11 : ∀ a k, pXC a k → a ≠ 11 := fun a k ⟨s', s4, z⟩ w => by unfold pXc at z; omega
  have Xg1 := XL_kpG X K1 S1 (fun a k z => ⟨fun w => by have := nC a k z; omega, nC11 a k z, fun w => by have := nC a k z; omega, fun s hs => nC1 s hs a k z⟩)
  have Cg1 : CDx g1 mb ea nl := fun c hc => ⟨Xg1.2.2.2.2.2.2.1 c hc, fun w => ⟨(Xg1.2.2.1 c hc w).1, (Xg1.2.2.1 c hc w).2.1⟩⟩
  -- the plan is drawn
  obtain ⟨g2, w2, w3, D2, rX2⟩ := x_draw (d := e + 4) S1 Cg1 n48
  have M := MBR_L n48
  have hn : (mL mb 256).length = cnB mb 256 := cnB_mL 256
  generalize hnn : (mL mb 256).length = n at D2 M hn n48
  generalize hmm : (fun i => (mL mb 256).getD i 0) = m at D2 M
  have S2 := fr_S D2.1 S1
  have hW : ∀ i j, i < n → j < n → (wS (lkB nl m) n i j = true ↔ RT nl (m i) (m j)) := fun i j hi hj => wS_RT (fun i j _ _ => decide_eq_true_iff) (fun x y hy => by
    obtain ⟨z1, z2⟩ := hm x y hy
    exact M.2.2.2 x z1 z2) (fun i j hi hj hij => MBR_inj M hi hj hij) hi hj
  obtain ⟨g3, R, F, q, st, rc, rX3, K3, H3, P3⟩ := x_findRings (d := e + 5) (W := wS (lkB nl m) n) S2 M (muE_of hW) ⟨fr_refl, D2.2.1, fun _ => rfl, D2.2.2.2⟩
  have S3 := fr_S K3.1 S2
  have F13 : am_fr plP g1 g3 := fr_trans D2.1 K3.1
  have C3x := CDx_fr F13 (fun a ha => by omega) Cg1
  have T3 : ∀ y, y < 256 → am_I g3 (22 + y) 7 = bI (td y) := fun y hy => by
    rw [fr_rdI F13 (by omega), (K1.2.2 (22 + y) 7 (by omega) (fun z => by have := nC _ _ z; omega)).1]; exact T7 y hy
  have e83 : ∀ c, c < 256 → mb c = true → am_I g3 (ea c) 8 = (Gc c).foldl gF (nI 0) := fun c hc hmc => by
    have y2 := (X.2.2.1 c hc hmc).2.1
    have := y2.1
    have := y2.2.1
    rw [fr_rdI F13 (by omega), (K1.2.2 (ea c) 8 (by omega) (fun z => by have := nC _ _ z; omega)).1]; exact e8 c hc hmc
  obtain ⟨g4, rX4, F34, i34, e11, e9, B8⟩ := x_mark (d := e + 6) (W := wS (lkB nl m) n) (sh := b) (Gc := Gc) S3 M ⟨K3.2.1, K3.2.2.2⟩ C3x hl BS Bchg e83 (fun c z hz => by have := hG c z hz; omega) T3
  have S4 := fr_S F34 S3
  have F14 : am_fr plP g1 g4 := fr_trans F13 (fr_mono (fun a ha => by omega) F34)
  -- what has changed is the same
  have hchm : ∀ x, ch x = true → x < 256 ∧ mb x = true := fun x hx => ⟨((hch x).mp hx).1, ((hch x).mp hx).2.1⟩
  have roo : ∀ c, mb c = true → (rooB td r b Gc nl c = true ↔ roM tc b r Gc c = true ∨ ∃ y, y ∈ nl c ∧ td y = true) := fun c hc => by
    unfold rooB roM
    rw [Bool.or_eq_true, Bool.or_eq_true, Bool.or_eq_true, Bool.or_eq_true, Bool.or_eq_true, List.any_eq_true, etc c hc]
    constructor
    · rintro (z | (z | z) | z)
      · exact Or.inl (Or.inl (Or.inr z))
      · exact Or.inl (Or.inl (Or.inl z))
      · exact Or.inl (Or.inr z)
      · exact Or.inr z
    · rintro (((z | z) | z) | z)
      · exact Or.inr (Or.inl (Or.inl z))
      · exact Or.inl z
      · exact Or.inr (Or.inl (Or.inr z))
      · exact Or.inr (Or.inr z)
  have chE : ∀ i, i < n → chgB n (wS (lkB nl m) n) (fun i => rooB td r b Gc nl (m i)) i = ch (m i) := fun i hi => by
    obtain ⟨x1, x2⟩ := M.2.1 i hi
    rw [Bool.eq_iff_iff, hch]
    unfold chgB
    rw [Bool.or_eq_true, orU_iff, roo _ x2]
    constructor
    · rintro (z | ⟨k, k1, k2⟩)
      · exact ⟨x1, x2, Or.inl z⟩
      · rw [Bool.and_eq_true] at k2
        obtain ⟨y1, y2⟩ := M.2.1 k k1
        exact ⟨x1, x2, Or.inr ⟨m k, (hW i k hi k1).mp k2.1, y2, (roo _ y2).mp k2.2⟩⟩
    · rintro ⟨-, -, z | ⟨y, y1, y2, y3⟩⟩
      · exact Or.inl z
      · obtain ⟨k, k1, rfl⟩ := M.2.2.2 y (hmb y y2) y2
        exact Or.inr ⟨k, k1, by rw [Bool.and_eq_true]; exact ⟨(hW i k hi k1).mpr y1, (roo _ y2).mpr y3⟩⟩
  -- the model: nothing is done yet
  have fM3' : am_fr mcA m2 m3 := fM3.1
  have Sm3 := fr_S fM3' Sm2
  obtain ⟨m4, fM4, z391, rM4⟩ := m_isDone0 (d := d + 2) (h := am_setI m3 349 81 (nI 0)) (v2 := none) Sm3 256 0 (am_setI m3 349 81 (nI 0)) rfl (Nat.zero_le _) fr_refl (fun j hj => absurd hj (Nat.not_lt_zero _))
  have F34m : am_fr (fun a => a = 349 ∨ a = 391) m3 m4 := fr_trans (fr_I fr_refl (Or.inl rfl)) (fr_mono (fun a ha => Or.inr ha) fM4)
  have F24 : am_fr (fun a => a = 349 ∨ a = 372 ∨ a = 373 ∨ (379 ≤ a ∧ a ≤ 389) ∨ a = 391) m2 m4 := fr_trans (fr_mono (fun a ha => by omega) fM3') (fr_mono (fun a ha => by omega) F34m)
  have F04 : am_fr (fun a => a = 349 ∨ a = 372 ∨ a = 373 ∨ (378 ≤ a ∧ a ≤ 393) ∨ (395 ≤ a ∧ a ≤ 399)) h0 m4 := fr_trans (fr_mono (fun a ha => by omega) F02) (fr_mono (fun a ha => by omega) F24)
  have Sm4 := fr_S F04 MLm.1
  have i34m : ∀ k, k ≠ 81 → am_I m4 349 k = am_I m3 349 k := fun k hk => (fr_rdI fM4 (by decide)).trans (rI_k hk)
  have i04 : ∀ k, k < 56 ∨ (70 < k ∧ k ≠ 81 ∧ k ≠ 82 ∧ k ≠ 83) → am_I m4 349 k = am_I h0 349 k := fun k hk => ((i34m k (by omega)).trans (fM3.2.1 k (by omega))).trans (i02 k (by omega) (by omega))
  have ML4 := ML_fr F04 (fun a ha => by omega) MLm
  have C4 : ∀ s, s < 4 → C2 g4 m4 s (nc s) := fun s hs => C2_eq (fun k hk => fr_rdI F14 (by omega)) (fun i hi k => ⟨fr_rdI F14 (by omega), fr_rdL F14 (by omega), fr_rdD F14 (by omega)⟩) (fr_rdI F34m (by decide)) (fr_rdI F34m (by decide)) (fun i hi => ⟨fr_rdI F34m (by decide), fr_rdI F34m (by decide), fr_rdL F34m (by decide), fr_rdD F34m (by decide)⟩) (C3 s hs)
  -- the loop's relation
  have Xg4 := XL_kpG Xg1 (kp_fr (P := fun a _ => plP a) F14 (fun a _ z => z)) S4 (fun a k z => ⟨fun w => by omega, by omega, by omega, fun s hs => by omega⟩)
  have E4 : ∀ c, c < 256 → E2 g4 m4 mb ch (fun _ => false) c := fun c hc => by
    have hE := xE ch (fun c h1 h2 => (hch c).mpr ⟨hmb c h1, h1, Or.inl (Or.inl (by unfold roM; rw [h2]; rfl))⟩) c hc
    have G := fun k => K1.2.2 (22 + c) k (by omega) (fun z => by have := nC _ _ z; omega)
    refine E2_eq (fun k => ⟨?_, ?_, ?_⟩) ?_ (fun rr hrr k => ?_) (fr_rdI F04 (by decide)) (fr_rdI F04 (by decide)) (fr_rdI F04 (by decide)) (fr_rdI F04 (by decide)) ?_ (fun i hi => ?_) (fr_rdL F04 (by decide)) (fr_rdD F04 (by decide)) (fun z => z) hE
    · rw [fr_rdI F14 (by omega)]; exact (G k).1
    · rw [fr_rdL F14 (by omega)]; exact (G k).2.1 (by omega)
    · rw [fr_rdD F14 (by omega)]; exact (G k).2.2.1 (by omega) (by omega)
    · rw [fr_rdR F14]; exact (G 8).2.2.2
    · obtain ⟨z1, z2, -⟩ := X.2.2.2.2.2.2.2 c hc rr hrr
      rw [fr_rdI F14 (by omega)]; exact (K1.2.2 rr k z2 (fun z => by have := nC _ _ z; omega)).1
    · rw [fr_rdI F34m (by decide), fM3.2.2.2 c hc]; exact fr_rdI F02 (by decide)
    · rw [fr_rdI F34m (by decide), fM3.2.2.1 (24 * c + i) (by omega)]; exact fr_rdI F02 (by decide)
  have rfR := RP_R P3
  have oc_q : ∀ i, i < n → (wy (m i) (m i) = true ↔ q i ≠ 999) := fun i hi => ⟨fun z => ring_q M hW hwy P3 hi z, fun z => (ring_cyc M hW hwy hm P3 hi z).2.1⟩
  have cy256 : ∀ x, x < 256 → wy x x = true → cycF wy x < 256 := fun x hx z => by have := (cycF_lt hx z).1; omega
  have JL0 : JL g4 m4 tt rt pF fe mb ea ra sl nl nc Gc nf n m ch (fun x => wy x x) (cycF wy) (fun s => xN (am_I m4 381 s)) (fun s k => if am_I m4 379 (5 * s + k) = nI 1 then .inl (am_L m4 383 (5 * s + k)) else .inr (am_D m4 384 (5 * s + k))) R F q st rc (fun _ => false) 0 (fun _ => 0) := by
    refine ⟨Xg4, ML4, ⟨⟨(i34 7 (by decide)).trans K3.2.1.1, fun i hi => (fr_rdI F34 (by decide)).trans (K3.2.1.2 i hi)⟩, fun a ha => ?_, LBt_ext B8 (fun j _ => ?_), ?_, ⟨(i34 10 (by decide)).trans H3.1, fun k hk => (fr_rdI F34 (by decide)).trans (H3.2.1 k hk), fun k hk => (fr_rdI F34 (by decide)).trans (H3.2.2.1 k hk), fun j hj => (fr_rdI F34 (by decide)).trans (H3.2.2.2 j hj)⟩, e11, fun i hi => absurd hi (Nat.not_lt_zero _)⟩, fun j hj => ⟨?_, ?_, ?_⟩, ?_, fun i hi => absurd hi (Nat.not_lt_zero _), E4, fun s hs => ?_, ?_, fun c z => by cases z⟩
    · rw [fr_rdL F34 (by decide), K3.2.2.1 a]; exact D2.2.2.1 a ha
    · by_cases jn : j < n
      · rw [chE j jn]
      · rw [decide_eq_false jn]; rfl
    · rw [e9]; exact LBt_ext LBt_0 (fun j _ => by rw [Bool.and_false])
    · rw [fr_rdI F24 (by decide), fr_rdI fM2 (by decide)]; exact c1 j hj
    · exact z391 j hj
    · rw [fr_rdI F24 (by decide)]; exact e395 j hj
    · exact (fr_rdI fM4 (by decide)).trans rI_eq
    · obtain ⟨a0, a1, ⟨j, j1, j2⟩, a3, a4⟩ := C4 s hs
      have xj : xN (am_I m4 381 s) = j := by rw [j2]; exact xN_n (by omega)
      show am_I g4 (321 + 7 * s) 3 = nI (xN (am_I m4 381 s)) ∧ am_I m4 381 s = nI (xN (am_I m4 381 s)) ∧ xN (am_I m4 381 s) ≤ 11 ∧ _
      rw [xj]
      refine ⟨a1.trans j2, j2, j1, fun j0 k hk => ?_⟩
      obtain ⟨st', s1, ⟨v1, v2, v3, v4, -⟩, s3⟩ := a4 k hk
      have j0' : j = 0 := xj.symm.trans j0
      rcases s3 (by rw [j2, j0']) with rfl | rfl
      · show csX g4 s k (if _ then _ else _) ∧ csv m4 (5 * s + k) (if _ then _ else _)
        rw [if_pos v2]
        exact ⟨⟨v1, v3 rfl⟩, v2, rfl⟩
      · show csX g4 s k (if _ then _ else _) ∧ csv m4 (5 * s + k) (if _ then _ else _)
        rw [if_neg (fun z => by rw [v2] at z; exact absurd z (by decide))]
        obtain ⟨u1, u2, u3⟩ := v4 rfl
        exact ⟨⟨v1, u1, u3⟩, v2, rfl, u3⟩
    · have : ∀ n, cnB (fun _ => false) n = 0 := by
        intro n
        induction n with
        | zero => rfl
        | succ n ih => unfold cnB; rw [ih]; rfl
      exact this 256
  obtain ⟨g5, m5, dn, cnt, dl, t', v4', v5', v6', w2', c48, rX5, rM5, K5, F5, i5, J5, no⟩ := J_loop (e := e + 1) (d := d) (v1 := some (.int sI)) (v2 := some (.int chg)) hd M hn P3 hl hchm oc_q (fun i hi hq => (ring_cyc M hW hwy hm P3 hi hq).1.symm) cy256 (fun x hx => (hwy x x).mpr (RT_one hx)) 48 0 g4 m4 (fun _ => false) (fun _ => 0) none none none none rfl (Nat.zero_le _) JL0
  obtain ⟨X5, ML5, N5, J54, J55, J56, J57, J58, J59, J510⟩ := J5
  have S5 := X5.1
  have Sm5 := ML5.1
  have alldn := all_done (nl := nl) (ch := ch) (dn := dn) (oc := fun x => wy x x) hl (fun x => hwy x x) no
  have E5 : ∀ c, c < 256 → E2 g5 m5 mb (fun _ => false) (fun _ => false) c := fun c hc => E2_eq (fun _ => ⟨rfl, rfl, rfl⟩) rfl (fun _ _ _ => rfl) rfl rfl rfl rfl rfl (fun _ _ => rfl) rfl rfl (fun z => by
    rw [alldn c hc z.1] at z; cases z.2) (J57 c hc)
  -- what was changed so far
  have K05 : kp (fun a k => pXC a k ∨ (311 ≤ a ∧ a ≤ 318) ∨ pXl mb ra a k) h g5 := kp_trans (kp_mono (fun a k z => Or.inl z) K1) (kp_trans (kp_fr F14 (fun a k z => Or.inr (Or.inl z))) (kp_mono (fun a k z => Or.inr (Or.inr z)) K5))
  have hra : ∀ a k, pXl mb ra a k → a = 11 ∨ a < 9 ∨ (319 ≤ a ∧ a < 402) → False := fun a k z w => by
    rcases z with z | z | z | z | z | z | z | ⟨c, c1, c2, c3⟩
    · omega
    · omega
    · omega
    · omega
    · omega
    · omega
    · omega
    · have := (X.2.2.1 c c1 c2).2.2.2.2.1
      omega
  have R05 := fun a k (ha : a < h.1) hp => K05.2.2 a k ha hp
  have p4 : ∀ k, ¬ (pXC 4 k ∨ (311 ≤ 4 ∧ 4 ≤ 318) ∨ pXl mb ra 4 k) := fun k z => by
    rcases z with z | z | z
    · have := nC _ _ z; omega
    · omega
    · exact hra _ _ z (by omega)
  have p11 : ∀ k, ¬ (pXC 11 k ∨ (311 ≤ 11 ∧ 11 ≤ 318) ∨ pXl mb ra 11 k) := fun k z => by
    rcases z with z | z | z
    · exact nC11 _ _ z rfl
    · omega
    · exact hra _ _ z (by omega)
  have p319 : ∀ a k, a = 319 ∨ a = 320 → ¬ (pXC a k ∨ (311 ≤ a ∧ a ≤ 318) ∨ pXl mb ra a k) := fun a k ha z => by
    rcases z with z | z | z
    · have := nC _ _ z; omega
    · omega
    · exact hra _ _ z (by omega)
  -- the class's end
  obtain ⟨g6, F6, a61, a62, a63, R6⟩ := x_forget1 (d := e + 7) S5 256 0 g5 rfl (Nat.zero_le _) fr_refl (fun _ _ _ => rfl) (fun _ _ => ⟨rfl, rfl⟩) (fun j hj => absurd hj (Nat.not_lt_zero _))
  have S6 := fr_S F6 S5
  have en6 : am_I g6 4 10 = nI nf := (fr_rdI F6 (by decide)).trans ((R05 4 10 (by omega) (p4 10)).1.trans FSx.2.1)
  obtain ⟨g7, F7, a71, a72, a73, R7⟩ := x_forget2 (d := e + 7) (fe := fe) S6 n8 en6 (fun i hi => by
    obtain ⟨z1, z2, z3, -⟩ := FSx.2.2 i hi
    exact ⟨(fr_rdR F6).trans ((R05 11 i (by omega) (p11 i)).2.2.2.trans z1), z2, fr_ob F6 (kp_ob K05 z3)⟩) nf 0 g6 (Nat.sub_zero _) (Nat.zero_le _) fr_refl (fun _ _ _ => rfl) (fun _ _ => ⟨rfl, rfl⟩) (fun j hj => absurd hj (Nat.not_lt_zero _))
  have S7 := fr_S F7 S6
  have i57 : ∀ a k, a < 402 → ¬ (22 ≤ a ∧ a < 278 ∧ k = 7) → am_I g7 a k = am_I g5 a k := fun a k h1 h2 => (fr_rdI F7 (by omega)).trans (a61 a k h2)
  have l57 : ∀ a k, am_L g7 a k = am_L g5 a k ∧ am_D g7 a k = am_D g5 a k := fun a k => ⟨(a72 a k).1.trans (a62 a k).1, (a72 a k).2.trans (a62 a k).2⟩
  have e127 : am_I g7 4 12 = nI ed := (i57 4 12 (by decide) (by omega)).trans ((R05 4 12 (by omega) (p4 12)).1.trans e12)
  obtain ⟨g8, rX8, F8, a81, a82, a83, a84⟩ := x_keepEd (d := e + 6) S7 e127 (by omega) (fun c hc => by
    obtain ⟨st', s1, s2, -⟩ := E5 c hc
    exact ⟨st', s1, (i57 _ 0 (by omega) (by omega)).trans s2.1⟩)
  have S8 := fr_S F8 S7
  have i58 : ∀ a k, a < 402 → a ≠ 4 → a ≠ 319 → a ≠ 320 → ¬ (22 ≤ a ∧ a < 278 ∧ k = 7) → am_I g8 a k = am_I g5 a k := fun a k h1 h2 h3 h5 h6 => (fr_rdI F8 (by omega)).trans (i57 a k h1 h6)
  have l58 : ∀ a k, a ≠ 4 → a ≠ 319 → a ≠ 320 → am_L g8 a k = am_L g5 a k ∧ am_D g8 a k = am_D g5 a k := fun a k h1 h2 h3 => ⟨(fr_rdL F8 (by omega)).trans (l57 a k).1, (fr_rdD F8 (by omega)).trans (l57 a k).2⟩
  have K58 : kp (pXA mb ra fe nf) g5 g8 := by
    refine ⟨by rw [F8.1, F7.1, F6.1]; exact Nat.le_refl _, fun a _ => (fr_tg F8).trans ((fr_tg F7).trans (fr_tg F6)), fun a k ha hp => ?_⟩
    have np7 : ¬ (22 ≤ a ∧ a < 278 ∧ k = 7) := fun z => hp (Or.inr (Or.inr (Or.inr (Or.inl z))))
    have np11 : ¬ (k = 11 ∧ ∃ j, j < nf ∧ a = fe j) := fun z => hp (Or.inr (Or.inr (Or.inr (Or.inr (Or.inl z)))))
    have np4 : ¬ (a = 4 ∧ k = 12) := fun z => hp (Or.inr (Or.inr (Or.inr (Or.inr (Or.inr z)))))
    have np3 : ¬ (311 ≤ a ∧ a ≤ 320) := fun z => hp (Or.inr (Or.inl z))
    have b1 : am_I g7 a k = am_I g5 a k := (a71 a k np11).trans (a61 a k np7)
    by_cases c4 : a = 4
    · subst c4
      obtain ⟨y1, y2, y3⟩ := a81 k
      exact ⟨(y1 (fun z => np4 ⟨rfl, z⟩)).trans b1, fun _ => y2.trans (l57 4 k).1, fun _ _ => y3.trans (l57 4 k).2, (fr_rdR F8).trans ((fr_rdR F7).trans (fr_rdR F6))⟩
    · exact ⟨(fr_rdI F8 (by omega)).trans b1, fun _ => (fr_rdL F8 (by omega)).trans (l57 a k).1, fun _ _ => (fr_rdD F8 (by omega)).trans (l57 a k).2, (fr_rdR F8).trans ((fr_rdR F7).trans (fr_rdR F6))⟩
  -- the model's end
  have m5e86 : am_I m5 349 86 = nI ed := (i5 86 (by omega)).trans ((i04 86 (by omega)).trans e86)
  obtain ⟨m6, F6m, i6, m6e86, a6m, o6m, f377, f378, rM6⟩ := m_endR (d := d - 2) (v1 := some (.int (nI 0))) (v2 := w2') Sm5 m5e86 (by omega) J55 (fun c hc => by
    obtain ⟨st', s1, ⟨v1, v2, v3, v4, v5⟩, -⟩ := E5 c hc
    exact ⟨st', s1, v2, fun z => (v4 z).2.2⟩)
  rw [show d - 2 + 4 = d + 2 by omega] at rM6
  have F56 : am_fr (fun a => a = 349 ∨ meP a) m5 m6 := F6m
  have F46 : am_fr (fun a => a = 349 ∨ mdL a ∨ meP a) m4 m6 := fr_trans (fr_mono (fun a ha => Or.inr (Or.inl ha)) F5) (fr_mono (fun a ha => ha.imp id Or.inr) F56)
  have xsh : ∀ s, s < 4 → ∀ a k, 321 + 7 * s ≤ a → a < 328 + 7 * s → ¬ pXl mb ra a k := fun s hs a k h1 h2 z => hra a k z (by omega)
  refine ⟨g8, m6, nI cnt, fun Q => ?_, fun Q => ?_, kp_trans (kp_mono (fun a k z => by
    rcases z with z | z | z
    · exact Or.inl z
    · exact Or.inr (Or.inl ⟨z.1, by omega⟩)
    · exact Or.inr (Or.inr (Or.inl z))) K05) K58, S8, fr_trans (fr_mono (fun a ha => by omega) F04) (fr_mono (fun a ha => by omega) F46), fun k hk => (i6 k (by omega)).trans ((i5 k (Or.inl hk)).trans (i04 k (Or.inl hk))), fun s hs => ⟨?_, f378 s hs⟩, fun c hc => ⟨?_, ?_, (a6m c hc).1, (a6m c hc).2.1⟩, ⟨fun i hi => ?_, f377⟩, ⟨cnt, c48, ?_, (i6 81 (by decide)).trans J55, fun i hi => ?_⟩, ?_, a82, m6e86, fun j hj => ?_, fun j hj => ?_, fun c hc => ?_⟩
  · have w156 : am_run (e + 7) 156 [some (.ref 4), some (.int sI), none, none, none, none, none] h (some (.int chg)) g1 := fun Q => by
      rw [← rX1 Q]
      simp (disch := first | with_reducible assumption | omega | exact Or.inl rfl | exact Or.inr rfl | exact bI_01 | exact c_cat | exact vt_ref | exact vt_null | rfl | with_reducible repeat (first | assumption | omega | apply S_I | apply S_L | apply S_D | apply ob_I | apply ob_L | apply ob_D | apply ob_R | apply ax_I | apply ax_L | apply ax_D | apply ax_R | apply o303 | apply o307 | apply o302 | apply o301 | apply ax304 | apply ax305 | apply ax306 | apply ax308 | apply ax309 | apply ax310 | apply lt_S | apply ar305 | apply ar308 | apply ar309)) only [g156_0, g156_1, g156_2, g156_3, Option.toList, List.nil_append, List.cons_append, va_rf]
    have w113 : am_run (e + 7) 113 [some (.ref 311), some (.ref 10), none, none] g1 none g3 := fun Q => by
      rw [rX2 Q]
      simp (disch := first | with_reducible assumption | omega | exact Or.inl rfl | exact Or.inr rfl | exact bI_01 | exact c_cat | exact vt_ref | exact vt_null | rfl | with_reducible repeat (first | assumption | omega | apply S_I | apply S_L | apply S_D | apply ob_I | apply ob_L | apply ob_D | apply ob_R | apply ax_I | apply ax_L | apply ax_D | apply ax_R | apply o303 | apply o307 | apply o302 | apply o301 | apply ax304 | apply ax305 | apply ax306 | apply ax308 | apply ax309 | apply ax310 | apply lt_S | apply ar305 | apply ar308 | apply ar309)) only [g113_167, g113_168, g113_171, Option.toList, List.nil_append, List.cons_append, va_rf, rX3 _]
    have w157 : am_run (e + 7) 157 [some (.ref 4), none] g5 none g7 := fun Q => by
      simp (disch := first | with_reducible assumption | omega | exact Or.inl rfl | exact Or.inr rfl | exact bI_01 | exact c_cat | exact vt_ref | exact vt_null | rfl | with_reducible repeat (first | assumption | omega | apply S_I | apply S_L | apply S_D | apply ob_I | apply ob_L | apply ob_D | apply ob_R | apply ax_I | apply ax_L | apply ax_D | apply ax_R | apply o303 | apply o307 | apply o302 | apply o301 | apply ax304 | apply ax305 | apply ax306 | apply ax308 | apply ax309 | apply ax310 | apply lt_S | apply ar305 | apply ar308 | apply ar309)) only [g157_0, g157_1, R6 _, g157_25, g157_26, R7 _, Option.toList, List.nil_append, List.cons_append, va_rf]
    have d8 : am_I g8 311 11 = nI cnt := (i58 311 11 (by decide) (by decide) (by decide) (by decide) (by omega)).trans N5.2.2.2.2.2.1
    simp (disch := first | with_reducible assumption | omega | exact Or.inl rfl | exact Or.inr rfl | exact bI_01 | exact c_cat | exact vt_ref | exact vt_null | rfl | with_reducible repeat (first | assumption | omega | apply S_I | apply S_L | apply S_D | apply ob_I | apply ob_L | apply ob_D | apply ob_R | apply ax_I | apply ax_L | apply ax_D | apply ax_R | apply o303 | apply o307 | apply o302 | apply o301 | apply ax304 | apply ax305 | apply ax306 | apply ax308 | apply ax309 | apply ax310 | apply lt_S | apply ar305 | apply ar308 | apply ar309)) only [g154_0, g154_1, g154_4, g154_5, g154_6, g154_7, g154_10, g154_11, g154_12, g154_15, g154_16, g154_19, g154_22, g154_23, g154_26, g154_27, g154_30, g154_31, g154_32, g154_35, g154_36, Option.toList, List.nil_append, List.cons_append, va_rf, rS _, w156 _, w113 _, rX4 _, rX5 _, g154_163, g154_164, g154_167, g154_168, g154_171, g154_172, g154_175, g154_178, w157 _, rX8 _, d8]
  · have Smm := MLm.1
    simp (disch := first | with_reducible assumption | omega | exact Or.inl rfl | exact Or.inr rfl | exact bI_01 | exact c_cat | exact vt_ref | exact vt_null | rfl | with_reducible repeat (first | assumption | omega | apply S_I | apply S_L | apply S_D | apply ob_I | apply ob_L | apply ob_D | apply ob_R | apply ax_I | apply ax_L | apply ax_D | apply ax_R | apply o303 | apply o307 | apply o302 | apply o301 | apply ax304 | apply ax305 | apply ax306 | apply ax308 | apply ax309 | apply ax310 | apply lt_S | apply ar305 | apply ar308 | apply ar309)) only [g227_0, g227_1, g227_4, g227_5, g227_8, g227_9, Option.toList, List.nil_append, List.cons_append, va_rf, rM1 _, rM2 _, rM3 _, g227_35, g227_36, g227_37, g227_40, g227_41, rM4 _, g227_62, g227_63, rM5 _, rM6 _]
  · refine C2_eq (fun k hk => ?_) (fun i hi k => ?_) ((fr_rdI F46 (by decide))) (fr_rdI F46 (by decide)) (fun i hi => ⟨fr_rdI F46 (by decide), fr_rdI F46 (by decide), fr_rdL F46 (by decide), fr_rdD F46 (by decide)⟩) (C4 s hs)
    · exact (i58 _ k (by omega) (by omega) (by omega) (by omega) (by omega)).trans (K5.2.2 _ k (by have := S4.1; omega) (xsh s hs _ _ (by omega) (by omega))).1
    · have n5s := n5 s hs
      have G := K5.2.2 (323 + 7 * s + i) k (by have := S4.1; omega) (xsh s hs _ _ (by omega) (by omega))
      exact ⟨(i58 _ k (by omega) (by omega) (by omega) (by omega) (by omega)).trans G.1, (l58 _ k (by omega) (by omega) (by omega)).1.trans (G.2.1 (by omega)), (l58 _ k (by omega) (by omega) (by omega)).2.trans (G.2.2.1 (by omega) (by omega))⟩
  · refine E2_eq7 (fun k hk => ⟨i58 _ k (by omega) (by omega) (by omega) (by omega) (by omega), (l58 _ k (by omega) (by omega) (by omega)).1, (l58 _ k (by omega) (by omega) (by omega)).2⟩) ((fr_rdR F8).trans ((fr_rdR F7).trans (fr_rdR F6))) (fun rr hrr k hk => ?_) (fun rr hrr => ?_) (fr_rdI F56 (by decide)) (fr_rdI F56 (by decide)) (fr_rdI F56 (by decide)) (fr_rdI F56 (by decide)) (fr_rdI F56 (by decide)) (fun i => fr_rdI F56 (by decide)) (fr_rdL F56 (by decide)) (fr_rdD F56 (by decide)) (E5 c hc)
    · obtain ⟨z1, z2, -⟩ := X5.2.2.2.2.2.2.2 c hc rr hrr
      exact (fr_rdI F8 (by omega)).trans ((a71 rr k (fun z => hk z.1)).trans (fr_rdI F6 (by omega)))
    · obtain ⟨z1, z2, -, z4⟩ := X5.2.2.2.2.2.2.2 c hc rr hrr
      refine (fr_rdI F8 (by omega)).trans ((a71 rr 11 (fun ⟨_, j, j1, j2⟩ => ?_)).trans (fr_rdI F6 (by omega)))
      have := (kp_ob K05 (FSx.2.2 j j1).2.2.1).2
      rw [← j2, z4] at this
      exact absurd this (by decide)
  · exact (fr_rdI F8 (by omega)).trans ((fr_rdI F7 (by omega)).trans (a63 c hc))
  · have := (FSx.2.2 i hi).2.1
    exact (fr_rdI F8 (by omega)).trans (a73 i hi)
  · exact (i58 311 11 (by decide) (by decide) (by decide) (by decide) (by omega)).trans N5.2.2.2.2.2.1
  · rw [i58 318 i (by decide) (by decide) (by decide) (by decide) (by omega), N5.2.2.2.2.2.2 i hi, fr_rdI F56 (by decide)]
    exact (J56 i hi).symm
  · have rh := N5.2.2.2.2.1
    have i8 : ∀ a k, 311 ≤ a → a ≤ 318 → am_I g8 a k = am_I g5 a k := fun a k h1 h2 => i58 a k (by omega) (by omega) (by omega) (by omega) (by omega)
    have P0 := P3
    obtain ⟨p1, p0, p2, p3, p4', p5, p6, p7, p8, p9⟩ := P3
    have n48' := M.1
    have ne999 : ∀ x, x < 256 → wy x x = true → cycF wy x ≠ 999 := fun x hx z => by have := cy256 x hx z; omega
    have back : ∀ i x, i < R → x < 256 → (∃ j, st i ≤ j ∧ j < st (i + 1) ∧ rc j = x) → cycF wy x = rc (st i) := fun i x hi hx ⟨j, j1, j2, j3⟩ => by
      obtain ⟨k, k1, k2, k3⟩ := p3 i hi j j1 j2
      have hq : q k ≠ 999 := by omega
      have := (ring_cyc M hW hwy hm P0 k1 hq).1
      rw [← j3, k2, this, k3]
    have memb : ∀ x, x < 256 → cycF wy x ≠ 999 → ∃ k, k < n ∧ x = m k ∧ q k ≠ 999 ∧ q k < R ∧ ∃ j, st (q k) ≤ j ∧ j < st (q k + 1) ∧ rc j = x := fun x hx hc9 => by
      have wx : wy x x = true := by
        apply Classical.byContradiction
        intro z
        unfold cycF at hc9
        rw [if_neg z] at hc9
        exact hc9 rfl
      obtain ⟨w, hw⟩ := RT_head ((hwy _ _).mp wx)
      obtain ⟨y1, y2⟩ := hm _ _ hw
      obtain ⟨k, k1, rfl⟩ := M.2.2.2 x y1 y2
      have hq := (oc_q k k1).mp wx
      obtain ⟨h1, h2⟩ := p4' k k1 hq
      exact ⟨k, k1, rfl, hq, h1, h2⟩
    refine ⟨R, st, rc, cycF wy, by omega, (i8 311 10 (by decide) (by decide)).trans rh.1, ?_, fun i hi => (i8 317 i (by decide) (by decide)).trans (rh.2.2.1 i (by
      by_cases z : i = R
      · exact Or.inr ⟨z, rfl⟩
      · exact Or.inl (by omega))), p0, p2, by omega, fun j hj => ?_, fun x hx => ?_, fun i j hi => p5 i hi j, p7, fun i x hi hx => ⟨fun z => ?_, back i x hi hx⟩, fun x hx z => ?_⟩
    · have e1 : am_I m4 349 82 = nI R := by
        rw [i34m 82 (by decide), fM3.2.1 82 (by omega), e82, ring_cnt M hW hwy hm P0]
      exact (i6 82 (by decide)).trans ((i5 82 (by omega)).trans e1)
    · rw [p1] at hj
      obtain ⟨r', r1, r2, r3⟩ := ring_at P0 j hj
      obtain ⟨k, k1, k2, -⟩ := p3 r' r1 j r2 r3
      exact ⟨(i8 316 j (by decide) (by decide)).trans (rh.2.2.2 j hj), by rw [k2]; exact (M.2.1 k k1).1⟩
    · rw [fr_rdI F56 (by decide), (J54 x hx).2.2]
      by_cases z : wy x x = true
      · rw [if_pos z, if_neg (ne999 x hx z)]
      · rw [if_neg z, if_pos]
        unfold cycF
        rw [if_neg z]
    · have c9 : cycF wy x ≠ 999 := by
        obtain ⟨l, l1, l2, l3, -⟩ := p6 i hi
        have := (M.2.1 l l2).1
        rw [z, l3]; omega
      obtain ⟨k, k1, k2, k3, k4, k5⟩ := memb x hx c9
      have e1 := back (q k) x k4 hx k5
      have e2 : q k = i := by
        have lt : ∀ r' r, r < r' → r' < R → rc (st r) < rc (st r') := fun r' r h1 h2 => inc_lt (f := fun r => rc (st r)) (b := R) p7 r' r h1 h2
        rcases Nat.lt_trichotomy (q k) i with w | w | w
        · have := lt i (q k) w hi; omega
        · exact w
        · have := lt (q k) i w k4; omega
      rw [← e2]; exact k5
    · obtain ⟨k, k1, k2, k3, k4, k5⟩ := memb x hx z
      exact ⟨q k, k4, back (q k) x k4 hx k5⟩
  · obtain ⟨z1, z2⟩ := a83 j hj
    rw [z1, z2, i57 319 j (by decide) (by omega), (l57 320 j).1]
    exact ⟨(R05 319 j (by omega) (p319 319 j (Or.inl rfl))).1, (R05 320 j (by omega) (p319 320 j (Or.inr rfl))).2.1 (by decide)⟩
  · obtain ⟨z1, z2⟩ := o6m j hj
    rw [z1, z2, fr_rdI F5 (by decide), fr_rdL F5 (by decide)]
    exact ⟨fr_rdI F04 (by decide), fr_rdL F04 (by decide)⟩
  · obtain ⟨z1, z2⟩ := a84 c hc
    obtain ⟨-, -, z3, z4⟩ := a6m c hc
    rw [z1, z2, z3, z4]
    obtain ⟨st', s1, ⟨v1, v2, v3, v4, v5⟩, -⟩ := E5 c hc
    have g70 : am_I g7 (22 + c) 0 = nI st' := (i57 _ 0 (by omega) (by omega)).trans v1
    refine ⟨g70.trans v2.symm, ?_⟩
    unfold shB shM
    rw [g70, v2, (l57 (22 + c) 1).1]
    by_cases c1 : st' = 1
    · subst c1
      rw [if_pos (Or.inl rfl), if_pos rfl]; exact v3 rfl
    · have n1 : ¬ nI st' = nI 1 := fun z => c1 ((nI_eq (by omega) (by omega)).mp z)
      by_cases c2 : st' = 2
      · subst c2
        rw [if_pos (Or.inr rfl), if_neg n1, if_pos rfl]
        obtain ⟨u1, u2, u3⟩ := v4 rfl
        exact u2
      · have n2 : ¬ nI st' = nI 2 := fun z => c2 ((nI_eq (by omega) (by omega)).mp z)
        rw [if_neg (fun z => z.elim n1 n2), if_neg n1, if_neg n2]
end JRC

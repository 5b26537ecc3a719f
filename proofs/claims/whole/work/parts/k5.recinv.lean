/-! RECALCULATE: the invariant behind it -/
def P02 (mb : Nat → Bool) (ra fe : Nat → Nat) (nf a k : Nat) : Prop := pXA mb ra fe nf a k ∨ (a = 349 ∧ 56 ≤ k) ∨ (365 ≤ a ∧ a ≤ 368) ∨ (370 ≤ a ∧ a ≤ 373) ∨ (375 ≤ a ∧ a ≤ 401)
/-- the part of it that is no code and no list of reads -/
def bXM (a k : Nat) : Prop := a = 9 ∨ (12 ≤ a ∧ a ≤ 15) ∨ (17 ≤ a ∧ a ≤ 21) ∨ (278 ≤ a ∧ a ≤ 299) ∨ (311 ≤ a ∧ a ≤ 320) ∨ (22 ≤ a ∧ a < 278 ∧ k ≠ 3 ∧ k ≠ 8) ∨ (a = 4 ∧ k = 12) ∨ (321 ≤ a ∧ a ≤ 348 ∧ (a % 7 = 6 → 2 ≤ k) ∧ (a % 7 ≠ 6 → k ≠ 3 ∧ k ≠ 8))
section KFI
variable {mb : Nat → Bool} {ra fe : Nat → Nat} {nf a k : Nat}
theorem pXA_b (hp : pXA mb ra fe nf a k) : bXM a k ∨ (∃ c, c < 256 ∧ mb c = true ∧ a = ra c) ∨ (k = 11 ∧ ∃ j, j < nf ∧ a = fe j) := by
  unfold pXA at hp
  rcases hp with ⟨s, hs, hp⟩ | hp | hp | hp | hp | hp
  · unfold pXc at hp
    left
    unfold bXM
    rcases hp with hp | hp | hp | hp | hp | hp
    · omega
    · omega
    · omega
    · omega
    · omega
    · omega
  · left; unfold bXM; omega
  · unfold pXl at hp
    rcases hp with hp | hp | hp | hp | hp | hp | hp | hp
    · left; unfold bXM; omega
    · left; unfold bXM; omega
    · left; unfold bXM; omega
    · left; unfold bXM; omega
    · left; unfold bXM; omega
    · left; unfold bXM; omega
    · left; unfold bXM; omega
    · exact Or.inr (Or.inl hp)
  · left; unfold bXM; omega
  · exact Or.inr (Or.inr hp)
  · left; unfold bXM; omega
theorem P02_lo (hr : ∀ c, c < 256 → mb c = true → 402 ≤ ra c) (hf : ∀ j, j < nf → 402 ≤ fe j) (ha : a < 402) (hp : P02 mb ra fe nf a k) : bXM a k ∨ (a = 349 ∧ 56 ≤ k) ∨ (365 ≤ a ∧ a ≤ 368) ∨ (370 ≤ a ∧ a ≤ 373) ∨ (375 ≤ a ∧ a ≤ 401) := by
  rcases hp with hp | hp
  · rcases pXA_b hp with hp | ⟨c, c1, c2, c3⟩ | ⟨-, j, j1, j2⟩
    · exact Or.inl hp
    · have := hr c c1 c2; omega
    · have := hf j j1; omega
  · exact Or.inr hp
theorem P02_hi (ha : 402 ≤ a) (hr : ∀ c, c < 256 → mb c = true → ra c ≠ a) (hf : k = 11 → ∀ j, j < nf → fe j ≠ a) : ¬ P02 mb ra fe nf a k := fun hp => by
  rcases hp with hp | hp
  · rcases pXA_b hp with hp | ⟨c, c1, c2, c3⟩ | ⟨k1, j, j1, j2⟩
    · unfold bXM at hp; omega
    · exact hr c c1 c2 c3.symm
    · exact hf k1 j j1 j2.symm
  · omega
/-- what belongs to a code stays -/
theorem P02_code {h : am_H} {e s : Nat} {fn : Bool} {kn : Nat} {pN pF : Nat → List Nat} {L : List Nat} {G : List (Nat × Nat)} {lab : Nat → Option Nat} (C : CRel h e s fn kn pN pF L G) (hl : ∀ j, j < 7 → lab (e + j) = none) (hr : ∀ c, c < 256 → mb c = true → lab (ra c) = some c) (hf : ∀ j, j < nf → am_tg h (fe j) = (1, 0)) : ∀ a k, e ≤ a → a < e + 7 → (a = e → k < 9) → ¬ P02 mb ra fe nf a k := by
  obtain ⟨D, E, k, m, r, a1, a2, a3, a4, a5, C, a7, a8⟩ := C
  obtain ⟨q1, q2, t0, t1, t2, t3, t4, t5, t6, -⟩ := C
  intro a k h1 h2 h3
  refine P02_hi (by omega) (fun c c1 c2 z => ?_) (fun k11 j hj z => ?_)
  · have := hr c c1 c2
    rw [z, show a = e + (a - e) by omega, hl (a - e) (by omega)] at this
    cases this
  · have T := hf j hj
    rw [z] at T
    have : a = e ∨ a = e + 1 ∨ a = e + 2 ∨ a = e + 3 ∨ a = e + 4 ∨ a = e + 5 ∨ a = e + 6 := by omega
    rcases this with w | w | w | w | w | w | w
    · have := h3 w; omega
    · rw [w, t1] at T; exact absurd (show (101 : Nat) = 1 from congrArg Prod.fst T) (by decide)
    · rw [w, t2] at T; exact absurd (show (103 : Nat) = 1 from congrArg Prod.fst T) (by decide)
    · rw [w, t3] at T; exact absurd (show (101 : Nat) = 1 from congrArg Prod.fst T) (by decide)
    · rw [w, t4] at T; exact absurd (show (10 : Nat) = 1 from congrArg Prod.fst T) (by decide)
    · rw [w, t5] at T; exact absurd (show (103 : Nat) = 1 from congrArg Prod.fst T) (by decide)
    · rw [w, t6] at T; exact absurd (show (100 : Nat) = 1 from congrArg Prod.fst T) (by decide)
end KFI
section ORC
variable {q d e : Nat} {h : am_H}
theorem o_recalculate (hd : 1350 ≤ d) (hq : q < 1000) (I : Inv q h) : ∃ r h1 h2, am_run (e + 8) 154 [some (.ref 4), none, none, none, none, none, none] h (some (.int r)) h1 ∧ am_run (d + 2) 227 [some (.ref 349), none, none] h1 (some (.int r)) h2 ∧ Inv (q + 1) h2 := by
  obtain ⟨S, Gv, iT0, iO0, iF0, ⟨iHh, ed, edq, ed1, e12, e86, eds⟩, iP0, iR0, iM0, nf, fe, fX, fM, fA, nc, ce, cX, cM, cd, lab, GG⟩ := I
  have RC := R_ctx (e := e) (d := d) hd S iHh e12 e86 ed1 GG
  obtain ⟨⟨n8, f10, f16, none8, finj, fn⟩, iC', iE', iS', iLab⟩ := GG
  have h4 := S.1
  have mbT : ∀ c, (decide (c < 256) && (cd c).isSome) = true → ∃ e s, cd c = some (e, s) := fun c hc => by
    rw [Bool.and_eq_true] at hc
    obtain ⟨⟨e, s⟩, hp⟩ := Option.isSome_iff_exists.mp hc.2
    exact ⟨e, s, hp⟩
  have raE : ∀ c, c < 256 → (fun c => decide (c < 256) && (cd c).isSome) c = true → 402 ≤ (fun c => (am_R h (22 + c) 8).getD 0) c ∧ lab ((fun c => (am_R h (22 + c) 8).getD 0) c) = some c := fun c hc hb => by
    obtain ⟨e, s, hcd⟩ := mbT c hb
    obtain ⟨st, -, -, -, -, -, -, a10, -, -, a13⟩ := iE' c hc
    obtain ⟨-, -, -, -, -, -, b7, -⟩ := a13 e s hcd
    cases hr : am_R h (22 + c) 8 with
    | none => exact absurd hr b7
    | some rr =>
      obtain ⟨w1, -, -, w4⟩ := a10 rr hr
      dsimp only
      rw [hr]
      exact ⟨w1, w4⟩
  have feE : ∀ j, j < nf → 402 ≤ fe j ∧ fe j < h.1 ∧ am_tg h (fe j) = (1, 0) ∧ lab (fe j) = none := fun j hj => by
    obtain ⟨-, -, -, -, -, -, -, -, -, -, b11, pN, L, G, D, E, k, m, r, -, -, -, -, -, ⟨q1, q2, t0, -⟩, -⟩ := fn j hj
    exact ⟨q1, by omega, t0, b11 0 (by decide)⟩
  obtain ⟨gx, g0, r, RX, -, KX, SX, -⟩ := RC h ⟨S, fun _ _ _ _ => ⟨rfl, fun _ => rfl, fun _ _ => rfl⟩⟩
  obtain ⟨z1, z2⟩ := am_run_na (by decide) RX
  have lo : ∀ a k, a < 402 → P02 (fun c => decide (c < 256) && (cd c).isSome) (fun c => (am_R h (22 + c) 8).getD 0) fe nf a k → _ := fun a k ha hp => P02_lo (fun c c1 c2 => (raE c c1 c2).1) (fun j hj => (feE j hj).1) ha hp
  have HM : HMo h gx := ⟨SX, fun a b1 b2 k => by
    have := KX.2.2 a k (by omega) (fun hp => by
      have := lo a k (by omega) (Or.inl hp)
      rcases pXA_b hp with hp | ⟨c, c1, c2, c3⟩ | ⟨-, j, j1, j2⟩
      · unfold bXM at hp; omega
      · have : 402 ≤ (am_R h (22 + c) 8).getD 0 := (raE c c1 c2).1
        omega
      · have := (feE j j1).1; omega)
    exact ⟨this.1, this.2.1, this.2.2.1⟩⟩
  obtain ⟨gx', gm, r', RX', RM, -, -, FM, m56, C2s, E2s, tF, ⟨dn, d1, d2, d3, d4⟩, ⟨nr, st, rc, cy, p1, p2, p3, p4, p5, p6, p7, p8, p9⟩, e12', e86', edx, edm, edn⟩ := RC gx HM
  obtain ⟨y1, y2⟩ := am_run_fun RX RX'
  cases y1
  subst y2
  have hic : ∀ a, 402 ≤ a → ∀ k, am_I gm a k = am_I gx a k ∧ am_L gm a k = am_L gx a k ∧ am_D gm a k = am_D gx a k := fun a ha k => FM.2.2.2.2 a (by omega) k
  have cl : ∀ a, a < 349 → ∀ k, am_I gm a k = am_I gx a k ∧ am_L gm a k = am_L gx a k ∧ am_D gm a k = am_D gx a k := fun a ha k => FM.2.2.2.2 a (by omega) k
  have K : kp (P02 (fun c => decide (c < 256) && (cd c).isSome) (fun c => (am_R h (22 + c) 8).getD 0) fe nf) h gm := kp_trans (kp_mono (fun _ _ z => Or.inl z) KX) (kp_349 FM (fun a k h1 h2 => Or.inr (by omega)) (fun k hk => m56 k (by
    apply Classical.byContradiction
    intro z
    exact hk (Or.inr (by omega)))))
  have nb : ∀ a k, a < 402 → ¬ (bXM a k ∨ (a = 349 ∧ 56 ≤ k) ∨ (365 ≤ a ∧ a ≤ 368) ∨ (370 ≤ a ∧ a ≤ 373) ∨ (375 ≤ a ∧ a ≤ 401)) → am_I gm a k = am_I h a k ∧ (a ≠ 349 → am_L gm a k = am_L h a k) ∧ (a ≠ 349 → a < 352 ∨ 357 < a → am_D gm a k = am_D h a k) ∧ am_R gm a k = am_R h a k := fun a k ha hn => K.2.2 a k (by omega) (fun hp => hn (lo a k ha hp))
  unfold bXM at nb
  have lo' : ∀ a k, a < 402 → P02 (fun c => decide (c < 256) && (cd c).isSome) (fun c => (am_R h (22 + c) 8).getD 0) fe nf a k → _ := lo
  unfold bXM at lo'
  have code : ∀ {e s : Nat} {fn : Bool} {kn : Nat} {pN pF : Nat → List Nat} {L : List Nat} {G : List (Nat × Nat)}, CRel h e s fn kn pN pF L G → (∀ j, j < 7 → lab (e + j) = none) → CRel gm e s fn kn pN pF L G := fun C hl => CRel_kp K h4 C (P02_code C hl (fun c c1 c2 => (raE c c1 c2).2) (fun j hj => (feE j hj).2.2.1)) (fun a k ha _ _ hp => by have := lo' a k (by omega) hp; omega) (fun a ha hp => by have := lo' a _ (by omega) hp; omega)
  have own : ∀ a k, 402 ≤ a → a < h.1 → lab a = none → k ≠ 11 → am_I gm a k = am_I h a k ∧ am_L gm a k = am_L h a k := fun a k ha hb hl hk => by
    have := K.2.2 a k hb (P02_hi ha (fun c c1 c2 z => by
      have := (raE c c1 c2).2
      dsimp only at z this
      rw [z, hl] at this
      cases this) (fun z => absurd z hk))
    exact ⟨this.1, this.2.1 (by omega)⟩
  refine ⟨r, gx, gm, RX, RM, fr_S FM SX, ?_, iT_kp K h4 (fun a k hf hp => by have := lo' a k (by omega) hp; omega) iT0, iO_kp K h4 (fun a k hf hp => by have := lo' a k (by omega) hp; omega) iO0, iF_kp K h4 (fun a k hf hp => by have := lo' a k (by omega) hp; omega) iF0, ⟨fun s i hs hi => ?_, ed + 1, by omega, by omega, (cl 4 (by decide) 12).1.trans e12', e86', fun e c h1 h2 h3 hc => ?_⟩, ⟨dn, d1, (cl 311 (by decide) 11).1.trans d2, d3, fun i hi => (cl 318 (by decide) i).1.trans (d4 i hi)⟩, ⟨nr, st, rc, cy, p1, (cl 311 (by decide) 10).1.trans p2, p3, fun i hi => (cl 317 (by decide) i).1.trans (p4 i hi), p5, p6, p7, fun j hj => ⟨(cl 316 (by decide) j).1.trans (p8 j hj).1, (p8 j hj).2⟩, p9⟩, ?_, nf, fe, fX, fM, fA, nc, ce, cX, cM, cd, lab, ⟨n8, (nb 4 10 (by decide) (by omega)).1.trans f10, (nb 349 16 (by decide) (by omega)).1.trans f16, fun i h1 h2 => (nb 11 i (by decide) (by omega)).2.2.2.trans (none8 i h1 h2), finj, fun i hi => ?_⟩, fun s hs => ?_, fun c hc => ?_, iS_kp K h4 (fun a k hf hp => by have := lo' a k (by omega) hp; omega) iS', fun a c hl => ?_⟩
  · obtain ⟨a1, a2, a3, a4, a5, a6, a7⟩ := Gv
    exact ⟨(K.2.1 1 (by omega)).trans a1, fun j hj => ((nb 1 j (by decide) (by omega)).2.1 (by decide)).trans (a2 j hj), (K.2.1 2 (by omega)).trans a3, (nb 2 0 (by decide) (by omega)).2.2.2.trans a4, (nb 2 1 (by decide) (by omega)).1.trans a5, (K.2.1 3 (by omega)).trans a6, fun j hj => (nb 3 j (by decide) (by omega)).1.trans (a7 j hj)⟩
  · exact (nb (323 + 7 * s + i) 8 (by omega) (by omega)).2.2.2.trans (iHh s i hs hi)
  · by_cases he : e = ed + 1
    · subst he
      rw [(cl 319 (by decide) _).1, (cl 320 (by decide) _).2.1]
      exact edn c hc
    · obtain ⟨x1, x2⟩ := edx (e % 10 * 256 + c) (by omega)
      obtain ⟨x3, x4⟩ := edm (256 * ((e - 1) % 10) + c) (by omega)
      have := HM.2 400 (by decide) (by decide) (256 * ((e - 1) % 10) + c)
      have w := HM.2 401 (by decide) (by decide) (256 * ((e - 1) % 10) + c)
      rw [(cl 319 (by decide) _).1, (cl 320 (by decide) _).2.1, x1, x2, x3, x4, this.1, w.2.1 (by decide)]
      exact eds e c h1 (by omega) (by omega) hc
  · unfold iM at iM0 ⊢
    rw [FM.1, FM.2.1, z1, z2]
    omega
  · obtain ⟨b1, b2, b3, b4, b5, b6, b7, b8, b9, b10, b11, pN, L, G, hC⟩ := fn i hi
    obtain ⟨w1, w2, w3, w4⟩ := feE i hi
    have f0 : am_I gm (fe i) 11 = nI 0 := (hic _ w1 11).1.trans (tF.1 i hi)
    have m0 : am_I gm 377 i = nI 0 := tF.2 i (by omega)
    exact ⟨(nb 11 i (by decide) (by omega)).2.2.2.trans b1, (own _ 9 w1 w2 w4 (by decide)).2.trans b2, (own _ 10 w1 w2 w4 (by decide)).1.trans b3, ((nb 358 i (by decide) (by omega)).2.1 (by decide)).trans b4, (nb 361 i (by decide) (by omega)).1.trans b5, b6, b7, b8, f0.trans m0.symm, Or.inl m0, b11, pN, L, G, code hC b11⟩
  · obtain ⟨c1, c2, c3, c4, c5, c6, c7, c8, c9, c10⟩ := iC' s hs
    obtain ⟨CC, t0⟩ := C2s s hs
    obtain ⟨u0, u1, u2, u3, u4⟩ : C2 gm gm s (nc s) := C2_eq (fun k _ => (cl _ (by omega) k).1) (fun i hi k => cl _ (by omega) k) rfl rfl (fun _ _ => ⟨rfl, rfl, rfl, rfl⟩) CC
    refine ⟨c1, (nb (321 + 7 * s) 1 (by omega) (by omega)).1.trans c2, (nb 362 s (by decide) (by omega)).1.trans c3, u0.trans t0.symm, Or.inl t0, u1, u2, u3, fun _ z i hi => ?_, fun i hi => ?_⟩
    · obtain ⟨x, x1, x2, x3⟩ := u4 i hi
      rw [x2.2.1]
      rcases x3 z with x3 | x3
      · exact Or.inl (by rw [x3])
      · exact Or.inr (by rw [x3])
    · obtain ⟨b1, b2, b3, b4, b5, ⟨G, hC⟩, -⟩ := c10 i hi
      obtain ⟨x, x1, x2, x3⟩ := u4 i hi
      have w : 402 ≤ ce s i ∧ ce s i < h.1 := by
        obtain ⟨D, E, k, m, r, -, -, -, -, -, ⟨q1, q2, -⟩, -⟩ := hC
        omega
      exact ⟨(nb (323 + 7 * s + i) 3 (by omega) (by omega)).2.2.2.trans b1, (own _ 9 w.1 w.2 (b5 0 (by decide)) (by decide)).2.trans b2, ((nb 359 _ (by decide) (by omega)).2.1 (by decide)).trans b3, b4, b5, ⟨G, code hC b5⟩, x, x1, x2⟩
  · obtain ⟨st0, a1, a2, a3, a4, a5, -, a10, a11, a12, a13⟩ := iE' c hc
    obtain ⟨EE, t7, t375, t376⟩ := E2s c hc
    have R8 : am_R gm (22 + c) 8 = am_R h (22 + c) 8 := (nb (22 + c) 8 (by omega) (by omega)).2.2.2
    have R3 : am_R gm (22 + c) 3 = am_R h (22 + c) 3 := (nb (22 + c) 3 (by omega) (by omega)).2.2.2
    have RR : am_R gm = am_R gx := FM.2.2.2.1
    have I369 := (nb 369 c (by decide) (by omega)).1
    obtain ⟨x, x1, x2, x3, x4, x5, x6, x7⟩ : E2 gm gm (fun c => decide (c < 256) && (cd c).isSome) (fun _ => false) (fun _ => false) c := E2_eq (fun k => cl _ (by omega) k) (by rw [RR]) (fun rr hr k => (hic rr (by
      rw [← RR, R8] at hr
      exact (a10 rr hr).1) k).1) rfl rfl rfl rfl rfl (fun _ _ => rfl) rfl rfl (fun z => z) EE
    refine ⟨x, x1, x2, x3, ((cl _ (by omega) 7).1.trans t7).trans t375.symm, Or.inl t375, x4, fun rr hr => ?_, x5, fun hcd => ?_, fun e s hcd => ?_⟩
    · rw [R8] at hr
      obtain ⟨w1, w2, w3, w4⟩ := a10 rr hr
      exact ⟨w1, Nat.lt_of_lt_of_le w2 K.1, (K.2.1 rr w2).trans w3, w4⟩
    · obtain ⟨b1, b2, b3, b4⟩ := a12 hcd
      exact ⟨R3.trans b1, I369.trans b2, t376, x6 (by dsimp only; rw [hcd]; cases decide (c < 256) <;> rfl)⟩
    · obtain ⟨b1, b2, b3, b4, b5, b6, b7, b8, L, G, hC⟩ := a13 e s hcd
      exact ⟨R3.trans b1, I369.trans b2, b3, (nb 374 s (by decide) (by omega)).1.trans b4, t376.trans t375.symm, fun z => (by cases (x7 z).1), by rw [R8]; exact b7, b8, L, G, code hC b8⟩
  · exact Nat.lt_of_lt_of_le (iLab a c hl) K.1
end ORC

/-! RECALCULATE: what the invariant gives -/
/-- the model's part is as it was -/
def HMo (h h0 : am_H) : Prop := am_S h0 ∧ ∀ a, 349 ≤ a → a ≤ 401 → ∀ k, am_I h0 a k = am_I h a k ∧ (a ≠ 349 → am_L h0 a k = am_L h a k) ∧ (a ≠ 349 → a < 352 ∨ 357 < a → am_D h0 a k = am_D h a k)
section CTX
variable {h h0 : am_H} {e s : Nat} {fn : Bool} {kn : Nat} {pN pF : Nat → List Nat} {L : List Nat} {G : List (Nat × Nat)}
theorem tbM (H : HMo h h0) : (fun s => tb h0 (48 * s)) = (fun s => tb h (48 * s)) := by
  funext s n
  unfold tb
  rw [(H.2 352 (by decide) (by decide) _).1, (H.2 353 (by decide) (by decide) _).1, (H.2 354 (by decide) (by decide) _).1, (H.2 355 (by decide) (by decide) _).1, (H.2 357 (by decide) (by decide) _).2.1 (by decide)]
theorem slc_of (C : CRel h e s fn kn pN pF L G) (hs : s < 77) (H : HMo h h0) : ∃ m, SLc h0 s m G := by
  obtain ⟨D, E, k, m, r, a1, a2, a3, a4, a5, a6, a7, a8⟩ := C
  have et := congrFun (tbM H) s
  have et : tb h0 (48 * s) = tb h (48 * s) := et
  refine ⟨m, hs, by omega, ((H.2 364 (by decide) (by decide) s).1).trans a8, by rw [et]; exact a5, fun y hy => ?_⟩
  obtain ⟨b1, b2, b3, b4, b5⟩ := Rp_G _ _ _ _ _ _ a4 y hy
  exact ⟨b3, by rw [et]; exact b5⟩
theorem pFK_lt {nf g v : Nat} {fA : Nat → Nat} {fM : Nat → Int64} (h1 : 1 ≤ v) (h3 : v ≤ 3) (hp : pFK nf fA fM (4 * g + v) ≠ []) : g < nf ∧ fA g = v := by
  unfold pFK at hp
  by_cases c : (4 * g + v) / 4 < nf ∧ fA ((4 * g + v) / 4) = (4 * g + v) % 4
  · rw [show (4 * g + v) / 4 = g by omega, show (4 * g + v) % 4 = v by omega] at c
    exact c
  · rw [if_neg c] at hp
    exact absurd rfl hp
theorem G_lt {nf : Nat} {fA : Nat → Nat} {fM : Nat → Int64} (C : CRel h e s fn kn pN (pFK nf fA fM) L G) : ∀ z, z ∈ G → z.1 < nf := fun z hz => by
  obtain ⟨D, E, k, m, r, a1, a2, a3, a4, -⟩ := C
  obtain ⟨b1, b2, b3, b4, -⟩ := Rp_G _ _ _ _ _ _ a4 z hz
  exact (pFK_lt b1 b2 b4).1
theorem CN_of (C : CRel h e s fn kn pN pF L G) : CN h e (L.foldl nadd []) ∧ am_ob h e 1 ∧ 402 ≤ e ∧ am_I h e 8 = G.foldl gF (nI 0) := by
  obtain ⟨D, E, k, m, r, a1, a2, a3, a4, a5, C, a7, a8⟩ := C
  obtain ⟨q1, q2, t0, t1, t2, t3, t4, t5, t6, r4, r0, r1, r2, r5, r3, i5, i1, i6, i7, i8, v1, v2, v3, v4, b1, b2, b3⟩ := C
  exact ⟨⟨q1, q2, t0, r3, i6, t6, v3, r4, t1, v4, b3⟩, ⟨by omega, by rw [t0]⟩, q1, i8⟩
theorem rt_of (C : CRel h e s fn kn pN pF L G) : ∃ D E k m, k ≤ 40 ∧ m ≤ k ∧ xN (am_I h 356 s) < m ∧ Rp fn kn (tb h (48 * s)) m pN pF (k + 410) (xN (am_I h 356 s)) D E L G ∧ cdK h e D ∧ am_I h 356 s = nI (xN (am_I h 356 s)) := by
  obtain ⟨D, E, k, m, r, a1, a2, a3, a4, a5, C, a7, a8⟩ := C
  have : xN (am_I h 356 s) = r := by rw [a7]; exact xN_n (by omega)
  rw [this]
  exact ⟨D, E, k, m, a1, a2, a3, a4, cd_of C, a7⟩
theorem MNd_M {c : Nat} {N : List Nat} (H : HMo h h0) (A : MNd h c N) : MNd h0 c N := by
  have e369 := (H.2 369 (by decide) (by decide) c).1
  rcases A with ⟨a1, a2⟩ | ⟨s, r, z, kn, m, fn, pN, pF, D, E, L, G, b1, b2, b3, b4, b5, b6, b7⟩
  · exact Or.inl ⟨e369.trans a1, a2⟩
  · refine Or.inr ⟨s, r, z, kn, m, fn, pN, pF, D, E, L, G, b1, b2, b3, e369.trans b4, ((H.2 356 (by decide) (by decide) s).1).trans b5, ?_, b7⟩
    have et : tb h0 (48 * s) = tb h (48 * s) := congrFun (tbM H) s
    rw [et]; exact b6
theorem cntF_cnB {cd : Nat → Option (Nat × Nat)} : ∀ n, n ≤ 256 → cnB (fun c => decide (c < 256) && (cd c).isSome) n = cntF cd n := by
  intro n
  induction n with
  | zero => intro _; rfl
  | succ n ih =>
    intro hn
    show cnB _ n + (if (decide (n < 256) && (cd n).isSome) = true then 1 else 0) = cntF cd n + if (cd n).isSome then 1 else 0
    rw [ih (by omega), decide_eq_true (by omega), Bool.true_and]
theorem bI_of {x : Int32} (h : x = nI 0 ∨ x = nI 1) : x = bI (decide (x = nI 1)) := by
  rcases h with h | h
  · rw [h, decide_eq_false (by decide)]; rfl
  · rw [h, decide_eq_true rfl]; rfl
end CTX
section RIN
variable {q d e : Nat} {h : am_H}
/-- all that recalculate needs, for both runs -/
theorem R_ctx {nf : Nat} {fe : Nat → Nat} {fX fM : Nat → Int64} {fA : Nat → Nat} {nc : Nat → Nat} {ce : Nat → Nat → Nat} {cX cM : Nat → Nat → Int64} {cd : Nat → Option (Nat × Nat)} {lab : Nat → Option Nat} {ed : Nat} (hd : 1350 ≤ d) (S : am_S h) (iHh : iH h) (e12 : am_I h 4 12 = nI ed) (e86 : am_I h 349 86 = nI ed) (hed : ed ≤ 1000) (GG : iG h nf fe fX fM fA nc ce cX cM cd lab) :
    ∀ h0, HMo h h0 → ∃ gx gm r, am_run (e + 8) 154 [some (.ref 4), none, none, none, none, none, none] h (some (.int r)) gx ∧ am_run (d + 2) 227 [some (.ref 349), none, none] h0 (some (.int r)) gm ∧ REC h h0 gx gm nf fe (fun c => decide (c < 256) && (cd c).isSome) (fun c => (am_R h (22 + c) 8).getD 0) nc ed := by
  obtain ⟨⟨n8, f10, f16, none8, finj, fn⟩, iC', iE', ⟨s1, s2, s3, s4, s5, s6⟩, iLab⟩ := GG
  intro h0 HM
  have S0 := HM.1
  have I0 := fun a k (h1 : 349 ≤ a) (h2 : a ≤ 401) => (HM.2 a h1 h2 k).1
  have mbT : ∀ c, (decide (c < 256) && (cd c).isSome) = true → c < 256 ∧ ∃ p, cd c = some p := fun c hc => by
    rw [Bool.and_eq_true] at hc
    exact ⟨of_decide_eq_true hc.1, Option.isSome_iff_exists.mp hc.2⟩
  have mbF : ∀ c, c < 256 → (decide (c < 256) && (cd c).isSome) = false → cd c = none := fun c hc hb => by
    rw [decide_eq_true hc, Bool.true_and] at hb
    cases hcd : cd c
    · rfl
    · rw [hcd] at hb; cases hb
  -- functions
  obtain ⟨Gf, hGf⟩ : ∃ Gf : Nat → List (Nat × Nat), ∀ i, i < nf → ∃ pN L, CRel h (fe i) (48 + i) true (fA i) pN (pFK nf fA fM) L (Gf i) := by
    refine Classical.axiomOfChoice (r := fun i G => i < nf → ∃ pN L, CRel h (fe i) (48 + i) true (fA i) pN (pFK nf fA fM) L G) (fun i => ?_)
    by_cases hi : i < nf
    · obtain ⟨-, -, -, -, -, -, -, -, -, -, -, pN, L, G, hC⟩ := fn i hi
      exact ⟨G, fun _ => ⟨pN, L, hC⟩⟩
    · exact ⟨[], fun z => absurd z hi⟩
  -- constants
  obtain ⟨Gk, hGk⟩ : ∃ Gk : Nat → Nat → List (Nat × Nat), ∀ s, s < 4 → ∀ i, i < nc s → CRel h (ce s i) (56 + 5 * s + i) false (1000 + i) (pNC cM s) (pFK nf fA fM) [] (Gk s i) := by
    have : ∀ s, ∃ g : Nat → List (Nat × Nat), s < 4 → ∀ i, i < nc s → CRel h (ce s i) (56 + 5 * s + i) false (1000 + i) (pNC cM s) (pFK nf fA fM) [] (g i) := fun s => by
      by_cases hs : s < 4
      · obtain ⟨-, -, -, -, -, -, -, -, -, c10⟩ := iC' s hs
        have : ∀ i, ∃ G : List (Nat × Nat), i < nc s → CRel h (ce s i) (56 + 5 * s + i) false (1000 + i) (pNC cM s) (pFK nf fA fM) [] G := fun i => by
          by_cases hi : i < nc s
          · obtain ⟨-, -, -, -, -, ⟨G, b6⟩, -⟩ := c10 i hi
            exact ⟨G, fun _ => b6⟩
          · exact ⟨[], fun z => absurd z hi⟩
        obtain ⟨g, hg⟩ := Classical.axiomOfChoice this
        exact ⟨g, fun _ => hg⟩
      · exact ⟨fun _ => [], fun z => absurd z hs⟩
    exact Classical.axiomOfChoice this
  -- cells
  obtain ⟨pc, hpc⟩ : ∃ pc : Nat → List Nat × List (Nat × Nat), ∀ c, ((decide (c < 256) && (cd c).isSome) = false → pc c = ([], [])) ∧ ∀ e s, c < 256 → cd c = some (e, s) → ∃ L, (pc c).1 = L.foldl nadd [] ∧ CRel h e s false (nc (c / 64)) (pNC cM (c / 64)) (pFK nf fA fM) L (pc c).2 := by
    refine Classical.axiomOfChoice (r := fun c p => ((decide (c < 256) && (cd c).isSome) = false → p = ([], [])) ∧ ∀ e s, c < 256 → cd c = some (e, s) → ∃ L, p.1 = L.foldl nadd [] ∧ CRel h e s false (nc (c / 64)) (pNC cM (c / 64)) (pFK nf fA fM) L p.2) (fun c => ?_)
    cases hb : (decide (c < 256) && (cd c).isSome) with
    | false => exact ⟨([], []), fun _ => rfl, fun e s hc hcd => by rw [decide_eq_true hc, hcd] at hb; cases hb⟩
    | true =>
      obtain ⟨hc, ⟨e, s⟩, hcd⟩ := mbT c hb
      obtain ⟨st, -, -, -, -, -, -, -, -, -, a13⟩ := iE' c hc
      obtain ⟨-, -, -, -, -, -, -, -, L, G, hC⟩ := a13 e s hcd
      refine ⟨(L.foldl nadd [], G), fun z => (by cases z), fun e' s' _ hcd' => ?_⟩
      rw [hcd] at hcd'; cases hcd'
      exact ⟨L, rfl, hC⟩
  have cellE : ∀ c, (decide (c < 256) && (cd c).isSome) = true → ∃ e s, cd c = some (e, s) ∧ ((cd c).getD (0, 0)).1 = e ∧ ((cd c).getD (0, 0)).2 = s ∧ c < 256 := fun c hc => by
    obtain ⟨h1, ⟨e, s⟩, h2⟩ := mbT c hc
    exact ⟨e, s, h2, by rw [h2]; rfl, by rw [h2]; rfl, h1⟩
  have cod : ∀ c, (decide (c < 256) && (cd c).isSome) = true → am_R h (22 + c) 3 = some ((cd c).getD (0, 0)).1 ∧ am_I h 369 c = nI ((cd c).getD (0, 0)).2 ∧ ((cd c).getD (0, 0)).2 < 48 ∧ am_I h 376 c = am_I h 375 c ∧ am_R h (22 + c) 8 = some ((am_R h (22 + c) 8).getD 0) ∧ (∀ j, j < 7 → lab (((cd c).getD (0, 0)).1 + j) = none) ∧ ∃ L, (pc c).1 = L.foldl nadd [] ∧ CRel h ((cd c).getD (0, 0)).1 ((cd c).getD (0, 0)).2 false (nc (c / 64)) (pNC cM (c / 64)) (pFK nf fA fM) L (pc c).2 := fun c hc => by
    obtain ⟨e, s, hcd, ee, es, h1⟩ := cellE c hc
    obtain ⟨st, -, -, -, -, -, -, -, -, -, a13⟩ := iE' c h1
    obtain ⟨b1, b2, b3, b4, b5, b6, b7, b8, -⟩ := a13 e s hcd
    rw [ee, es]
    refine ⟨b1, b2, b3, b5, ?_, b8, (hpc c).2 e s h1 hcd⟩
    cases hr : am_R h (22 + c) 8 with
    | none => exact absurd hr b7
    | some rr => rfl
  have nl256 : ∀ x y, y ∈ (pc x).1 → y < 256 := fun x y hy => by
    cases hb : (decide (x < 256) && (cd x).isSome) with
    | false => rw [(hpc x).1 hb] at hy; cases hy
    | true =>
      obtain ⟨hx, -⟩ := mbT x hb
      obtain ⟨-, c2, c3, -, -, -, L, hL, D, E, k, m, r, k40, mk, rm, hR, -, -, er, -⟩ := cod x hb
      obtain ⟨g, -, NLg⟩ := m_listNeeds (d := 0) (N := (pc x).1) S hx (Or.inr ⟨_, r, k + 410, _, m, _, _, _, D, E, L, _, by omega, by omega, by omega, c2, er, hR, hL⟩)
      exact NLg.2.2.2.2.2.2 y hy
  have nlm : ∀ x y, y ∈ (pc x).1 → x < 256 ∧ (decide (x < 256) && (cd x).isSome) = true := fun x y hy => by
    cases hb : (decide (x < 256) && (cd x).isSome) with
    | false => rw [(hpc x).1 hb] at hy; cases hy
    | true => exact ⟨(mbT x hb).1, rfl⟩
  have iE8 : ∀ c, c < 256 → ∀ rr, am_R h (22 + c) 8 = some rr → 402 ≤ rr ∧ rr < h.1 ∧ am_tg h rr = (100, 24) ∧ lab rr = some c := fun c hc => by
    obtain ⟨st, -, -, -, -, -, -, a10, -⟩ := iE' c hc
    exact a10
  have FCe' : FCe h (fun s => tb h (48 * s)) (fun s => xN (am_I h 356 s)) (pFK nf fA fM) fe := fun g v h1 h3 hp => by
    obtain ⟨g1, g2⟩ := pFK_lt h1 h3 hp
    obtain ⟨b1, -⟩ := fn g g1
    obtain ⟨pN, L, hC⟩ := hGf g g1
    obtain ⟨D, E, k, m, k1, k2, k3, k4, k5, k6⟩ := rt_of hC
    refine ⟨by omega, pN, m, k, _, D, E, L, Gf g, k1, k2, k3, ?_, rfl, b1, k5⟩
    rw [← g2]; exact k4
  have FN' : FN h0 (fun s => xN (am_I h 356 s)) (pFK nf fA fM) := fun g v h1 h3 hp => by
    obtain ⟨g1, g2⟩ := pFK_lt h1 h3 hp
    obtain ⟨pN, L, hC⟩ := hGf g g1
    obtain ⟨D, E, k, m, k1, k2, k3, k4, k5, k6⟩ := rt_of hC
    refine ⟨by omega, pN, m, k, _, D, E, L, Gf g, k1, k2, k3, ?_, (I0 356 _ (by decide) (by decide)).trans k6, rfl⟩
    rw [congrFun (tbM HM) (48 + g), ← g2]; exact k4
  have MNd' : ∀ c, c < 256 → MNd h0 c (pc c).1 := fun c hc => by
    refine MNd_M HM ?_
    cases hb : (decide (c < 256) && (cd c).isSome) with
    | false =>
      obtain ⟨st, -, -, -, -, -, -, -, -, a12, -⟩ := iE' c hc
      rw [(hpc c).1 hb]
      exact Or.inl ⟨(a12 (mbF c hc hb)).2.1, rfl⟩
    | true =>
      obtain ⟨-, c2, c3, -, -, -, L, hL, D, E, k, m, r, k40, mk, rm, hR, -, -, er, -⟩ := cod c hb
      exact Or.inr ⟨_, r, k + 410, _, m, _, _, _, D, E, L, _, by omega, by omega, by omega, c2, er, hR, hL⟩
  have CDm' : CDm h0 (fun c => decide (c < 256) && (cd c).isSome) (fun c => ((cd c).getD (0, 0)).2) (fun c => (pc c).1) (fun c => (pc c).2) nf := fun c hc => by
    refine ⟨MNd' c hc, fun hb => ?_, fun hb => ?_⟩
    · obtain ⟨st, -, -, -, -, -, -, -, -, a12, -⟩ := iE' c hc
      exact (I0 369 c (by decide) (by decide)).trans (a12 (mbF c hc hb)).2.1
    · obtain ⟨-, c2, c3, -, -, -, L, hL, hC⟩ := cod c hb
      exact ⟨(I0 369 c (by decide) (by decide)).trans c2, c3, slc_of hC (show ((cd c).getD (0, 0)).2 < 77 by omega) HM, G_lt hC⟩
  refine J_recalc (e := e) (d := d) (tt := fun s => tb h (48 * s)) (rt := fun s => xN (am_I h 356 s)) (pF := pFK nf fA fM) (ea := fun c => ((cd c).getD (0, 0)).1) (sl := fun c => ((cd c).getD (0, 0)).2) (nl := fun c => (pc c).1) (ce := ce) (Gf := Gf) (Gc := fun c => (pc c).2) (Gk := Gk) (ft := fun i => decide (am_I h 377 i = nI 1)) (td := fun c => decide (am_I h 375 c = nI 1)) (tc := fun c => decide (am_I h 376 c = nI 1)) (tl := fun s => decide (am_I h 378 s = nI 1)) hd S ⟨n8, f10, fun i hi => ?_⟩ (fun s hs => ?_) ⟨S, FCe', fun c hc hb => ?_, fun s hs => ?_, fun c hc hb i hi hf => ?_, fun c c' hc hc' hb hb' => ?_, fun c hc hb => ?_, fun c hc rr hr => ?_⟩ (fun c hc hb => ?_) (fun y hy => ?_) nl256 nlm (fun x hx => (mbT x hx).1) (fun c z hz => ?_) ?_ (fun x y hx hy hbx hby hxy => ?_) ⟨n8, (I0 349 16 (by decide) (by decide)).trans f16, fun i hi => ?_⟩ ⟨S0, FN', tbM HM, CDm', fun c hc hb => ?_⟩ (fun s hs => ?_) (fun c hc => ?_) (fun c hc => ?_) (fun c hb => ?_) (fun s hs => ?_) (fun s hs hb => ?_) (fun ch hch c hc => ?_) e12 ((I0 349 86 (by decide) (by decide)).trans e86) hed
  · obtain ⟨b1, b2, b3, b4, b5, b6, b7, b8, b9, b10, -⟩ := fn i hi
    obtain ⟨pN, L, hC⟩ := hGf i hi
    obtain ⟨-, z2, z3, z4⟩ := CN_of hC
    exact ⟨b1, z3, z2, z4, b9.trans (bI_of b10), G_lt hC⟩
  · obtain ⟨c1, c2, c3, c4, c5, c6, c7, c8, c9, c10⟩ := iC' s hs
    refine ⟨⟨S, FCe', c2, fun i hi => ?_⟩, ⟨hs, c1, c2, fun i hi => ?_⟩, c4.trans (bI_of c5)⟩
    · obtain ⟨b1, -⟩ := c10 i hi
      obtain ⟨D, E, k, m, k1, k2, k3, k4, k5, k6⟩ := rt_of (hGk s hs i hi)
      exact ⟨b1, iHh s i hs (by omega), _, D, E, k, m, _, k1, k2, k4, k5⟩
    · obtain ⟨b1, -⟩ := c10 i hi
      obtain ⟨-, z2, z3, z4⟩ := CN_of (hGk s hs i hi)
      exact ⟨b1, z3, z2, z4, G_lt (hGk s hs i hi)⟩
  · obtain ⟨y1, y2, y3, y4, y5, y6, L, hL, hC⟩ := cod c hb
    obtain ⟨D, E, k, m, k1, k2, k3, k4, k5, k6⟩ := rt_of hC
    obtain ⟨z1, z2, z3, -⟩ := iE8 c hc _ y5
    obtain ⟨w1, -⟩ := CN_of hC
    rw [← hL] at w1
    exact ⟨y1, w1, ⟨_, D, E, L, _, k, m, k1, k2, k4, k5, fun z hz => by show z ∈ (pc c).1; rw [hL]; exact (nadd_mem L [] z).mpr (Or.inr hz)⟩, y5, z1, z2, z3, y3⟩
  · obtain ⟨c1, c2, -⟩ := iC' s hs
    exact ⟨c1, c2⟩
  · obtain ⟨-, -, -, -, y5, -⟩ := cod c hb
    obtain ⟨-, -, -, z4⟩ := iE8 c hc _ y5
    have hi' : i < nf := by
      apply Classical.byContradiction
      intro z
      rw [none8 i (by omega) hi] at hf; cases hf
    obtain ⟨-, -, -, -, -, -, -, -, -, -, b11, -⟩ := fn i hi'
    dsimp only
    apply Classical.byContradiction
    intro z
    have := b11 ((am_R h (22 + c) 8).getD 0 - fe i) (by omega)
    rw [show fe i + ((am_R h (22 + c) 8).getD 0 - fe i) = (am_R h (22 + c) 8).getD 0 by omega, z4] at this
    cases this
  · obtain ⟨-, -, -, -, y5, -⟩ := cod c hb
    obtain ⟨-, -, -, z4⟩ := iE8 c hc _ y5
    obtain ⟨-, -, -, -, y5', y6', -⟩ := cod c' hb'
    obtain ⟨-, -, -, z4'⟩ := iE8 c' hc' _ y5'
    refine ⟨?_, fun hr => ?_⟩
    dsimp only
    · apply Classical.byContradiction
      intro z
      have := y6' ((am_R h (22 + c) 8).getD 0 - ((cd c').getD (0, 0)).1) (by omega)
      rw [show ((cd c').getD (0, 0)).1 + ((am_R h (22 + c) 8).getD 0 - ((cd c').getD (0, 0)).1) = (am_R h (22 + c) 8).getD 0 by omega, z4] at this
      cases this
    · have hr : (am_R h (22 + c) 8).getD 0 = (am_R h (22 + c') 8).getD 0 := hr
      rw [hr, z4'] at z4
      exact (Option.some.inj z4).symm
  · obtain ⟨st, -, -, -, -, -, -, -, -, a12, -⟩ := iE' c hc
    exact (a12 (mbF c hc hb)).1
  · obtain ⟨z1, z2, z3, z4⟩ := iE8 c hc rr hr
    refine ⟨z1, z2, fun x hx hb hxr => ?_, z3⟩
    obtain ⟨-, -, -, -, y5, -⟩ := cod x hb
    obtain ⟨-, -, -, w4⟩ := iE8 x hx _ y5
    have hxr : (am_R h (22 + x) 8).getD 0 = rr := hxr
    rw [hxr, z4] at w4
    exact (Option.some.inj w4).symm
  · obtain ⟨-, -, -, -, -, -, L, hL, hC⟩ := cod c hb
    exact (CN_of hC).2.2.2
  · obtain ⟨st, -, -, -, a4, a5, -⟩ := iE' y hy
    exact a4.trans (bI_of a5)
  · cases hb : (decide (c < 256) && (cd c).isSome) with
    | false =>
      have hz : z ∈ (pc c).2 := hz
      rw [(hpc c).1 hb] at hz; cases hz
    | true =>
      obtain ⟨-, -, -, -, -, -, L, hL, hC⟩ := cod c hb
      exact G_lt hC z hz
  · rw [cnB_mL, cntF_cnB 256 (Nat.le_refl _)]; exact s3
  · obtain ⟨e, s, hcd, -, es, -⟩ := cellE x hbx
    obtain ⟨e', s', hcd', -, es', -⟩ := cellE y hby
    have hxy : ((cd x).getD (0, 0)).2 = ((cd y).getD (0, 0)).2 := hxy
    rw [es, es'] at hxy
    subst hxy
    exact s4 x y e e' s hx hy hcd hcd'
  · obtain ⟨b1, b2, b3, b4, b5, b6, b7, b8, b9, b10, -⟩ := fn i hi
    obtain ⟨pN, L, hC⟩ := hGf i hi
    exact ⟨(I0 377 i (by decide) (by decide)).trans (bI_of b10), slc_of hC (by omega) HM, G_lt hC⟩
  · obtain ⟨-, -, -, -, -, -, L, hL, hC⟩ := cod c hb
    obtain ⟨D, E, k, m, k1, k2, k3, k4, k5, k6⟩ := rt_of hC
    exact ⟨(I0 356 _ (by decide) (by decide)).trans k6, by dsimp only; omega⟩
  · obtain ⟨c1, c2, c3, c4, c5, c6, c7, c8, c9, c10⟩ := iC' s hs
    refine ⟨⟨S0, FN', tbM HM, (I0 362 s (by decide) (by decide)).trans c3, fun i hi => ?_⟩, (I0 378 s (by decide) (by decide)).trans (bI_of c5), fun i hi => slc_of (hGk s hs i hi) (by omega) HM⟩
    obtain ⟨D, E, k, m, k1, k2, k3, k4, k5, k6⟩ := rt_of (hGk s hs i hi)
    exact ⟨(I0 356 _ (by decide) (by decide)).trans k6, by show xN _ < 48; omega, _, D, E, k, m, _, k1, k2, k4⟩
  · obtain ⟨st, -, -, -, a4, a5, -, -, -, a12, a13⟩ := iE' c hc
    refine (I0 376 c (by decide) (by decide)).trans (bI_of ?_)
    cases hcd : cd c with
    | none => exact Or.inl (a12 hcd).2.2.1
    | some p =>
      obtain ⟨-, -, -, -, b5, -⟩ := a13 p.1 p.2 hcd
      rw [b5]; exact a5
  · obtain ⟨st, -, -, -, a4, a5, -⟩ := iE' c hc
    exact (I0 375 c (by decide) (by decide)).trans (bI_of a5)
  · obtain ⟨-, -, -, y4, -⟩ := cod c hb
    show decide (am_I h 376 c = nI 1) = decide (am_I h 375 c = nI 1)
    rw [y4]
  · obtain ⟨c1, c2, c3, c4, c5, c6, c7, c8, c9, c10⟩ := iC' s hs
    exact c8.trans (I0 382 s (by decide) (by decide)).symm
  · obtain ⟨c1, c2, c3, c4, c5, c6, c7, c8, c9, c10⟩ := iC' s hs
    rw [Bool.or_eq_false_iff] at hb
    have t0 : am_I h 378 s = nI 0 := c5.resolve_right (of_decide_eq_false hb.1)
    refine ⟨c4.trans t0, c6.trans (I0 381 s (by decide) (by decide)).symm, by rw [I0 381 s (by decide) (by decide)]; exact c7, c8.trans (I0 382 s (by decide) (by decide)).symm, fun i hi => ?_⟩
    obtain ⟨-, -, -, -, -, -, st, st3, iv⟩ := c10 i hi
    refine ⟨st, st3, ?_, fun z => ?_⟩
    · rw [I0 379 _ (by decide) (by decide), I0 380 _ (by decide) (by decide), (HM.2 383 (by decide) (by decide) _).2.1 (by decide), (HM.2 384 (by decide) (by decide) _).2.2 (by decide) (by decide)]; exact iv
    · rw [I0 381 s (by decide) (by decide)] at z
      have := c9 t0 z i hi
      rw [iv.2.1] at this
      exact this.imp (fun w => (nI_eq (by omega) (by omega)).mp w) (fun w => (nI_eq (by omega) (by omega)).mp w)
  · obtain ⟨st, a1, a2, a3, a4, a5, ⟨k, k1, k2, k3, k4⟩, a10, a11, a12, a13⟩ := iE' c hc
    have nf6 : (decide (c < 256) && (cd c).isSome) = false → st ≤ 2 := fun z => (a12 (mbF c hc z)).2.2.2
    refine ⟨st, a1, ?_, ?_, ⟨k, k1, k2, (I0 373 c (by decide) (by decide)).trans k3, fun rr hr i hi => by rw [I0 372 _ (by decide) (by decide)]; exact k4 rr hr i hi⟩, fun z => by rw [I0 373 c (by decide) (by decide)]; exact a11 z, nf6, fun z => ⟨?_, rfl⟩⟩
    · rw [I0 365 c (by decide) (by decide), I0 366 c (by decide) (by decide), (HM.2 370 (by decide) (by decide) _).2.1 (by decide), (HM.2 371 (by decide) (by decide) _).2.2 (by decide) (by decide)]; exact a2
    · rw [I0 367 c (by decide) (by decide), I0 368 c (by decide) (by decide)]; exact a3
    · cases hb : (decide (c < 256) && (cd c).isSome) with
      | false => have := nf6 hb; omega
      | true =>
        obtain ⟨e', s', hcd, -⟩ := cellE c hb
        obtain ⟨-, -, -, -, -, b6, -⟩ := a13 e' s' hcd
        exact hch c hb (decide_eq_true (b6 z))
end RIN

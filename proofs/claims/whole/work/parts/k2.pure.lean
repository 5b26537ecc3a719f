/-! RECALCULATE: rings against cycles; what is kept on the way -/
section RCY
variable {n R F : Nat} {m q st rc : Nat → Nat} {mb : Nat → Bool} {nl : Nat → List Nat} {wy : Nat → Nat → Bool}
theorem muE_of (hW : ∀ i j, i < n → j < n → (wS (lkB nl m) n i j = true ↔ RT nl (m i) (m j))) : muE n (fun i j => wS (lkB nl m) n i j && wS (lkB nl m) n j i) := by
  refine ⟨fun i j hi hj h => ?_, fun i a j hi ha hj h1 h2 => ?_⟩
  · have h : (wS (lkB nl m) n i j && wS (lkB nl m) n j i) = true := h
    show (wS (lkB nl m) n j i && wS (lkB nl m) n i j) = true
    rw [Bool.and_comm]; exact h
  · have h1 : (wS (lkB nl m) n i a && wS (lkB nl m) n a i) = true := h1
    have h2 : (wS (lkB nl m) n a j && wS (lkB nl m) n j a) = true := h2
    show (wS (lkB nl m) n i j && wS (lkB nl m) n j i) = true
    rw [Bool.and_eq_true] at h1 h2 ⊢
    exact ⟨(hW i j hi hj).mpr (RT_trans ((hW i a hi ha).mp h1.1) ((hW a j ha hj).mp h2.1)), (hW j i hj hi).mpr (RT_trans ((hW j a hj ha).mp h2.2) ((hW a i ha hi).mp h1.2))⟩
theorem ring_at (P : RP n m (fun i j => wS (lkB nl m) n i j && wS (lkB nl m) n j i) n R F q st rc) : ∀ j, j < F → ∃ r, r < R ∧ st r ≤ j ∧ j < st (r + 1) := by
  obtain ⟨p1, p0, p2, -⟩ := P
  have H : ∀ r, r ≤ R → ∀ j, j < st r → ∃ r', r' < R ∧ st r' ≤ j ∧ j < st (r' + 1) := by
    intro r
    induction r with
    | zero => intro _ j hj; rw [p0] at hj; omega
    | succ r ih =>
      intro hr j hj
      by_cases c : j < st r
      · exact ih (by omega) j c
      · exact ⟨r, by omega, by omega, hj⟩
  intro j hj
  exact H R (Nat.le_refl _) j (by rw [p1]; exact hj)
theorem ring_cyc (M : MBR mb n m) (hW : ∀ i j, i < n → j < n → (wS (lkB nl m) n i j = true ↔ RT nl (m i) (m j))) (hwy : ∀ x y, wy x y = true ↔ RT nl x y) (hm : ∀ x y, y ∈ nl x → x < 256 ∧ mb x = true) (P : RP n m (fun i j => wS (lkB nl m) n i j && wS (lkB nl m) n j i) n R F q st rc) {k : Nat} (hk : k < n) (hq : q k ≠ 999) : cycF wy (m k) = rc (st (q k)) ∧ wy (m k) (m k) = true ∧ rc (st (q k)) < 256 := by
  obtain ⟨p1, p0, p2, p3, p4, p5, p6, p7, p8, p9⟩ := P
  obtain ⟨h1, -⟩ := p4 k hk hq
  obtain ⟨l, l1, l2, l3, l4, l5⟩ := p6 (q k) h1
  have muW : ∀ i j, i < n → j < n → ((wS (lkB nl m) n i j && wS (lkB nl m) n j i) = true ↔ wy (m i) (m j) = true ∧ wy (m j) (m i) = true) := fun i j hi hj => by
    rw [Bool.and_eq_true, hW i j hi hj, hW j i hj hi, hwy, hwy]
  have lk := (muW l k l2 hk).mp ((l5 k hk).1.mp rfl)
  have kk : wy (m k) (m k) = true := (hwy _ _).mpr (RT_trans ((hwy _ _).mp lk.2) ((hwy _ _).mp lk.1))
  have ml := (M.2.1 l l2).1
  refine ⟨?_, kk, by rw [l3]; exact ml⟩
  unfold cycF
  rw [if_pos kk, l3]
  refine fnd_eq (Nat.zero_le _) (by omega) (fun y _ hy => ?_) (fun _ => by rw [lk.1, lk.2]; rfl)
  rw [Bool.eq_false_iff]
  intro z
  rw [Bool.and_eq_true] at z
  obtain ⟨w, hw⟩ := RT_head ((hwy _ _).mp z.2)
  obtain ⟨y1, y2⟩ := hm _ _ hw
  obtain ⟨i, i1, rfl⟩ := M.2.2.2 y y1 y2
  have li := (l5 i i1).2 ((muW l i l2 i1).mpr ⟨(hwy _ _).mpr (RT_trans ((hwy _ _).mp lk.1) ((hwy _ _).mp z.1)), (hwy _ _).mpr (RT_trans ((hwy _ _).mp z.2) ((hwy _ _).mp lk.2))⟩)
  rcases Nat.lt_or_eq_of_le li with c | c
  · have := M.2.2.1 l i c i1; omega
  · subst c; omega
theorem ring_q (M : MBR mb n m) (hW : ∀ i j, i < n → j < n → (wS (lkB nl m) n i j = true ↔ RT nl (m i) (m j))) (hwy : ∀ x y, wy x y = true ↔ RT nl x y) (P : RP n m (fun i j => wS (lkB nl m) n i j && wS (lkB nl m) n j i) n R F q st rc) {k : Nat} (hk : k < n) (h : wy (m k) (m k) = true) : q k ≠ 999 := by
  have hw := (hW k k hk hk).mpr ((hwy _ _).mp h)
  exact P.2.2.2.2.2.2.2.2.1 k hk hk (by show (wS (lkB nl m) n k k && wS (lkB nl m) n k k) = true; rw [hw]; rfl)
/-- how many cycles -/
theorem cnB_enum {p : Nat → Bool} {f : Nat → Nat} (inc : ∀ r, r + 1 < R → f r < f (r + 1)) (hp : ∀ x, x < 256 → (p x = true ↔ ∃ r, r < R ∧ f r = x)) (hf : ∀ r, r < R → f r < 256) : cnB p 256 = R := by
  have lt : ∀ r' r, r < r' → r' < R → f r < f r' := fun r' r h1 h2 => inc_lt (f := f) (b := R) inc r' r h1 h2
  have H : ∀ n, n ≤ 256 → cnB p n = cnB (fun r => decide (f r < n)) R := by
    intro n
    induction n with
    | zero =>
      intro _
      have : ∀ R, cnB (fun r => decide (f r < 0)) R = 0 := by
        intro R
        induction R with
        | zero => rfl
        | succ R ih => unfold cnB; rw [ih, decide_eq_false (Nat.not_lt_zero _)]; rfl
      rw [this]; rfl
    | succ n ih =>
      intro hn
      have ih := ih (by omega)
      show cnB p n + (if p n = true then 1 else 0) = _
      have cong : ∀ (a b : Nat → Bool), (∀ r, r < R → a r = b r) → cnB a R = cnB b R := by
        have : ∀ (a b : Nat → Bool) k, (∀ r, r < k → a r = b r) → cnB a k = cnB b k := by
          intro a b k
          induction k with
          | zero => intro _; rfl
          | succ k ih2 =>
            intro h
            show cnB a k + (if a k = true then 1 else 0) = cnB b k + (if b k = true then 1 else 0)
            rw [ih2 (fun r hr => h r (by omega)), h k (by omega)]
        exact fun a b h => this a b R h
      by_cases c : p n = true
      · obtain ⟨r, r1, r2⟩ := (hp n (by omega)).mp c
        rw [if_pos c, ih]
        have e1 : cnB (fun r => decide (f r < n + 1)) R = cnB (fun k => if k = r then true else decide (f k < n)) R := cong _ _ (fun k hk => by
          show decide (f k < n + 1) = (if k = r then true else decide (f k < n))
          by_cases e : k = r
          · rw [if_pos e, e, decide_eq_true (by omega)]
          · rw [if_neg e]
            have : f k ≠ n := fun z => by
              rcases Nat.lt_trichotomy k r with w | w | w
              · have := lt r k w r1; omega
              · exact e w
              · have := lt k r w hk; omega
            by_cases w : f k < n
            · rw [decide_eq_true w, decide_eq_true (by omega)]
            · rw [decide_eq_false w, decide_eq_false (by omega)])
        rw [e1]
        exact (cnB_set (r := fun k => decide (f k < n)) (r' := fun k => if k = r then true else decide (f k < n)) (i := r) (decide_eq_false (by omega)) (if_pos rfl) (fun k hk => if_neg hk) R r1).symm
      · rw [if_neg c, ih]
        refine cong _ _ (fun k hk => ?_)
        show decide (f k < n) = decide (f k < n + 1)
        have : f k ≠ n := fun z => c ((hp n (by omega)).mpr ⟨k, hk, z⟩)
        by_cases w : f k < n
        · rw [decide_eq_true w, decide_eq_true (by omega)]
        · rw [decide_eq_false w, decide_eq_false (by omega)]
  rw [H 256 (Nat.le_refl _)]
  have : ∀ k, k ≤ R → cnB (fun r => decide (f r < 256)) k = k := by
    intro k
    induction k with
    | zero => intro _; rfl
    | succ k ih =>
      intro h
      show cnB (fun r => decide (f r < 256)) k + (if decide (f k < 256) = true then 1 else 0) = k + 1
      rw [ih (by omega), decide_eq_true (hf k (by omega)), if_pos rfl]
  exact this R (Nat.le_refl _)
theorem ring_cnt (M : MBR mb n m) (hW : ∀ i j, i < n → j < n → (wS (lkB nl m) n i j = true ↔ RT nl (m i) (m j))) (hwy : ∀ x y, wy x y = true ↔ RT nl x y) (hm : ∀ x y, y ∈ nl x → x < 256 ∧ mb x = true) (P : RP n m (fun i j => wS (lkB nl m) n i j && wS (lkB nl m) n j i) n R F q st rc) : cnB (leadB wy) 256 = R := by
  have P0 := P
  obtain ⟨p1, p0, p2, p3, p4, p5, p6, p7, p8, p9⟩ := P
  refine cnB_enum (f := fun r => rc (st r)) p7 (fun x hx => ?_) (fun r hr => ?_)
  · unfold leadB
    rw [Bool.and_eq_true, decide_eq_true_iff]
    constructor
    · rintro ⟨h1, h2⟩
      obtain ⟨w, hw⟩ := RT_head ((hwy _ _).mp h1)
      obtain ⟨y1, y2⟩ := hm _ _ hw
      obtain ⟨k, k1, rfl⟩ := M.2.2.2 x y1 y2
      have hq := ring_q M hW hwy P0 k1 h1
      exact ⟨q k, (p4 k k1 hq).1, (ring_cyc M hW hwy hm P0 k1 hq).1.symm.trans h2⟩
    · rintro ⟨r, r1, r2⟩
      obtain ⟨l, l1, l2, l3, l4, l5⟩ := p6 r r1
      have hq : q l ≠ 999 := by
        have := RP_R P0
        have := M.1
        omega
      obtain ⟨c1, c2, -⟩ := ring_cyc M hW hwy hm P0 l2 hq
      have r2 : rc (st r) = x := r2
      have e : x = m l := r2.symm.trans l3
      rw [e]
      exact ⟨c2, by rw [c1, l4]; exact l3⟩
  · obtain ⟨l, l1, l2, l3, -⟩ := p6 r hr
    show rc (st r) < 256
    rw [l3]; exact (M.2.1 l l2).1
end RCY
section XLG
variable {P : Nat → Nat → Prop} {h g : am_H} {tt : Nat → ntT} {rt : Nat → Nat} {pF : Nat → List Nat} {fe : Nat → Nat} {mb : Nat → Bool} {ea ra sl : Nat → Nat} {nl : Nat → List Nat} {nc : Nat → Nat}
theorem XL_kpG (X : XL h tt rt pF fe mb ea ra sl nl nc) (K : kp P h g) (Sg : am_S g) (np : ∀ a k, P a k → (402 ≤ a → ∃ x, x < 256 ∧ mb x = true ∧ a = ra x) ∧ a ≠ 11 ∧ ¬ (22 ≤ a ∧ a < 278 ∧ (k = 3 ∨ k = 8)) ∧ ∀ s, s < 4 → ¬ (a = 321 + 7 * s ∧ k = 1)) : XL g tt rt pF fe mb ea ra sl nl nc := by
  obtain ⟨x1, x2, x3, x4, x5, x6, x7, x8⟩ := X
  have h4 := x1.1
  have R := fun a k (ha : a < h.1) hn => K.2.2 a k ha hn
  have r11 : ∀ i, am_R g 11 i = am_R h 11 i := fun i => (R 11 i (by omega) (fun q => (np _ _ q).2.1 rfl)).2.2.2
  refine ⟨Sg, FCe_kp h4 K (fun k q => (np _ _ q).2.1 rfl) (fun i i8 hf he a k h1 h2 q => ?_) x2, fun c hc hm => ?_, fun s hs => ⟨(x4 s hs).1, (R (321 + 7 * s) 1 (by omega) (fun q => (np _ _ q).2.2.2 s hs ⟨rfl, rfl⟩)).1.trans (x4 s hs).2⟩, fun c hc hm i hi hf => x5 c hc hm i hi ((r11 i).symm.trans hf), x6, fun c hc hm => (R (22 + c) 3 (by omega) (fun q => (np _ _ q).2.2.1 ⟨by omega, by omega, Or.inl rfl⟩)).2.2.2.trans (x7 c hc hm), fun c hc rr hr => ?_⟩
  · obtain ⟨x, hx, hmx, hax⟩ := (np a k q).1 (by omega)
    have := x5 x hx hmx i i8 hf
    omega
  · obtain ⟨y1, y2, ⟨pN, D, E, L, G, k, m, z1, z2, z3, z4, z5⟩, y4, y5, y6, y7, y8⟩ := x3 c hc hm
    have ne : ∀ a k, ea c ≤ a → a < ea c + 7 → ¬ P a k := fun a k h1 h2 q => by
      obtain ⟨x, hx, hmx, hax⟩ := (np a k q).1 (by have := y2.1; omega)
      have d1 := (x6 x c hx hc hmx hm).1
      omega
    exact ⟨(R (22 + c) 3 (by omega) (fun q => (np _ _ q).2.2.1 ⟨by omega, by omega, Or.inl rfl⟩)).2.2.2.trans y1, CN_kp K ne y2, ⟨pN, D, E, L, G, k, m, z1, z2, z3, cdK_kp K ne z4, z5⟩, (R (22 + c) 8 (by omega) (fun q => (np _ _ q).2.2.1 ⟨by omega, by omega, Or.inr rfl⟩)).2.2.2.trans y4, y5, Nat.lt_of_lt_of_le y6 K.1, (K.2.1 _ y6).trans y7, y8⟩
  · rw [(R (22 + c) 8 (by omega) (fun q => (np _ _ q).2.2.1 ⟨by omega, by omega, Or.inr rfl⟩)).2.2.2] at hr
    obtain ⟨z1, z2, z3, z4⟩ := x8 c hc rr hr
    exact ⟨z1, Nat.lt_of_lt_of_le z2 K.1, z3, (K.2.1 rr z2).trans z4⟩
theorem E2_eq {gx gm gx' gm' : am_H} {ch dn ch' dn' : Nat → Bool} {c : Nat} (G : ∀ k, am_I gx' (22 + c) k = am_I gx (22 + c) k ∧ am_L gx' (22 + c) k = am_L gx (22 + c) k ∧ am_D gx' (22 + c) k = am_D gx (22 + c) k) (G8 : am_R gx' (22 + c) 8 = am_R gx (22 + c) 8) (nr : ∀ rr, am_R gx (22 + c) 8 = some rr → ∀ k, am_I gx' rr k = am_I gx rr k) (m365 : am_I gm' 365 c = am_I gm 365 c) (m366 : am_I gm' 366 c = am_I gm 366 c) (m367 : am_I gm' 367 c = am_I gm 367 c) (m368 : am_I gm' 368 c = am_I gm 368 c) (m373 : am_I gm' 373 c = am_I gm 373 c) (m372 : ∀ i, i < 24 → am_I gm' 372 (24 * c + i) = am_I gm 372 (24 * c + i)) (m370 : am_L gm' 370 c = am_L gm 370 c) (m371 : am_D gm' 371 c = am_D gm 371 c) (h6 : ch c = true ∧ dn c = false → ch' c = true ∧ dn' c = false) (E : E2 gx gm mb ch dn c) : E2 gx' gm' mb ch' dn' c := by
  obtain ⟨st, e1, e2, e3, ⟨k, k1, k2, k3, k4⟩, en, e5, e6⟩ := E
  refine ⟨st, e1, ?_, ?_, ⟨k, k1, (G 9).1.trans k2, m373.trans k3, fun rr hr i hi => ?_⟩, fun z => (by rw [G8] at z; rw [m373]; exact en z), e5, fun z => h6 (e6 z)⟩
  · rw [m365, m366, m370, m371]
    exact iV_eq G e2
  · rw [(G 5).1, (G 6).1, m367, m368]; exact e3
  · rw [G8] at hr
    rw [nr rr hr i, m372 i (by omega)]
    exact k4 rr hr i hi
theorem C2_eq {gx gm gx' gm' : am_H} {s n : Nat} (G : ∀ k, 2 ≤ k → am_I gx' (321 + 7 * s) k = am_I gx (321 + 7 * s) k) (H : ∀ i, i < n → ∀ k, am_I gx' (323 + 7 * s + i) k = am_I gx (323 + 7 * s + i) k ∧ am_L gx' (323 + 7 * s + i) k = am_L gx (323 + 7 * s + i) k ∧ am_D gx' (323 + 7 * s + i) k = am_D gx (323 + 7 * s + i) k) (m381 : am_I gm' 381 s = am_I gm 381 s) (m382 : am_I gm' 382 s = am_I gm 382 s) (mI : ∀ i, i < n → am_I gm' 379 (5 * s + i) = am_I gm 379 (5 * s + i) ∧ am_I gm' 380 (5 * s + i) = am_I gm 380 (5 * s + i) ∧ am_L gm' 383 (5 * s + i) = am_L gm 383 (5 * s + i) ∧ am_D gm' 384 (5 * s + i) = am_D gm 384 (5 * s + i)) (C : C2 gx gm s n) : C2 gx' gm' s n := by
  obtain ⟨c0, c1, c2, c3, c4⟩ := C
  refine ⟨(G 2 (by decide)).trans c0, ?_, by rw [m381]; exact c2, ?_, fun i hi => ?_⟩
  · rw [G 3 (by decide), m381]; exact c1
  · rw [G 4 (by decide), m382]; exact c3
  · obtain ⟨st, s1, s2, s3⟩ := c4 i hi
    obtain ⟨a1, a2, a3, a4⟩ := mI i hi
    refine ⟨st, s1, ?_, by rw [m381]; exact s3⟩
    rw [a1, a2, a3, a4]
    exact iV_eq (H i hi) s2
end XLG
/-- nothing is done yet -/
theorem m_isDone0 {d : Nat} {h : am_H} {v2 : Option Value} (S : am_S h) : ∀ q x g, 256 - x = q → x ≤ 256 → am_fr (fun a => a = 391) h g → (∀ j, j < x → am_I g 391 j = nI 0) → ∃ g', am_fr (fun a => a = 391) h g' ∧ (∀ j, j < 256 → am_I g' 391 j = nI 0) ∧ ∀ Q, am_J d 227 42 [some (.ref 349), some (.int (nI x)), v2] [] g Q ↔ am_J d 227 62 [some (.ref 349), some (.int (nI 256)), v2] [] g' Q := by
  intro q
  induction q with
  | zero =>
    intro x g hq hx F H
    obtain rfl : x = 256 := by omega
    refine ⟨g, F, H, fun Q => ?_⟩
    rw [g227_42]
    simp (disch := first | with_reducible assumption | omega | exact Or.inl rfl | exact Or.inr rfl | exact bI_01 | exact c_cat | exact vt_ref | exact vt_null | rfl | with_reducible repeat (first | assumption | omega | apply S_I | apply S_L | apply S_D | apply ob_I | apply ob_L | apply ob_D | apply ob_R | apply ax_I | apply ax_L | apply ax_D | apply ax_R | apply o303 | apply o307 | apply o302 | apply o301 | apply ax304 | apply ax305 | apply ax306 | apply ax308 | apply ax309 | apply ax310 | apply lt_S | apply ar305 | apply ar308 | apply ar309)) only [g227_43, g227_46, Option.toList, List.nil_append, List.cons_append, va_rf, nI_ltI, nI_leI, nI_eq, nI_add, nI_sub, nI_lt0, nI_e0, nI_m1, m1_nI, Nat.reduceEqDiff, Nat.reduceLT, Nat.reduceLeDiff, Nat.reduceAdd, Nat.reduceSub, Nat.reduceMul, ↓reduceIte, eq_self, Nat.le_refl]
  | succ q ih =>
    intro x g hq hx F H
    have Sg := fr_S F S
    obtain ⟨g', F', a1, R'⟩ := ih (x + 1) (am_setI g 391 x (nI 0)) (by omega) (by omega) (fr_I F rfl) (fun j hj => by
      by_cases e : j = x
      · rw [e, rI_eq]
      · rw [rI_k e]; exact H j (by omega))
    refine ⟨g', F', a1, fun Q => ?_⟩
    rw [← R' Q, g227_42]
    simp (disch := first | with_reducible assumption | omega | exact Or.inl rfl | exact Or.inr rfl | exact bI_01 | exact c_cat | exact vt_ref | exact vt_null | rfl | with_reducible repeat (first | assumption | omega | apply S_I | apply S_L | apply S_D | apply ob_I | apply ob_L | apply ob_D | apply ob_R | apply ax_I | apply ax_L | apply ax_D | apply ax_R | apply o303 | apply o307 | apply o302 | apply o301 | apply ax304 | apply ax305 | apply ax306 | apply ax308 | apply ax309 | apply ax310 | apply lt_S | apply ar305 | apply ar308 | apply ar309)) only [g227_43, g227_46, g227_49, g227_50, g227_53, g227_54, g227_55, g227_56, g227_59, Option.toList, List.nil_append, List.cons_append, va_rf, nI_ltI, nI_leI, nI_eq, nI_add, nI_sub, nI_lt0, nI_e0, nI_m1, m1_nI, Nat.reduceEqDiff, Nat.reduceLT, Nat.reduceLeDiff, Nat.reduceAdd, Nat.reduceSub, Nat.reduceMul, ↓reduceIte, eq_self, show ¬ 256 ≤ x by omega]

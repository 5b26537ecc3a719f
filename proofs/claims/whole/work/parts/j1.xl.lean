/-! RECALCULATE: what stands while the cells are worked out -/
theorem nadd_mem : ∀ (L N : List Nat) (c : Nat), c ∈ L.foldl nadd N ↔ c ∈ N ∨ c ∈ L := by
  intro L
  induction L with
  | nil => intro N c; exact ⟨Or.inl, fun z => z.elim id (fun z => by cases z)⟩
  | cons a L ih =>
    intro N c
    rw [List.foldl_cons, ih]
    unfold nadd
    by_cases h : a ∈ N
    · rw [if_pos h]
      constructor
      · exact fun z => z.imp id (fun z => List.mem_cons_of_mem _ z)
      · rintro (z | z)
        · exact Or.inl z
        · rcases List.mem_cons.mp z with rfl | z
          · exact Or.inl h
          · exact Or.inr z
    · rw [if_neg h, List.mem_append, List.mem_singleton, List.mem_cons]
      constructor
      · rintro ((z | z) | z)
        · exact Or.inl z
        · exact Or.inr (Or.inl z)
        · exact Or.inr (Or.inr z)
      · rintro (z | z | z)
        · exact Or.inl (Or.inl z)
        · exact Or.inl (Or.inr z)
        · exact Or.inr z
theorem CN_kp {P : Nat → Nat → Prop} {h g : am_H} {e : Nat} {N : List Nat} (K : kp P h g) (np : ∀ a k, e ≤ a → a < e + 7 → ¬ P a k) (C : CN h e N) : CN g e N := by
  obtain ⟨c1, c2, c3, c4, c5, c6, c7, c8, c9, c10, c11⟩ := C
  have R := fun a k (h1 : e ≤ a) (h2 : a < e + 7) => K.2.2 a k (by omega) (np a k h1 h2)
  have h1 := K.1
  exact ⟨c1, by omega, (K.2.1 e (by omega)).trans c3, (R e 3 (by omega) (by omega)).2.2.2.trans c4, (R e 6 (by omega) (by omega)).1.trans c5, (K.2.1 (e + 6) (by omega)).trans c6, fun i c hi => (R (e + 6) i (by omega) (by omega)).1.trans (c7 i c hi), (R e 4 (by omega) (by omega)).2.2.2.trans c8, (K.2.1 (e + 1) (by omega)).trans c9, fun c hc => by rw [(R (e + 1) (c / 64) (by omega) (by omega)).2.1 (by omega)]; exact c10 c hc, c11⟩
/-- what stands of the class -/
def XL (g : am_H) (tt : Nat → ntT) (rt : Nat → Nat) (pF : Nat → List Nat) (fe : Nat → Nat) (mb : Nat → Bool) (ea ra sl : Nat → Nat) (nl : Nat → List Nat) (nc : Nat → Nat) : Prop :=
  am_S g ∧ FCe g tt rt pF fe ∧
  (∀ c, c < 256 → mb c = true → am_R g (22 + c) 3 = some (ea c) ∧ CN g (ea c) (nl c) ∧ (∃ pN D E L G k m, k ≤ 40 ∧ m ≤ k ∧ Rp false (nc (c / 64)) (tt (sl c)) m pN pF (k + 410) (rt (sl c)) D E L G ∧ cdK g (ea c) D ∧ ∀ z, z ∈ L → z ∈ nl c) ∧ am_R g (22 + c) 8 = some (ra c) ∧ 402 ≤ ra c ∧ ra c < g.1 ∧ am_tg g (ra c) = (100, 24) ∧ sl c < 48) ∧
  (∀ s, s < 4 → nc s ≤ 5 ∧ am_I g (321 + 7 * s) 1 = nI (nc s)) ∧
  (∀ c, c < 256 → mb c = true → ∀ i, i < 8 → am_R g 11 i = some (fe i) → ra c < fe i ∨ fe i + 7 ≤ ra c) ∧
  (∀ c c', c < 256 → c' < 256 → mb c = true → mb c' = true → (ra c < ea c' ∨ ea c' + 7 ≤ ra c) ∧ (ra c = ra c' → c = c')) ∧ (∀ c, c < 256 → mb c = false → am_R g (22 + c) 3 = none) ∧ ∀ c, c < 256 → ∀ rr, am_R g (22 + c) 8 = some rr → 402 ≤ rr ∧ rr < g.1 ∧ (∀ x, x < 256 → mb x = true → ra x = rr → x = c) ∧ am_tg g rr = (100, 24)
section XLS
variable {P : Nat → Nat → Prop} {h g : am_H} {tt : Nat → ntT} {rt : Nat → Nat} {pF : Nat → List Nat} {fe : Nat → Nat} {mb : Nat → Bool} {ea ra sl : Nat → Nat} {nl : Nat → List Nat} {nc : Nat → Nat} {x : Nat}
theorem XL_kp (X : XL h tt rt pF fe mb ea ra sl nl nc) (K : kp P h g) (Sg : am_S g) (hx : x < 256) (hmx : mb x = true) (np : ∀ a k, P a k → (402 ≤ a → a = ra x) ∧ a ≠ 11 ∧ ¬ (22 ≤ a ∧ a < 278 ∧ (k = 3 ∨ k = 8)) ∧ ∀ s, s < 4 → ¬ (a = 321 + 7 * s ∧ k = 1)) : XL g tt rt pF fe mb ea ra sl nl nc := by
  obtain ⟨x1, x2, x3, x4, x5, x6, x7, x8⟩ := X
  have h4 := x1.1
  have R := fun a k (ha : a < h.1) hn => K.2.2 a k ha hn
  have r11 : ∀ i, am_R g 11 i = am_R h 11 i := fun i => (R 11 i (by omega) (fun q => (np _ _ q).2.1 rfl)).2.2.2
  refine ⟨Sg, FCe_kp h4 K (fun k q => (np _ _ q).2.1 rfl) (fun i i8 hf he a k h1 h2 q => ?_) x2, fun c hc hm => ?_, fun s hs => ⟨(x4 s hs).1, (R (321 + 7 * s) 1 (by omega) (fun q => (np _ _ q).2.2.2 s hs ⟨rfl, rfl⟩)).1.trans (x4 s hs).2⟩, fun c hc hm i hi hf => x5 c hc hm i hi ((r11 i).symm.trans hf), x6, fun c hc hm => (R (22 + c) 3 (by omega) (fun q => (np _ _ q).2.2.1 ⟨by omega, by omega, Or.inl rfl⟩)).2.2.2.trans (x7 c hc hm), fun c hc rr hr => ?_⟩
  · have := (np a k q).1 (by omega)
    have := x5 x hx hmx i i8 hf
    omega
  · obtain ⟨y1, y2, ⟨pN, D, E, L, G, k, m, z1, z2, z3, z4, z5⟩, y4, y5, y6, y7, y8⟩ := x3 c hc hm
    have d1 := (x6 x c hx hc hmx hm).1
    have ne : ∀ a k, ea c ≤ a → a < ea c + 7 → ¬ P a k := fun a k h1 h2 q => by
      have := (np a k q).1 (by have := y2.1; omega)
      omega
    exact ⟨(R (22 + c) 3 (by omega) (fun q => (np _ _ q).2.2.1 ⟨by omega, by omega, Or.inl rfl⟩)).2.2.2.trans y1, CN_kp K ne y2, ⟨pN, D, E, L, G, k, m, z1, z2, z3, cdK_kp K ne z4, z5⟩, (R (22 + c) 8 (by omega) (fun q => (np _ _ q).2.2.1 ⟨by omega, by omega, Or.inr rfl⟩)).2.2.2.trans y4, y5, Nat.lt_of_lt_of_le y6 K.1, (K.2.1 _ y6).trans y7, y8⟩
  · rw [(R (22 + c) 8 (by omega) (fun q => (np _ _ q).2.2.1 ⟨by omega, by omega, Or.inr rfl⟩)).2.2.2] at hr
    obtain ⟨z1, z2, z3, z4⟩ := x8 c hc rr hr
    exact ⟨z1, Nat.lt_of_lt_of_le z2 K.1, z3, (K.2.1 rr z2).trans z4⟩
/-- what stands of the model -/
def ML (g : am_H) (tt : Nat → ntT) (rt : Nat → Nat) (pF : Nat → List Nat) (mb : Nat → Bool) (sl : Nat → Nat) (nl : Nat → List Nat) (nc : Nat → Nat) (Gc : Nat → List (Nat × Nat)) (nf : Nat) : Prop :=
  am_S g ∧ FN g rt pF ∧ (fun s => tb g (48 * s)) = tt ∧ CDm g mb sl nl Gc nf ∧ ∀ c, c < 256 → mb c = true → am_I g 356 (sl c) = nI (rt (sl c)) ∧ rt (sl c) < 48
theorem ML_fr {Pa : Nat → Prop} {Gc : Nat → List (Nat × Nat)} {nf : Nat} (F : am_fr Pa h g) (np : ∀ a, (352 ≤ a ∧ a ≤ 364) ∨ a = 369 → ¬ Pa a) (M : ML h tt rt pF mb sl nl nc Gc nf) : ML g tt rt pF mb sl nl nc Gc nf := by
  obtain ⟨x1, x2, x3, x4, x5⟩ := M
  have e : (fun s => tb g (48 * s)) = (fun s => tb h (48 * s)) := by
    funext s n
    unfold tb
    rw [fr_rdI F (np 352 (by omega)), fr_rdI F (np 353 (by omega)), fr_rdI F (np 354 (by omega)), fr_rdI F (np 355 (by omega)), fr_rdL F (np 357 (by omega))]
  refine ⟨fr_S F x1, fun f v h1 h2 h3 => ?_, e.trans x3, CDm_fr F np x4, fun c hc hm => ⟨(fr_rdI F (np 356 (by omega))).trans (x5 c hc hm).1, (x5 c hc hm).2⟩⟩
  obtain ⟨b1, pN', m, k, r0, D', E', L', G', b2, b3, b4, b5, b6, b7⟩ := x2 f v h1 h2 h3
  exact ⟨b1, pN', m, k, r0, D', E', L', G', b2, b3, b4, by rw [congrFun e (48 + f)]; exact b5, (fr_rdI F (np 356 (by omega))).trans b6, b7⟩
end XLS
/-- a cell on both sides -/
def E2 (gx gm : am_H) (mb ch dn : Nat → Bool) (c : Nat) : Prop := ∃ st, st ≤ 6 ∧ iV gx (22 + c) (am_I gm 365 c) (am_L gm 370 c) (am_D gm 371 c) (am_I gm 366 c) st ∧ (3 ≤ st → st ≤ 5 → am_I gx (22 + c) 5 = am_I gm 367 c ∧ am_I gx (22 + c) 6 = am_I gm 368 c) ∧ (∃ k, k ≤ 24 ∧ am_I gx (22 + c) 9 = nI k ∧ am_I gm 373 c = nI k ∧ ∀ rr, am_R gx (22 + c) 8 = some rr → ∀ i, i < k → am_I gx rr i = am_I gm 372 (24 * c + i)) ∧ (am_R gx (22 + c) 8 = none → am_I gm 373 c = nI 0) ∧ (mb c = false → st ≤ 2) ∧ (st = 6 → ch c = true ∧ dn c = false)
section E2S
variable {P : Nat → Nat → Prop} {gx gm gx' gm' : am_H} {mb ch dn dn' : Nat → Bool} {c x : Nat}
theorem E2_keep (h4 : 402 ≤ gx.1) (hc : c < 256) (hx : c ≠ x) (K : kp P gx gx') (np : ∀ k, ¬ P (22 + c) k) (nr : ∀ rr, am_R gx (22 + c) 8 = some rr → rr < gx.1 ∧ ∀ k, ¬ P rr k) (F : MFr x gm gm') (hd : dn' c = dn c) (E : E2 gx gm mb ch dn c) : E2 gx' gm' mb ch dn' c := by
  obtain ⟨st, e1, e2, e3, ⟨k, k1, k2, k3, k4⟩, en, e5, e6⟩ := E
  have G := fun k => K.2.2 (22 + c) k (by omega) (np k)
  have f365 := F.2.1 365 c (by omega)
  have f366 := F.2.1 366 c (by omega)
  have f367 := F.2.1 367 c (by omega)
  have f368 := F.2.1 368 c (by omega)
  have f373 := F.2.1 373 c (by omega)
  obtain ⟨f370, f371⟩ := F.2.2 c hx
  refine ⟨st, e1, ?_, ?_, ⟨k, k1, (G 9).1.trans k2, f373.trans k3, fun rr hr i hi => ?_⟩, fun z => (by rw [(G 8).2.2.2] at z; rw [f373]; exact en z), e5, by rw [hd]; exact e6⟩
  · rw [f365, f366, f370, f371]
    exact iV_eq (fun j => ⟨(G j).1, (G j).2.1 (by omega), (G j).2.2.1 (by omega) (by omega)⟩) e2
  · rw [(G 5).1, (G 6).1, f367, f368]; exact e3
  · rw [(G 8).2.2.2] at hr
    obtain ⟨r1, r2⟩ := nr rr hr
    rw [(K.2.2 rr i r1 (r2 i)).1, F.2.1 372 (24 * c + i) (by omega)]
    exact k4 rr hr i hi
/-- the values that are read -/
def cvM (gm : am_H) (c : Nat) : Option (Option VL) := if am_I gm 365 c = nI 0 ∨ am_I gm 365 c = nI 6 then none else if am_I gm 365 c = nI 1 then some (some (.inl (am_L gm 370 c))) else if am_I gm 365 c = nI 2 then some (some (.inr (am_D gm 371 c))) else some none
theorem E2_cv (hc : c < 256) (E : E2 gx gm mb ch dn c) (hn : ch c = true → dn c = true) : (match cvM gm c with
    | none => am_I gx (22 + c) 0 = nI 0
    | some none => (∃ s, 3 ≤ s ∧ s ≤ 5 ∧ am_I gx (22 + c) 0 = nI s) ∧ ∃ k, 1 ≤ k ∧ k ≤ 11 ∧ am_I gx (22 + c) 4 = nI k
    | some (some (.inl x)) => am_I gx (22 + c) 0 = nI 1 ∧ am_L gx (22 + c) 1 = x
    | some (some (.inr y)) => am_I gx (22 + c) 0 = nI 2 ∧ am_D gx (22 + c) 2 = y ∧ okD y) ∧ match cvM gm c with
    | none => am_I gm 365 c = nI 0
    | some none => ∃ s, 3 ≤ s ∧ s ≤ 5 ∧ am_I gm 365 c = nI s
    | some (some (.inl x)) => am_I gm 365 c = nI 1 ∧ am_L gm 370 c = x
    | some (some (.inr y)) => am_I gm 365 c = nI 2 ∧ am_D gm 371 c = y ∧ okD y := by
  obtain ⟨st, e1, ⟨v1, v2, v3, v4, v5⟩, e3, e4, -, e5, e6⟩ := E
  have n6 : st ≠ 6 := fun q => by
    obtain ⟨a, b⟩ := e6 q
    rw [hn a] at b; cases b
  have ne : ∀ a b, a < 2 ^ 31 → b < 2 ^ 31 → a ≠ b → ¬ nI a = nI b := fun a b ha hb h q => h ((nI_eq ha hb).mp q)
  unfold cvM
  by_cases s0 : st = 0
  · subst s0
    rw [if_pos (Or.inl v2)]
    exact ⟨v1, v2⟩
  · have c0 : ¬ (am_I gm 365 c = nI 0 ∨ am_I gm 365 c = nI 6) := by rw [v2]; exact fun z => z.elim (ne _ _ (by omega) (by omega) s0) (ne _ _ (by omega) (by omega) n6)
    rw [if_neg c0]
    by_cases s1 : st = 1
    · subst s1
      rw [if_pos v2]
      exact ⟨⟨v1, v3 rfl⟩, v2, rfl⟩
    · have c1 : ¬ am_I gm 365 c = nI 1 := by rw [v2]; exact ne _ _ (by omega) (by omega) s1
      rw [if_neg c1]
      by_cases s2 : st = 2
      · subst s2
        rw [if_pos v2]
        obtain ⟨w1, w2, w3⟩ := v4 rfl
        exact ⟨⟨v1, w1, w3⟩, v2, rfl, w3⟩
      · have c2 : ¬ am_I gm 365 c = nI 2 := by rw [v2]; exact ne _ _ (by omega) (by omega) s2
        rw [if_neg c2]
        obtain ⟨w1, j, j1, j2, j3⟩ := v5 (by omega) (by omega)
        exact ⟨⟨⟨st, by omega, by omega, v1⟩, j, j1, j2, by rw [w1]; exact j3⟩, st, by omega, by omega, v2⟩
end E2S

/-! THE INVARIANT between the class and the model, on one heap -/
/-- all but what P names (address, place) stands as it stood -/
def kp (P : Nat → Nat → Prop) (h g : am_H) : Prop := h.1 ≤ g.1 ∧ (∀ a, a < h.1 → am_tg g a = am_tg h a) ∧ ∀ a k, a < h.1 → ¬ P a k → am_I g a k = am_I h a k ∧ (a ≠ 349 → am_L g a k = am_L h a k) ∧ (a ≠ 349 → a < 352 ∨ 357 < a → am_D g a k = am_D h a k) ∧ am_R g a k = am_R h a k
section KPS
variable {P P' : Nat → Nat → Prop} {h g g' : am_H} {a k : Nat}
theorem kp_refl : kp P h h := ⟨Nat.le_refl _, fun _ _ => rfl, fun _ _ _ _ => ⟨rfl, fun _ => rfl, fun _ _ => rfl, rfl⟩⟩
theorem kp_trans (F : kp P h g) (G : kp P g g') : kp P h g' := ⟨Nat.le_trans F.1 G.1, fun a ha => (G.2.1 a (Nat.lt_of_lt_of_le ha F.1)).trans (F.2.1 a ha), fun a k ha hp => by
  have h1 := F.2.2 a k ha hp
  have h2 := G.2.2 a k (Nat.lt_of_lt_of_le ha F.1) hp
  exact ⟨h2.1.trans h1.1, fun q => (h2.2.1 q).trans (h1.2.1 q), fun q q' => (h2.2.2.1 q q').trans (h1.2.2.1 q q'), h2.2.2.2.trans h1.2.2.2⟩⟩
theorem kp_mono (hP : ∀ a k, P a k → P' a k) (F : kp P h g) : kp P' h g := ⟨F.1, F.2.1, fun a k ha hp => F.2.2 a k ha (fun q => hp (hP a k q))⟩
theorem kp_ex (F : am_ex h g) : kp P h g := ⟨F.1, fun a ha => (F.2 a ha).1, fun a k ha _ => ⟨((F.2 a ha).2 k).1, fun _ => ((F.2 a ha).2 k).2.1, fun _ _ => ((F.2 a ha).2 k).2.2.1, ((F.2 a ha).2 k).2.2.2⟩⟩
theorem kp_fr {Q : Nat → Prop} (F : am_fr Q h g) (hQ : ∀ a k, Q a → P a k) : kp P h g := ⟨by rw [F.1]; exact Nat.le_refl _, fun a _ => fr_tg F, fun a k _ hp => by
  have hq : ¬ Q a := fun q => hp (hQ a k q)
  exact ⟨fr_rdI F hq, fun _ => fr_rdL F hq, fun _ _ => fr_rdD F hq, fr_rdR F⟩⟩
theorem kp_I {x : Int32} (F : kp P h g) (hP : P a k) : kp P h (am_setI g a k x) := ⟨F.1, F.2.1, fun b j hb hp => by
  refine ⟨?_, (F.2.2 b j hb hp).2⟩
  rw [hI_I]
  split
  · split
    · subst_vars; exact absurd hP hp
    · exact (F.2.2 b j hb hp).1
  · exact (F.2.2 b j hb hp).1⟩
theorem kp_L {x : Int64} (F : kp P h g) (hP : P a k) : kp P h (am_setL g a k x) := ⟨F.1, F.2.1, fun b j hb hp => by
  refine ⟨(F.2.2 b j hb hp).1, fun q => ?_, (F.2.2 b j hb hp).2.2⟩
  rw [hL_L]
  split
  · split
    · subst_vars; exact absurd hP hp
    · exact (F.2.2 b j hb hp).2.1 q
  · exact (F.2.2 b j hb hp).2.1 q⟩
theorem kp_D {x : UInt64} (F : kp P h g) (hP : P a k) : kp P h (am_setD g a k x) := ⟨F.1, F.2.1, fun b j hb hp => by
  refine ⟨(F.2.2 b j hb hp).1, (F.2.2 b j hb hp).2.1, fun q q' => ?_, (F.2.2 b j hb hp).2.2.2⟩
  rw [hD_D]
  split
  · split
    · subst_vars; exact absurd hP hp
    · exact (F.2.2 b j hb hp).2.2.1 q q'
  · exact (F.2.2 b j hb hp).2.2.1 q q'⟩
theorem kp_R {x : Option Nat} (F : kp P h g) (hP : P a k) : kp P h (am_setR g a k x) := ⟨F.1, F.2.1, fun b j hb hp => by
  refine ⟨(F.2.2 b j hb hp).1, (F.2.2 b j hb hp).2.1, (F.2.2 b j hb hp).2.2.1, ?_⟩
  rw [hR_R]
  split
  · split
    · subst_vars; exact absurd hP hp
    · exact (F.2.2 b j hb hp).2.2.2
  · exact (F.2.2 b j hb hp).2.2.2⟩
theorem kp_ob {c : Nat} (F : kp P h g) (O : am_ob h a c) : am_ob g a c := ⟨Nat.lt_of_lt_of_le O.1 F.1, by rw [F.2.1 a O.1]; exact O.2⟩
end KPS
/-- one E: the code at e and the slot s -/
def CRel (h : am_H) (e s : Nat) (fn : Bool) (kn : Nat) (pN pF : Nat → List Nat) (L : List Nat) (G : List (Nat × Nat)) : Prop :=
  ∃ D E k m r, k ≤ 40 ∧ m ≤ k ∧ r < m ∧ Rp fn kn (tb h (48 * s)) m pN pF (k + 410) r D E L G ∧ NC (tb h (48 * s)) 0 m G ∧ CO h e D (E.map nI) (L.foldl nadd []) (G.foldl gF (nI 0)) (nI k) ∧ am_I h 356 s = nI r ∧ am_I h 364 s = nI m
/-- the functions' names as they are printed, by number and arguments -/
def pFK (nf : Nat) (fA : Nat → Nat) (fM : Nat → Int64) (z : Nat) : List Nat := if z / 4 < nf ∧ fA (z / 4) = z % 4 then ltM (fM (z / 4)) else []
def pNC (cM : Nat → Nat → Int64) (s k : Nat) : List Nat := ltM (cM s k)
/-- no NaN, not infinite -/
def okD (x : UInt64) : Prop := x &&& 0x7fffffffffffffff < 0x7ff0000000000000
/-- the text -/
def iT (h : am_H) : Prop := ∃ t n, tX h t n ∧ am_I h 349 2 = nI n ∧ ∀ j, j < n → am_I h 350 j = nI (t j)
/-- OUT -/
def iO (h : am_H) : Prop := ∃ E : List Nat, E.length ≤ 400 ∧ (∀ c, c ∈ E → 1 ≤ c ∧ c < 128) ∧ am_I h 7 1 = nI E.length ∧ am_I h 349 3 = nI E.length ∧ ∀ i x, E[i]? = some x → am_I h 8 i = nI x ∧ am_I h 351 i = nI x
/-- the fault's place -/
def iF (h : am_H) : Prop := am_I h 4 13 = am_I h 349 4 ∧ ∃ c, c < 256 ∧ am_I h 302 7 = nI c
/-- the functions -/
def iN (h : am_H) (nf : Nat) (fe : Nat → Nat) (fX fM : Nat → Int64) (fA : Nat → Nat) (lab : Nat → Option Nat) : Prop :=
  nf ≤ 8 ∧ am_I h 4 10 = nI nf ∧ am_I h 349 16 = nI nf ∧ (∀ i, nf ≤ i → i < 8 → am_R h 11 i = none) ∧ (∀ i j, i < nf → j < nf → fX i = fX j → i = j) ∧
  ∀ i, i < nf → am_R h 11 i = some (fe i) ∧ am_L h (fe i) 9 = fX i ∧ am_I h (fe i) 10 = nI (fA i) ∧ am_L h 358 i = fM i ∧ am_I h 361 i = nI (fA i) ∧ NM (fX i) (fM i) ∧ 1 ≤ fA i ∧ fA i ≤ 3 ∧ am_I h (fe i) 11 = am_I h 377 i ∧ (am_I h 377 i = nI 0 ∨ am_I h 377 i = nI 1) ∧ (∀ j, j < 7 → lab (fe i + j) = none) ∧ ∃ pN L G, CRel h (fe i) (48 + i) true (fA i) pN (pFK nf fA fM) L G
/-- a value that is held: object a (class), state x, long y, double z, kind k, of the model -/
def iV (h : am_H) (a : Nat) (x : Int32) (y : Int64) (z : UInt64) (k : Int32) (st : Nat) : Prop :=
  am_I h a 0 = nI st ∧ x = nI st ∧ (st = 1 → am_L h a 1 = y) ∧ (st = 2 → am_D h a 2 = z ∧ am_L h a 1 = z.toInt64 ∧ okD z) ∧ (3 ≤ st → st ≤ 5 → am_I h a 4 = k ∧ ∃ j, 1 ≤ j ∧ j ≤ 11 ∧ k = nI j)
/-- the constants of sheet s -/
def iC (h : am_H) (s nf : Nat) (fM : Nat → Int64) (fA : Nat → Nat) (nc : Nat → Nat) (ce : Nat → Nat → Nat) (cX cM : Nat → Nat → Int64) (lab : Nat → Option Nat) : Prop :=
  nc s ≤ 5 ∧ am_I h (321 + 7 * s) 1 = nI (nc s) ∧ am_I h 362 s = nI (nc s) ∧ am_I h (321 + 7 * s) 2 = am_I h 378 s ∧ (am_I h 378 s = nI 0 ∨ am_I h 378 s = nI 1) ∧ am_I h (321 + 7 * s) 3 = am_I h 381 s ∧ (∃ j, j ≤ 11 ∧ am_I h 381 s = nI j) ∧ am_I h (321 + 7 * s) 4 = am_I h 382 s ∧
  (am_I h 378 s = nI 0 → am_I h 381 s = nI 0 → ∀ i, i < nc s → am_I h 379 (5 * s + i) = nI 1 ∨ am_I h 379 (5 * s + i) = nI 2) ∧
  ∀ i, i < nc s → am_R h (323 + 7 * s + i) 3 = some (ce s i) ∧ am_L h (ce s i) 9 = cX s i ∧ am_L h 359 (5 * s + i) = cM s i ∧ NM (cX s i) (cM s i) ∧ (∀ j, j < 7 → lab (ce s i + j) = none) ∧ (∃ G, CRel h (ce s i) (56 + 5 * s + i) false (1000 + i) (pNC cM s) (pFK nf fA fM) [] G) ∧ ∃ st, st ≤ 3 ∧ iV h (323 + 7 * s + i) (am_I h 379 (5 * s + i)) (am_L h 383 (5 * s + i)) (am_D h 384 (5 * s + i)) (am_I h 380 (5 * s + i)) st
/-- a cell -/
def iE (h : am_H) (c nf : Nat) (fM : Nat → Int64) (fA : Nat → Nat) (nc : Nat → Nat) (cM : Nat → Nat → Int64) (cd : Nat → Option (Nat × Nat)) (lab : Nat → Option Nat) : Prop :=
  ∃ st, st ≤ 6 ∧ iV h (22 + c) (am_I h 365 c) (am_L h 370 c) (am_D h 371 c) (am_I h 366 c) st ∧ (3 ≤ st → st ≤ 5 → am_I h (22 + c) 5 = am_I h 367 c ∧ am_I h (22 + c) 6 = am_I h 368 c) ∧ am_I h (22 + c) 7 = am_I h 375 c ∧ (am_I h 375 c = nI 0 ∨ am_I h 375 c = nI 1) ∧
  (∃ k, k ≤ 24 ∧ am_I h (22 + c) 9 = nI k ∧ am_I h 373 c = nI k ∧ ∀ rr, am_R h (22 + c) 8 = some rr → ∀ i, i < k → am_I h rr i = am_I h 372 (24 * c + i)) ∧
  (∀ rr, am_R h (22 + c) 8 = some rr → 402 ≤ rr ∧ rr < h.1 ∧ am_tg h rr = (100, 24) ∧ lab rr = some c) ∧ (am_R h (22 + c) 8 = none → am_I h 373 c = nI 0) ∧
  (cd c = none → am_R h (22 + c) 3 = none ∧ am_I h 369 c = -1 ∧ am_I h 376 c = nI 0 ∧ st ≤ 2) ∧
  ∀ e s, cd c = some (e, s) → am_R h (22 + c) 3 = some e ∧ am_I h 369 c = nI s ∧ s < 48 ∧ am_I h 374 s = nI 1 ∧ am_I h 376 c = am_I h 375 c ∧ (st = 6 → am_I h 376 c = nI 1) ∧ am_R h (22 + c) 8 ≠ none ∧ (∀ j, j < 7 → lab (e + j) = none) ∧ ∃ L G, CRel h e s false (nc (c / 64)) (pNC cM (c / 64)) (pFK nf fA fM) L G
/-- how many cells have a formula -/
def cntF (cd : Nat → Option (Nat × Nat)) : Nat → Nat
  | 0 => 0
  | n + 1 => cntF cd n + if (cd n).isSome then 1 else 0
/-- slots -/
def iS (h : am_H) (cd : Nat → Option (Nat × Nat)) : Prop :=
  am_I h 4 11 = nI (cntF cd 256) ∧ am_I h 349 49 = nI (cntF cd 256) ∧ cntF cd 256 ≤ 48 ∧ (∀ c c' e e' s, c < 256 → c' < 256 → cd c = some (e, s) → cd c' = some (e', s) → c = c') ∧ (∀ s, s < 48 → am_I h 374 s = nI 0 ∨ am_I h 374 s = nI 1) ∧ ∀ s, s < 48 → am_I h 374 s = nI 1 → ∃ c e, c < 256 ∧ cd c = some (e, s)
/-- constants keep no reads -/
def iH (h : am_H) : Prop := ∀ s i, s < 4 → i < 5 → am_R h (323 + 7 * s + i) 8 = none
/-- editions, no more than calls; constants keep no reads -/
def iD (q : Nat) (h : am_H) : Prop := iH h ∧ ∃ ed, ed ≤ q ∧ ed ≤ 1000 ∧ am_I h 4 12 = nI ed ∧ am_I h 349 86 = nI ed ∧ ∀ e c, 1 ≤ e → e ≤ ed → ed < e + 10 → c < 256 → am_I h 319 (e % 10 * 256 + c) = am_I h 400 (256 * ((e - 1) % 10) + c) ∧ am_L h 320 (e % 10 * 256 + c) = am_L h 401 (256 * ((e - 1) % 10) + c)
/-- what was done -/
def iP (h : am_H) : Prop := ∃ dn, dn ≤ 48 ∧ am_I h 311 11 = nI dn ∧ am_I h 349 81 = nI dn ∧ ∀ i, i < dn → am_I h 318 i = am_I h 394 i

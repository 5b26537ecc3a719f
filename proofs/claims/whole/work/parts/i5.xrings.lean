/-! THE CLASS: the rings are found -/
theorem cnB_set {r r' : Nat → Bool} {i : Nat} (h1 : r i = false) (h2 : r' i = true) (h3 : ∀ k, k ≠ i → r' k = r k) : ∀ n, i < n → cnB r' n = cnB r n + 1 := by
  have E : ∀ n, n ≤ i → cnB r' n = cnB r n := by
    intro n
    induction n with
    | zero => intro _; rfl
    | succ n ih =>
      intro hn
      show cnB r' n + (if r' n = true then 1 else 0) = cnB r n + (if r n = true then 1 else 0)
      rw [ih (by omega), h3 n (by omega)]
  intro n
  induction n with
  | zero => intro h; omega
  | succ n ih =>
    intro h
    show cnB r' n + (if r' n = true then 1 else 0) = cnB r n + (if r n = true then 1 else 0) + 1
    by_cases e : i = n
    · subst e
      rw [E i (Nat.le_refl _), h1, h2, if_pos rfl, if_neg (by decide)]
    · rw [ih (by omega), h3 n (by omega)]; omega
theorem cnB_ext {r r' : Nat → Bool} (h : ∀ k, r' k = r k) (n : Nat) : cnB r' n = cnB r n := by
  rw [show r' = r from funext h]
/-- the rings: i looked at, R of them, F cells in them; q the ring of a member, st their starts, rc their cells -/
def RP (n : Nat) (m : Nat → Nat) (mu : Nat → Nat → Bool) (i R F : Nat) (q st rc : Nat → Nat) : Prop :=
  st R = F ∧ st 0 = 0 ∧ (∀ r, r < R → st r < st (r + 1)) ∧
  (∀ r, r < R → ∀ j, st r ≤ j → j < st (r + 1) → ∃ k, k < n ∧ rc j = m k ∧ q k = r) ∧
  (∀ k, k < n → q k ≠ 999 → q k < R ∧ ∃ j, st (q k) ≤ j ∧ j < st (q k + 1) ∧ rc j = m k) ∧
  (∀ r, r < R → ∀ j, st r ≤ j → j + 1 < st (r + 1) → rc j < rc (j + 1)) ∧
  (∀ r, r < R → ∃ l, l < i ∧ l < n ∧ rc (st r) = m l ∧ q l = r ∧ ∀ k, k < n → (q k = r ↔ mu l k = true) ∧ (mu l k = true → l ≤ k)) ∧
  (∀ r, r + 1 < R → rc (st r) < rc (st (r + 1))) ∧
  (∀ k, k < i → k < n → mu k k = true → q k ≠ 999) ∧
  F = cnB (fun k => !decide (q k = 999)) n
/-- one ring, as far as it is gathered -/
def RI (n : Nat) (m : Nat → Nat) (mu : Nat → Nat → Bool) (i R F : Nat) (q rc : Nat → Nat) (j F' : Nat) (q' rc' : Nat → Nat) : Prop :=
  (∀ k, q' k = if i ≤ k ∧ k < j ∧ mu i k = true then R else q k) ∧ F ≤ F' ∧ (∀ j', j' < F → rc' j' = rc j') ∧
  (∀ j', F ≤ j' → j' < F' → ∃ k, i ≤ k ∧ k < j ∧ mu i k = true ∧ rc' j' = m k) ∧
  (∀ k, i ≤ k → k < j → mu i k = true → ∃ j', F ≤ j' ∧ j' < F' ∧ rc' j' = m k) ∧
  (∀ j', F ≤ j' → j' + 1 < F' → rc' j' < rc' (j' + 1)) ∧
  F' = cnB (fun k => !decide (q' k = 999)) n ∧ (i < j → F < F' ∧ rc' F = m i)
section RNG
variable {n i R F : Nat} {m : Nat → Nat} {mu : Nat → Nat → Bool} {q st rc : Nat → Nat}
theorem RP_R (P : RP n m mu i R F q st rc) : R ≤ F ∧ F ≤ n := by
  obtain ⟨p1, p0, p2, -, -, -, -, -, -, p9⟩ := P
  have : ∀ r, r ≤ R → r ≤ st r := by
    intro r
    induction r with
    | zero => intro _; exact Nat.zero_le _
    | succ r ih => intro h; have := ih (by omega); have := p2 r (by omega); omega
  have h1 := this R (Nat.le_refl _)
  have h2 := cnB_n (r := fun k => !decide (q k = 999)) n
  omega
/-- mu is an equivalence where it holds of one -/
def muE (n : Nat) (mu : Nat → Nat → Bool) : Prop := (∀ i j, i < n → j < n → mu i j = true → mu j i = true) ∧ ∀ i a j, i < n → a < n → j < n → mu i a = true → mu a j = true → mu i j = true
theorem RP_U (E : muE n mu) (P : RP n m mu i R F q st rc) (hi : i < n) (q0 : q i = 999) {k : Nat} (hk : k < n) (h : mu i k = true) : q k = 999 := by
  apply Classical.byContradiction
  intro hq
  obtain ⟨p1, p0, p2, p3, p4, p5, p6, p7, p8, p9⟩ := P
  obtain ⟨h1, -⟩ := p4 k hk hq
  obtain ⟨l, l1, l2, l3, l4, l5⟩ := p6 (q k) h1
  have a1 := (l5 k hk).1.mp rfl
  have a2 := E.2 l k i l2 hk hi a1 (E.1 i k hi hk h)
  have a3 := (l5 i hi).1.mpr a2
  omega
theorem RI_0 (P : RP n m mu i R F q st rc) : RI n m mu i R F q rc i F q rc := by
  refine ⟨fun k => ?_, Nat.le_refl _, fun _ _ => rfl, fun j h1 h2 => by omega, fun k h1 h2 => by omega, fun j h1 h2 => by omega, P.2.2.2.2.2.2.2.2.2, fun h => absurd h (Nat.lt_irrefl _)⟩
  rw [if_neg (by omega)]
theorem RI_no {j F' : Nat} {q' rc' : Nat → Nat} (I : RI n m mu i R F q rc j F' q' rc') (h : mu i j = false) (hi : i ≤ j) (hii : mu i i = true) : RI n m mu i R F q rc (j + 1) F' q' rc' := by
  obtain ⟨s1, s2, s3, s4, s5, s6, s7, s8⟩ := I
  refine ⟨fun k => ?_, s2, s3, fun j' h1 h2 => ?_, fun k h1 h2 h3 => ?_, s6, s7, fun h' => ?_⟩
  · rw [s1 k]
    by_cases e : k = j
    · subst e
      rw [if_neg (by omega), if_neg (fun z => by rw [h] at z; exact absurd z.2.2 (by decide))]
    · by_cases c : i ≤ k ∧ k < j ∧ mu i k = true
      · rw [if_pos c, if_pos ⟨c.1, by omega, c.2.2⟩]
      · rw [if_neg c, if_neg (fun z => c ⟨z.1, by omega, z.2.2⟩)]
  · obtain ⟨k, k1, k2, k3⟩ := s4 j' h1 h2
    exact ⟨k, k1, by omega, k3⟩
  · have : k ≠ j := fun e => by rw [e, h] at h3; cases h3
    exact s5 k h1 (by omega) h3
  · have : i ≠ j := fun e => by rw [← e, hii] at h; cases h
    exact s8 (by omega)
theorem RI_yes {j F' : Nat} {q' rc' : Nat → Nat} (hm : ∀ a b, a < b → b < n → m a < m b) (hR : R < 999) (I : RI n m mu i R F q rc j F' q' rc') (h : mu i j = true) (hi : i ≤ j) (hj : j < n) (hq : q j = 999) : RI n m mu i R F q rc (j + 1) (F' + 1) (fun k => if k = j then R else q' k) (fun k => if k = F' then m j else rc' k) ∧ F' < n := by
  obtain ⟨s1, s2, s3, s4, s5, s6, s7, s8⟩ := I
  have qj : q' j = 999 := by rw [s1 j, if_neg (by omega)]; exact hq
  have cs : cnB (fun k => !decide ((if k = j then R else q' k) = 999)) n = cnB (fun k => !decide (q' k = 999)) n + 1 := by
    refine cnB_set (i := j) ?_ ?_ (fun k hk => ?_) n hj
    · rw [qj]; rfl
    · show (!decide ((if j = j then R else q' j) = 999)) = true
      rw [if_pos rfl, decide_eq_false (by omega)]; rfl
    · show (!decide ((if k = j then R else q' k) = 999)) = _
      rw [if_neg hk]
  have cn := cnB_n (r := fun k => !decide ((if k = j then R else q' k) = 999)) n
  refine ⟨⟨fun k => ?_, by omega, fun j' h1 => ?_, fun j' h1 h2 => ?_, fun k h1 h2 h3 => ?_, fun j' h1 h2 => ?_, by rw [cs, ← s7], fun h' => ?_⟩, by omega⟩
  · show (if k = j then R else q' k) = _
    by_cases e : k = j
    · subst e
      rw [if_pos rfl, if_pos ⟨hi, by omega, h⟩]
    · rw [if_neg e, s1 k]
      by_cases c : i ≤ k ∧ k < j ∧ mu i k = true
      · rw [if_pos c, if_pos ⟨c.1, by omega, c.2.2⟩]
      · rw [if_neg c, if_neg (fun z => c ⟨z.1, by omega, z.2.2⟩)]
  · show (if j' = F' then m j else rc' j') = _
    rw [if_neg (by omega)]; exact s3 j' h1
  · show ∃ k, i ≤ k ∧ k < j + 1 ∧ mu i k = true ∧ (if j' = F' then m j else rc' j') = m k
    by_cases e : j' = F'
    · exact ⟨j, hi, by omega, h, by rw [if_pos e]⟩
    · obtain ⟨k, k1, k2, k3, k4⟩ := s4 j' h1 (by omega)
      exact ⟨k, k1, by omega, k3, by rw [if_neg e]; exact k4⟩
  · show ∃ j', F ≤ j' ∧ j' < F' + 1 ∧ (if j' = F' then m j else rc' j') = m k
    by_cases e : k = j
    · subst e
      exact ⟨F', s2, by omega, if_pos rfl⟩
    · obtain ⟨j', j1, j2, j3⟩ := s5 k h1 (by omega) h3
      exact ⟨j', j1, by omega, by rw [if_neg (by omega)]; exact j3⟩
  · show (if j' = F' then m j else rc' j') < (if j' + 1 = F' then m j else rc' (j' + 1))
    rw [if_neg (by omega)]
    by_cases e : j' + 1 = F'
    · rw [if_pos e]
      obtain ⟨k, k1, k2, k3, k4⟩ := s4 j' h1 (by omega)
      rw [k4]; exact hm k j k2 hj
    · rw [if_neg e]; exact s6 j' h1 (by omega)
  · refine ⟨by omega, ?_⟩
    show (if F = F' then m j else rc' F) = m i
    by_cases e : i = j
    · subst e
      by_cases c : F = F'
      · rw [if_pos c]
      · obtain ⟨k, k1, k2, -⟩ := s4 F (Nat.le_refl _) (by omega)
        omega
    · have := s8 (by omega)
      rw [if_neg (by omega)]; exact this.2
theorem RI_full {j F' : Nat} {q' rc' : Nat → Nat} (I : RI n m mu i R F q rc j F' q' rc') (all : ∀ k, k < n → q' k ≠ 999) (U : ∀ k, k < n → mu i k = true → q k = 999) (hij : i ≤ j) (hj : j ≤ n) (hi : i < n) (hii : mu i i = true) : RI n m mu i R F q rc n F' q' rc' := by
  obtain ⟨s1, s2, s3, s4, s5, s6, s7, s8⟩ := I
  have lt : ∀ k, i ≤ k → k < n → mu i k = true → k < j := fun k h1 h2 h3 => by
    apply Classical.byContradiction
    intro c
    have := all k h2
    rw [s1 k, if_neg (fun z => c z.2.1)] at this
    exact this (U k h2 h3)
  refine ⟨fun k => ?_, s2, s3, fun j' h1 h2 => ?_, fun k h1 h2 h3 => s5 k h1 (lt k h1 h2 h3) h3, s6, s7, fun _ => s8 (lt i (Nat.le_refl _) hi hii)⟩
  · rw [s1 k]
    by_cases c : i ≤ k ∧ k < n ∧ mu i k = true
    · rw [if_pos c, if_pos ⟨c.1, lt k c.1 c.2.1 c.2.2, c.2.2⟩]
    · rw [if_neg c, if_neg (fun z => c ⟨z.1, by omega, z.2.2⟩)]
  · obtain ⟨k, k1, k2, k3⟩ := s4 j' h1 h2
    exact ⟨k, k1, by omega, k3⟩
theorem RP_skip (P : RP n m mu i R F q st rc) (h : mu i i = true → q i ≠ 999) : RP n m mu (i + 1) R F q st rc := by
  obtain ⟨p1, p0, p2, p3, p4, p5, p6, p7, p8, p9⟩ := P
  refine ⟨p1, p0, p2, p3, p4, p5, fun r hr => ?_, p7, fun k h1 h2 h3 => ?_, p9⟩
  · obtain ⟨l, l1, l2⟩ := p6 r hr
    exact ⟨l, by omega, l2⟩
  · by_cases e : k = i
    · subst e; exact h h3
    · exact p8 k (by omega) h2 h3
theorem RP_add {F' : Nat} {q' rc' : Nat → Nat} (E : muE n mu) (hm : ∀ a b, a < b → b < n → m a < m b) (P : RP n m mu i R F q st rc) (hi : i < n) (q0 : q i = 999) (hii : mu i i = true) (hR : R < 999) (I : RI n m mu i R F q rc n F' q' rc') : RP n m mu (i + 1) (R + 1) F' q' (fun r => if r = R + 1 then F' else st r) rc' := by
  have U := fun k hk h => RP_U E P hi q0 (k := k) hk h
  obtain ⟨p1, p0, p2, p3, p4, p5, p6, p7, p8, p9⟩ := P
  obtain ⟨s1, s2, s3, s4, s5, s6, s7, s8⟩ := I
  obtain ⟨s8, s9⟩ := s8 hi
  have stm : ∀ r, r ≤ R → ∀ r', r ≤ r' → r' ≤ R → st r ≤ st r' := by
    intro r hr r' h1 h2
    have : ∀ k, r + k ≤ R → st r ≤ st (r + k) := by
      intro k
      induction k with
      | zero => intro _; exact Nat.le_refl _
      | succ k ih => intro h; have := ih (by omega); have := p2 (r + k) (by omega); show st r ≤ st (r + k + 1); omega
    have := this (r' - r) (by omega)
    rwa [show r + (r' - r) = r' by omega] at this
  have lo : ∀ r, r ≤ R → (if r = R + 1 then F' else st r) = st r := fun r hr => if_neg (by omega)
  have new : ∀ k, k < n → mu i k = true → i ≤ k := fun k hk h => by
    apply Classical.byContradiction
    intro hlt
    have a1 := E.2 k i k hk hi hk (E.1 i k hi hk h) h
    exact p8 k (by omega) hk a1 (U k hk h)
  have qn : ∀ k, k < n → mu i k = true → q' k = R := fun k hk h => by rw [s1 k, if_pos ⟨new k hk h, hk, h⟩]
  have qo : ∀ k, k < n → ¬ mu i k = true → q' k = q k := fun k hk h => by rw [s1 k, if_neg (fun z => h z.2.2)]
  refine ⟨if_pos rfl, by show (if 0 = R + 1 then F' else st 0) = 0; rw [if_neg (by omega)]; exact p0, fun r hr => ?_, fun r hr j h1 h2 => ?_, fun k hk hq => ?_, fun r hr j h1 h2 => ?_, fun r hr => ?_, fun r hr => ?_, fun k h1 h2 h3 => ?_, s7⟩
  · show (if r = R + 1 then F' else st r) < (if r + 1 = R + 1 then F' else st (r + 1))
    rw [lo r (by omega)]
    by_cases e : r = R
    · subst e; rw [if_pos rfl, p1]; exact s8
    · rw [if_neg (by omega)]; exact p2 r (by omega)
  · have h1 : (if r = R + 1 then F' else st r) ≤ j := h1
    have h2 : j < (if r + 1 = R + 1 then F' else st (r + 1)) := h2
    rw [lo r (by omega)] at h1
    by_cases e : r = R
    · subst e
      rw [if_pos rfl] at h2
      obtain ⟨k, k1, k2, k3, k4⟩ := s4 j (by omega) h2
      exact ⟨k, k2, k4, qn k k2 k3⟩
    · rw [if_neg (by omega)] at h2
      have := stm (r + 1) (by omega) R (by omega) (Nat.le_refl _)
      obtain ⟨k, k1, k2, k3⟩ := p3 r (by omega) j h1 h2
      refine ⟨k, k1, (s3 j (by omega)).trans k2, ?_⟩
      rw [qo k k1 (fun z => by have := U k k1 z; omega)]; exact k3
  · show q' k < R + 1 ∧ ∃ j, (if q' k = R + 1 then F' else st (q' k)) ≤ j ∧ j < (if q' k + 1 = R + 1 then F' else st (q' k + 1)) ∧ rc' j = m k
    by_cases c : mu i k = true
    · rw [qn k hk c]
      obtain ⟨j', j1, j2, j3⟩ := s5 k (new k hk c) hk c
      exact ⟨by omega, j', by rw [lo R (Nat.le_refl _)]; omega, by rw [if_pos rfl]; exact j2, j3⟩
    · rw [qo k hk c] at hq ⊢
      obtain ⟨h1, j, j1, j2, j3⟩ := p4 k hk hq
      have := stm (q k + 1) (by omega) R (by omega) (Nat.le_refl _)
      exact ⟨by omega, j, by rw [lo _ (by omega)]; exact j1, by rw [if_neg (by omega)]; exact j2, (s3 j (by omega)).trans j3⟩
  · have h1 : (if r = R + 1 then F' else st r) ≤ j := h1
    have h2 : j + 1 < (if r + 1 = R + 1 then F' else st (r + 1)) := h2
    rw [lo r (by omega)] at h1
    by_cases e : r = R
    · subst e
      rw [if_pos rfl] at h2
      exact s6 j (by omega) h2
    · rw [if_neg (by omega)] at h2
      have := stm (r + 1) (by omega) R (by omega) (Nat.le_refl _)
      rw [s3 j (by omega), s3 (j + 1) (by omega)]
      exact p5 r (by omega) j h1 h2
  · show ∃ l, l < i + 1 ∧ l < n ∧ rc' (if r = R + 1 then F' else st r) = m l ∧ q' l = r ∧ ∀ k, k < n → (q' k = r ↔ mu l k = true) ∧ (mu l k = true → l ≤ k)
    rw [lo r (by omega)]
    by_cases e : r = R
    · subst e
      refine ⟨i, by omega, hi, by rw [p1]; exact s9, qn i hi hii, fun k hk => ⟨⟨fun z => ?_, qn k hk⟩, new k hk⟩⟩
      apply Classical.byContradiction
      intro c
      rw [qo k hk c] at z
      have := (p4 k hk (by omega)).1
      omega
    · obtain ⟨l, l1, l2, l3, l4, l5⟩ := p6 r (by omega)
      have nl : ¬ mu i l = true := fun z => by have := U l l2 z; omega
      have := stm (r + 1) (by omega) R (by omega) (Nat.le_refl _)
      have := p2 r (by omega)
      refine ⟨l, by omega, l2, (s3 (st r) (by omega)).trans l3, by rw [qo l l2 nl]; exact l4, fun k hk => ⟨?_, (l5 k hk).2⟩⟩
      by_cases c : mu i k = true
      · rw [qn k hk c]
        constructor
        · intro z; omega
        · intro z
          exact absurd (E.1 l i l2 hi (E.2 l k i l2 hk hi z (E.1 i k hi hk c))) nl
      · rw [qo k hk c]; exact (l5 k hk).1
  · show rc' (if r = R + 1 then F' else st r) < rc' (if r + 1 = R + 1 then F' else st (r + 1))
    rw [lo r (by omega), lo (r + 1) (by omega)]
    have a1 := stm (r + 1) (by omega) R (by omega) (Nat.le_refl _)
    have a2 := p2 r (by omega)
    rw [s3 (st r) (by omega)]
    by_cases e : r + 1 = R
    · rw [e, p1, s9]
      obtain ⟨l, l1, l2, l3, -⟩ := p6 r (by omega)
      rw [l3]; exact hm l i l1 hi
    · have := p2 (r + 1) (by omega)
      have := stm (r + 1 + 1) (by omega) R (by omega) (Nat.le_refl _)
      rw [s3 (st (r + 1)) (by omega)]
      exact p7 r (by omega)
  · by_cases c : mu i k = true
    · rw [qn k h2 c]; omega
    · rw [qo k h2 c]
      by_cases e : k = i
      · subst e; exact absurd hii c
      · exact p8 k (by omega) h2 h3
end RNG
/-- the rings in the heap -/
def RH (g : am_H) (n R F : Nat) (q st rc : Nat → Nat) (full : Bool) : Prop := am_I g 311 10 = nI R ∧ (∀ k, k < n → am_I g 315 k = if q k = 999 then -1 else nI (q k)) ∧ (∀ r, r < R ∨ (r = R ∧ full = true) → am_I g 317 r = nI (st r)) ∧ ∀ j, j < F → am_I g 316 j = nI (rc j)
def RK (h g : am_H) (n : Nat) (m : Nat → Nat) (W : Nat → Nat → Bool) : Prop := am_fr plP h g ∧ MBx g n m ∧ (∀ a, am_L g 313 a = am_L h 313 a) ∧ ∀ a, a < n → LBt (am_L g 314 a) (fun j => decide (j < n) && W a j)
section XRG
variable {d n : Nat} {g h : am_H} {mb : Nat → Bool} {m : Nat → Nat} {W : Nat → Nat → Bool}
theorem RK_I {a k : Nat} {x : Int32} (K : RK h g n m W) (ha : (315 ≤ a ∧ a ≤ 318) ∨ (a = 311 ∧ k ≠ 7)) : RK h (am_setI g a k x) n m W := by
  obtain ⟨k1, k2, k3, k4⟩ := K
  refine ⟨fr_I k1 (by omega), ⟨?_, fun i hi => ?_⟩, k3, k4⟩
  · rw [hI_I]
    split
    · rw [if_neg (by omega)]; exact k2.1
    · exact k2.1
  · rw [rI_a (by omega)]; exact k2.2 i hi
theorem x_ringIn (S : am_S h) (M : MBR mb n m) {i R F : Nat} {q rc st : Nat → Nat} (P : RP n m (fun i j => W i j && W j i) i R F q st rc) (E : muE n (fun i j => W i j && W j i)) (hi : i < n) (q0 : q i = 999) (hii : (W i i && W i i) = true) :
    ∀ t j F' q' rc' g, n - j = t → i ≤ j → j ≤ n → RK h g n m W → RH g n R F' q' st rc' true → RI n m (fun i j => W i j && W j i) i R F q rc j F' q' rc' → ∃ F2 q2 rc2 g2 v2, RK h g2 n m W ∧ RH g2 n R F2 q2 st rc2 true ∧ RI n m (fun i j => W i j && W j i) i R F q rc n F2 q2 rc2 ∧ ∀ Q, am_J (d + 1) 116 78 [some (.ref 311), some (.int (nI F')), some (.int (nI i)), some (.int (nI j))] [] g Q ↔ am_J (d + 1) 116 149 [some (.ref 311), some (.int (nI F2)), some (.int (nI i)), v2] [] g2 Q := by
  have n48 := M.1
  have rf := RP_R P
  intro t
  induction t with
  | zero =>
    intro j F' q' rc' g ht hij hj K H I
    obtain rfl : j = n := by omega
    have Sg := fr_S K.1 S
    refine ⟨F', q', rc', g, some (.int (nI j)), K, H, I, fun Q => ?_⟩
    rw [g116_78]
    simp (disch := first | with_reducible assumption | omega | exact Or.inl rfl | exact Or.inr rfl | exact bI_01 | exact c_cat | exact vt_ref | exact vt_null | rfl | with_reducible repeat (first | assumption | omega | apply S_I | apply S_L | apply S_D | apply ob_I | apply ob_L | apply ob_D | apply ob_R | apply ax_I | apply ax_L | apply ax_D | apply ax_R | apply o303 | apply o307 | apply o302 | apply o301 | apply ax304 | apply ax305 | apply ax306 | apply ax308 | apply ax309 | apply ax310 | apply lt_S | apply ar305 | apply ar308 | apply ar309)) only [g116_79, g116_80, g116_83, Option.toList, List.nil_append, List.cons_append, va_rf, nI_ltI, nI_leI, nI_eq, nI_add, nI_sub, nI_lt0, nI_e0, nI_m1, m1_nI, Nat.reduceEqDiff, Nat.reduceLT, Nat.reduceLeDiff, Nat.reduceAdd, Nat.reduceSub, Nat.reduceMul, ↓reduceIte, eq_self, K.2.1.1, Nat.le_refl]
  | succ t ih =>
    intro j F' q' rc' g ht hij hj K H I
    have Sg := fr_S K.1 S
    have hj' : j < n := by omega
    have b1 := x_hasBit (d := d) (g := g) (x := am_L g 314 i) (j := j) (by omega)
    rw [LBt_get (K.2.2.2 i hi) (show j < 64 by omega), decide_eq_true hj', Bool.true_and] at b1
    have b2 := x_hasBit (d := d) (g := g) (x := am_L g 314 j) (j := i) (by omega)
    rw [LBt_get (K.2.2.2 j hj') (show i < 64 by omega), decide_eq_true hi, Bool.true_and] at b2
    by_cases F48 : F' < 48
    case neg =>
      have c1 := I.2.2.2.2.2.2.1
      have F64 : F' < 100 := by have := cnB_n (r := fun k => !decide (q' k = 999)) n; omega
      have all := cnB_all (r := fun k => !decide (q' k = 999)) n (by omega)
      refine ⟨F', q', rc', g, some (.int (nI j)), K, H, RI_full I (fun k hk z => by have := all k hk; rw [decide_eq_true z] at this; cases this) (fun k hk z => RP_U E P hi q0 hk z) hij hj hi hii, fun Q => ?_⟩
      rw [g116_78]
      simp (disch := first | with_reducible assumption | omega | exact Or.inl rfl | exact Or.inr rfl | exact bI_01 | exact c_cat | exact vt_ref | exact vt_null | rfl | with_reducible repeat (first | assumption | omega | apply S_I | apply S_L | apply S_D | apply ob_I | apply ob_L | apply ob_D | apply ob_R | apply ax_I | apply ax_L | apply ax_D | apply ax_R | apply o303 | apply o307 | apply o302 | apply o301 | apply ax304 | apply ax305 | apply ax306 | apply ax308 | apply ax309 | apply ax310 | apply lt_S | apply ar305 | apply ar308 | apply ar309)) only [g116_79, g116_80, g116_83, g116_86, g116_87, g116_89, Option.toList, List.nil_append, List.cons_append, va_rf, nI_ltI, nI_leI, nI_eq, nI_add, nI_sub, nI_lt0, nI_e0, nI_m1, m1_nI, Nat.reduceEqDiff, Nat.reduceLT, Nat.reduceLeDiff, Nat.reduceAdd, Nat.reduceSub, Nat.reduceMul, ↓reduceIte, eq_self, K.2.1.1, show ¬ n ≤ j by omega, show 48 ≤ F' by omega]
    by_cases w1 : W i j = true
    · rw [w1] at b1
      by_cases w2 : W j i = true
      · rw [w2] at b2
        have z : (W i j && W j i) = true := by rw [w1, w2]; rfl
        obtain ⟨I2, fn⟩ := RI_yes M.2.2.1 (show R < 999 by omega) I z hij hj' (RP_U E P hi q0 hj' z)
        obtain ⟨h1, h2, h3, h4⟩ := H
        have ej := K.2.1.2 j hj'
        obtain ⟨F2, q2, rc2, g2, v2, K2, H2, I3, R2⟩ := ih (j + 1) (F' + 1) (fun k => if k = j then R else q' k) (fun k => if k = F' then m j else rc' k) (am_setI (am_setI g 315 j (nI R)) 316 F' (nI (m j))) (by omega) (by omega) (by omega) (RK_I (RK_I K (by omega)) (by omega)) ⟨by rw [rI_a (by decide), rI_a (by decide)]; exact h1, fun k hk => by
          rw [rI_a (by decide)]
          show am_I (am_setI g 315 j (nI R)) 315 k = if (if k = j then R else q' k) = 999 then -1 else nI (if k = j then R else q' k)
          by_cases e : k = j
          · subst e; rw [rI_eq, if_pos rfl, if_neg (by omega)]
          · rw [rI_k e, if_neg e]; exact h2 k hk, fun r hr => by rw [rI_a (by decide), rI_a (by decide)]; exact h3 r hr, fun k hk => by
          show am_I (am_setI (am_setI g 315 j (nI R)) 316 F' (nI (m j))) 316 k = nI (if k = F' then m j else rc' k)
          by_cases e : k = F'
          · subst e; rw [rI_eq, if_pos rfl]
          · rw [rI_k e, rI_a (by decide), if_neg e]; exact h4 k (by omega)⟩ I2
        refine ⟨F2, q2, rc2, g2, v2, K2, H2, I3, fun Q => ?_⟩
        rw [← R2 Q, g116_78]
        simp (disch := first | with_reducible assumption | omega | exact Or.inl rfl | exact Or.inr rfl | exact bI_01 | exact c_cat | exact vt_ref | exact vt_null | rfl | with_reducible repeat (first | assumption | omega | apply S_I | apply S_L | apply S_D | apply ob_I | apply ob_L | apply ob_D | apply ob_R | apply ax_I | apply ax_L | apply ax_D | apply ax_R | apply o303 | apply o307 | apply o302 | apply o301 | apply ax304 | apply ax305 | apply ax306 | apply ax308 | apply ax309 | apply ax310 | apply lt_S | apply ar305 | apply ar308 | apply ar309)) only [g116_79, g116_80, g116_83, g116_86, g116_87, g116_89, g116_92, g116_93, g116_96, g116_97, g116_98, g116_99, g116_102, g116_105, g116_106, g116_109, g116_110, g116_111, g116_112, g116_115, g116_118, g116_119, g116_122, g116_123, g116_124, g116_127, g116_128, g116_129, g116_132, g116_133, g116_134, g116_137, g116_138, g116_139, g116_140, g116_143, g116_146, Option.toList, List.nil_append, List.cons_append, va_rf, nI_ltI, nI_leI, nI_eq, nI_add, nI_sub, nI_lt0, nI_e0, nI_m1, m1_nI, Nat.reduceEqDiff, Nat.reduceLT, Nat.reduceLeDiff, Nat.reduceAdd, Nat.reduceSub, Nat.reduceMul, ↓reduceIte, eq_self, K.2.1.1, show ¬ n ≤ j by omega, show ¬ 48 ≤ F' by omega, b1 _, b2 _, bI_t, h1, hI_I, hI_L, hI_D, hI_R, hL_I, hL_L, hL_D, hL_R, hD_I, hD_L, hD_D, hD_R, hR_I, hR_L, hR_D, ↓reduceIte, Nat.reduceEqDiff, ej]
      · have z : (W i j && W j i) = false := by rw [w1, Bool.eq_false_iff.mpr w2]; rfl
        rw [Bool.eq_false_iff.mpr w2] at b2
        obtain ⟨F2, q2, rc2, g2, v2, K2, H2, I3, R2⟩ := ih (j + 1) F' q' rc' g (by omega) (by omega) (by omega) K H (RI_no I z hij hii)
        refine ⟨F2, q2, rc2, g2, v2, K2, H2, I3, fun Q => ?_⟩
        rw [← R2 Q, g116_78]
        simp (disch := first | with_reducible assumption | omega | exact Or.inl rfl | exact Or.inr rfl | exact bI_01 | exact c_cat | exact vt_ref | exact vt_null | rfl | with_reducible repeat (first | assumption | omega | apply S_I | apply S_L | apply S_D | apply ob_I | apply ob_L | apply ob_D | apply ob_R | apply ax_I | apply ax_L | apply ax_D | apply ax_R | apply o303 | apply o307 | apply o302 | apply o301 | apply ax304 | apply ax305 | apply ax306 | apply ax308 | apply ax309 | apply ax310 | apply lt_S | apply ar305 | apply ar308 | apply ar309)) only [g116_79, g116_80, g116_83, g116_86, g116_87, g116_89, g116_92, g116_93, g116_96, g116_97, g116_98, g116_99, g116_102, g116_105, g116_106, g116_109, g116_110, g116_111, g116_112, g116_115, g116_118, g116_119, g116_122, g116_123, g116_124, g116_127, g116_128, g116_129, g116_132, g116_133, g116_134, g116_137, g116_138, g116_139, g116_140, g116_143, g116_146, Option.toList, List.nil_append, List.cons_append, va_rf, nI_ltI, nI_leI, nI_eq, nI_add, nI_sub, nI_lt0, nI_e0, nI_m1, m1_nI, Nat.reduceEqDiff, Nat.reduceLT, Nat.reduceLeDiff, Nat.reduceAdd, Nat.reduceSub, Nat.reduceMul, ↓reduceIte, eq_self, K.2.1.1, show ¬ n ≤ j by omega, show ¬ 48 ≤ F' by omega, b1 _, b2 _, bI_t, bI_f]
    · have z : (W i j && W j i) = false := by rw [Bool.eq_false_iff.mpr w1]; rfl
      rw [Bool.eq_false_iff.mpr w1] at b1
      obtain ⟨F2, q2, rc2, g2, v2, K2, H2, I3, R2⟩ := ih (j + 1) F' q' rc' g (by omega) (by omega) (by omega) K H (RI_no I z hij hii)
      refine ⟨F2, q2, rc2, g2, v2, K2, H2, I3, fun Q => ?_⟩
      rw [← R2 Q, g116_78]
      simp (disch := first | with_reducible assumption | omega | exact Or.inl rfl | exact Or.inr rfl | exact bI_01 | exact c_cat | exact vt_ref | exact vt_null | rfl | with_reducible repeat (first | assumption | omega | apply S_I | apply S_L | apply S_D | apply ob_I | apply ob_L | apply ob_D | apply ob_R | apply ax_I | apply ax_L | apply ax_D | apply ax_R | apply o303 | apply o307 | apply o302 | apply o301 | apply ax304 | apply ax305 | apply ax306 | apply ax308 | apply ax309 | apply ax310 | apply lt_S | apply ar305 | apply ar308 | apply ar309)) only [g116_79, g116_80, g116_83, g116_86, g116_87, g116_89, g116_92, g116_93, g116_96, g116_97, g116_98, g116_99, g116_102, g116_105, g116_106, g116_109, g116_110, g116_111, g116_112, g116_115, g116_118, g116_119, g116_122, g116_123, g116_124, g116_127, g116_128, g116_129, g116_132, g116_133, g116_134, g116_137, g116_138, g116_139, g116_140, g116_143, g116_146, Option.toList, List.nil_append, List.cons_append, va_rf, nI_ltI, nI_leI, nI_eq, nI_add, nI_sub, nI_lt0, nI_e0, nI_m1, m1_nI, Nat.reduceEqDiff, Nat.reduceLT, Nat.reduceLeDiff, Nat.reduceAdd, Nat.reduceSub, Nat.reduceMul, ↓reduceIte, eq_self, K.2.1.1, show ¬ n ≤ j by omega, show ¬ 48 ≤ F' by omega, b1 _, bI_f]
theorem x_rings1 (S : am_S h) (M : MBR mb n m) : ∀ t i g, n - i = t → i ≤ n → RK h g n m W → am_I g 311 10 = nI 0 → (∀ k, k < i → am_I g 315 k = -1) → ∃ g2, RK h g2 n m W ∧ am_I g2 311 10 = nI 0 ∧ (∀ k, k < n → am_I g2 315 k = -1) ∧ ∀ Q, am_J d 116 9 [some (.ref 311), some (.int (nI 0)), some (.int (nI i)), none] [] g Q ↔ am_J d 116 30 [some (.ref 311), some (.int (nI 0)), some (.int (nI n)), none] [] g2 Q := by
  have n48 := M.1
  intro t
  induction t with
  | zero =>
    intro i g ht hi K e0 H
    obtain rfl : i = n := by omega
    have Sg := fr_S K.1 S
    refine ⟨g, K, e0, H, fun Q => ?_⟩
    rw [g116_9]
    simp (disch := first | with_reducible assumption | omega | exact Or.inl rfl | exact Or.inr rfl | exact bI_01 | exact c_cat | exact vt_ref | exact vt_null | rfl | with_reducible repeat (first | assumption | omega | apply S_I | apply S_L | apply S_D | apply ob_I | apply ob_L | apply ob_D | apply ob_R | apply ax_I | apply ax_L | apply ax_D | apply ax_R | apply o303 | apply o307 | apply o302 | apply o301 | apply ax304 | apply ax305 | apply ax306 | apply ax308 | apply ax309 | apply ax310 | apply lt_S | apply ar305 | apply ar308 | apply ar309)) only [g116_10, g116_11, g116_14, Option.toList, List.nil_append, List.cons_append, va_rf, nI_ltI, nI_leI, nI_eq, nI_add, nI_sub, nI_lt0, nI_e0, nI_m1, m1_nI, Nat.reduceEqDiff, Nat.reduceLT, Nat.reduceLeDiff, Nat.reduceAdd, Nat.reduceSub, Nat.reduceMul, ↓reduceIte, eq_self, K.2.1.1, Nat.le_refl]
  | succ t ih =>
    intro i g ht hi K e0 H
    have Sg := fr_S K.1 S
    obtain ⟨g2, K2, e2, H2, R⟩ := ih (i + 1) (am_setI g 315 i (-1)) (by omega) (by omega) (RK_I K (by omega)) (by rw [rI_a (by decide)]; exact e0) (fun k hk => by
      by_cases e : k = i
      · rw [e, rI_eq]
      · rw [rI_k e]; exact H k (by omega))
    refine ⟨g2, K2, e2, H2, fun Q => ?_⟩
    rw [← R Q, g116_9]
    simp (disch := first | with_reducible assumption | omega | exact Or.inl rfl | exact Or.inr rfl | exact bI_01 | exact c_cat | exact vt_ref | exact vt_null | rfl | with_reducible repeat (first | assumption | omega | apply S_I | apply S_L | apply S_D | apply ob_I | apply ob_L | apply ob_D | apply ob_R | apply ax_I | apply ax_L | apply ax_D | apply ax_R | apply o303 | apply o307 | apply o302 | apply o301 | apply ax304 | apply ax305 | apply ax306 | apply ax308 | apply ax309 | apply ax310 | apply lt_S | apply ar305 | apply ar308 | apply ar309)) only [g116_10, g116_11, g116_14, g116_17, g116_18, g116_21, g116_22, g116_23, g116_24, g116_27, Option.toList, List.nil_append, List.cons_append, va_rf, nI_ltI, nI_leI, nI_eq, nI_add, nI_sub, nI_lt0, nI_e0, nI_m1, m1_nI, Nat.reduceEqDiff, Nat.reduceLT, Nat.reduceLeDiff, Nat.reduceAdd, Nat.reduceSub, Nat.reduceMul, ↓reduceIte, eq_self, K.2.1.1, show ¬ n ≤ i by omega]
theorem x_rings2 (S : am_S h) (M : MBR mb n m) (E : muE n (fun i j => W i j && W j i)) : ∀ t i R F q st rc g v, n - i = t → i ≤ n → RK h g n m W → RH g n R F q st rc false → RP n m (fun i j => W i j && W j i) i R F q st rc → ∃ R2 F2 q2 st2 rc2 g2 v2, RK h g2 n m W ∧ RH g2 n R2 F2 q2 st2 rc2 false ∧ RP n m (fun i j => W i j && W j i) n R2 F2 q2 st2 rc2 ∧ ∀ Q, am_J (d + 1) 116 32 [some (.ref 311), some (.int (nI F)), some (.int (nI i)), v] [] g Q ↔ am_J (d + 1) 116 165 [some (.ref 311), some (.int (nI F2)), some (.int (nI n)), v2] [] g2 Q := by
  have n48 := M.1
  intro t
  induction t with
  | zero =>
    intro i R F q st rc g v ht hi K H P
    obtain rfl : i = n := by omega
    have Sg := fr_S K.1 S
    refine ⟨R, F, q, st, rc, g, v, K, H, P, fun Q => ?_⟩
    rw [g116_32]
    simp (disch := first | with_reducible assumption | omega | exact Or.inl rfl | exact Or.inr rfl | exact bI_01 | exact c_cat | exact vt_ref | exact vt_null | rfl | with_reducible repeat (first | assumption | omega | apply S_I | apply S_L | apply S_D | apply ob_I | apply ob_L | apply ob_D | apply ob_R | apply ax_I | apply ax_L | apply ax_D | apply ax_R | apply o303 | apply o307 | apply o302 | apply o301 | apply ax304 | apply ax305 | apply ax306 | apply ax308 | apply ax309 | apply ax310 | apply lt_S | apply ar305 | apply ar308 | apply ar309)) only [g116_33, g116_34, g116_37, Option.toList, List.nil_append, List.cons_append, va_rf, nI_ltI, nI_leI, nI_eq, nI_add, nI_sub, nI_lt0, nI_e0, nI_m1, m1_nI, Nat.reduceEqDiff, Nat.reduceLT, Nat.reduceLeDiff, Nat.reduceAdd, Nat.reduceSub, Nat.reduceMul, ↓reduceIte, eq_self, K.2.1.1, Nat.le_refl]
  | succ t ih =>
    intro i R F q st rc g v ht hi K H P
    have Sg := fr_S K.1 S
    have hi' : i < n := by omega
    have rf := RP_R P
    have b1 := x_hasBit (d := d) (g := g) (x := am_L g 314 i) (j := i) (by omega)
    rw [LBt_get (K.2.2.2 i hi') (show i < 64 by omega), decide_eq_true hi', Bool.true_and] at b1
    by_cases w1 : W i i = true
    · rw [w1] at b1
      have h2i := H.2.1 i hi'
      by_cases q0 : q i = 999
      · rw [if_pos q0] at h2i
        have hii : (W i i && W i i) = true := by rw [w1]; rfl
        obtain ⟨h1, h2, h3, h4⟩ := H
        obtain ⟨F2, q2, rc2, g2, v2, K2, ⟨z1, z2, z3, z4⟩, I2, R2⟩ := x_ringIn (d := d) (st := st) S M P E hi' q0 hii (n - i) i F q rc (am_setI g 317 R (nI F)) rfl (Nat.le_refl _) hi (RK_I K (by omega)) ⟨by rw [rI_a (by decide)]; exact h1, fun k hk => by rw [rI_a (by decide)]; exact h2 k hk, fun r hr => by
          by_cases e : r = R
          · subst e; rw [rI_eq, P.1]
          · rw [rI_k e]; exact h3 r (Or.inl (by omega)), fun j hj => by rw [rI_a (by decide)]; exact h4 j hj⟩ (RI_0 P)
        have P2 := RP_add E M.2.2.1 P hi' q0 hii (by omega) I2
        have Sg2 := fr_S K2.1 S
        obtain ⟨R3, F3, q3, st3, rc3, g3, v3, K3, H3, P3, R4⟩ := ih (i + 1) (R + 1) F2 q2 (fun r => if r = R + 1 then F2 else st r) rc2 (am_setI g2 311 10 (nI (R + 1))) v2 (by omega) (by omega) (RK_I K2 (by omega)) ⟨rI_eq, fun k hk => by rw [rI_a (by decide)]; exact z2 k hk, fun r hr => by
          rw [rI_a (by decide)]
          show am_I g2 317 r = nI (if r = R + 1 then F2 else st r)
          have : r < R + 1 := hr.elim id (fun z => absurd z.2 (by decide))
          rw [if_neg (by omega)]
          exact z3 r (by
            by_cases e : r = R
            · exact Or.inr ⟨e, rfl⟩
            · exact Or.inl (by omega)), fun j hj => by rw [rI_a (by decide)]; exact z4 j hj⟩ P2
        refine ⟨R3, F3, q3, st3, rc3, g3, v3, K3, H3, P3, fun Q => ?_⟩
        have go : am_J (d + 1) 116 32 [some (.ref 311), some (.int (nI F)), some (.int (nI i)), v] [] g Q ↔ am_J (d + 1) 116 78 [some (.ref 311), some (.int (nI F)), some (.int (nI i)), some (.int (nI i))] [] (am_setI g 317 R (nI F)) Q := by
          rw [g116_32]
          simp (disch := first | with_reducible assumption | omega | exact Or.inl rfl | exact Or.inr rfl | exact bI_01 | exact c_cat | exact vt_ref | exact vt_null | rfl | with_reducible repeat (first | assumption | omega | apply S_I | apply S_L | apply S_D | apply ob_I | apply ob_L | apply ob_D | apply ob_R | apply ax_I | apply ax_L | apply ax_D | apply ax_R | apply o303 | apply o307 | apply o302 | apply o301 | apply ax304 | apply ax305 | apply ax306 | apply ax308 | apply ax309 | apply ax310 | apply lt_S | apply ar305 | apply ar308 | apply ar309)) only [g116_33, g116_34, g116_37, g116_40, g116_41, g116_44, g116_45, g116_46, g116_47, g116_50, g116_53, g116_54, g116_57, g116_58, g116_59, g116_60, g116_63, g116_66, g116_67, g116_70, g116_71, g116_74, g116_75, g116_76, g116_77, Option.toList, List.nil_append, List.cons_append, va_rf, nI_ltI, nI_leI, nI_eq, nI_add, nI_sub, nI_lt0, nI_e0, nI_m1, m1_nI, Nat.reduceEqDiff, Nat.reduceLT, Nat.reduceLeDiff, Nat.reduceAdd, Nat.reduceSub, Nat.reduceMul, ↓reduceIte, eq_self, K.2.1.1, show ¬ n ≤ i by omega, b1 _, bI_t, h2i, h1]
        rw [← R4 Q, go, R2 Q]
        simp (disch := first | with_reducible assumption | omega | exact Or.inl rfl | exact Or.inr rfl | exact bI_01 | exact c_cat | exact vt_ref | exact vt_null | rfl | with_reducible repeat (first | assumption | omega | apply S_I | apply S_L | apply S_D | apply ob_I | apply ob_L | apply ob_D | apply ob_R | apply ax_I | apply ax_L | apply ax_D | apply ax_R | apply o303 | apply o307 | apply o302 | apply o301 | apply ax304 | apply ax305 | apply ax306 | apply ax308 | apply ax309 | apply ax310 | apply lt_S | apply ar305 | apply ar308 | apply ar309)) only [g116_149, g116_150, g116_151, g116_154, g116_155, g116_156, g116_159, g116_162, Option.toList, List.nil_append, List.cons_append, va_rf, nI_ltI, nI_leI, nI_eq, nI_add, nI_sub, nI_lt0, nI_e0, nI_m1, m1_nI, Nat.reduceEqDiff, Nat.reduceLT, Nat.reduceLeDiff, Nat.reduceAdd, Nat.reduceSub, Nat.reduceMul, ↓reduceIte, eq_self, z1]
      · rw [if_neg q0] at h2i
        have lt := (P.2.2.2.2.1 i hi' q0).1
        obtain ⟨R3, F3, q3, st3, rc3, g3, v3, K3, H3, P3, R4⟩ := ih (i + 1) R F q st rc g v (by omega) (by omega) K H (RP_skip P (fun _ => q0))
        refine ⟨R3, F3, q3, st3, rc3, g3, v3, K3, H3, P3, fun Q => ?_⟩
        rw [← R4 Q, g116_32]
        simp (disch := first | with_reducible assumption | omega | exact Or.inl rfl | exact Or.inr rfl | exact bI_01 | exact c_cat | exact vt_ref | exact vt_null | rfl | with_reducible repeat (first | assumption | omega | apply S_I | apply S_L | apply S_D | apply ob_I | apply ob_L | apply ob_D | apply ob_R | apply ax_I | apply ax_L | apply ax_D | apply ax_R | apply o303 | apply o307 | apply o302 | apply o301 | apply ax304 | apply ax305 | apply ax306 | apply ax308 | apply ax309 | apply ax310 | apply lt_S | apply ar305 | apply ar308 | apply ar309)) only [g116_33, g116_34, g116_37, g116_40, g116_41, g116_44, g116_45, g116_46, g116_47, g116_50, g116_53, g116_54, g116_57, g116_58, g116_59, g116_60, g116_63, g116_159, g116_162, Option.toList, List.nil_append, List.cons_append, va_rf, nI_ltI, nI_leI, nI_eq, nI_add, nI_sub, nI_lt0, nI_e0, nI_m1, m1_nI, Nat.reduceEqDiff, Nat.reduceLT, Nat.reduceLeDiff, Nat.reduceAdd, Nat.reduceSub, Nat.reduceMul, ↓reduceIte, eq_self, K.2.1.1, show ¬ n ≤ i by omega, b1 _, bI_t, h2i, nI_nem1 (show q i < 2 ^ 31 by omega)]
    · rw [Bool.eq_false_iff.mpr w1] at b1
      obtain ⟨R3, F3, q3, st3, rc3, g3, v3, K3, H3, P3, R4⟩ := ih (i + 1) R F q st rc g v (by omega) (by omega) K H (RP_skip P (fun z => absurd (by rw [Bool.and_self] at z; exact z) w1))
      refine ⟨R3, F3, q3, st3, rc3, g3, v3, K3, H3, P3, fun Q => ?_⟩
      rw [← R4 Q, g116_32]
      simp (disch := first | with_reducible assumption | omega | exact Or.inl rfl | exact Or.inr rfl | exact bI_01 | exact c_cat | exact vt_ref | exact vt_null | rfl | with_reducible repeat (first | assumption | omega | apply S_I | apply S_L | apply S_D | apply ob_I | apply ob_L | apply ob_D | apply ob_R | apply ax_I | apply ax_L | apply ax_D | apply ax_R | apply o303 | apply o307 | apply o302 | apply o301 | apply ax304 | apply ax305 | apply ax306 | apply ax308 | apply ax309 | apply ax310 | apply lt_S | apply ar305 | apply ar308 | apply ar309)) only [g116_33, g116_34, g116_37, g116_40, g116_41, g116_44, g116_45, g116_46, g116_47, g116_50, g116_159, g116_162, Option.toList, List.nil_append, List.cons_append, va_rf, nI_ltI, nI_leI, nI_eq, nI_add, nI_sub, nI_lt0, nI_e0, nI_m1, m1_nI, Nat.reduceEqDiff, Nat.reduceLT, Nat.reduceLeDiff, Nat.reduceAdd, Nat.reduceSub, Nat.reduceMul, ↓reduceIte, eq_self, K.2.1.1, show ¬ n ≤ i by omega, b1 _, bI_f]
/-- findRings as a whole -/
theorem x_findRings (S : am_S h) (M : MBR mb n m) (E : muE n (fun i j => W i j && W j i)) (K : RK h h n m W) : ∃ g R F q st rc, am_run (d + 1) 116 [some (.ref 311), none, none, none] h none g ∧ RK h g n m W ∧ RH g n R F q st rc true ∧ RP n m (fun i j => W i j && W j i) n R F q st rc := by
  obtain ⟨g1, K1, e1, H1, R1⟩ := x_rings1 (d := d + 1) S M n 0 (am_setI h 311 10 (nI 0)) (Nat.sub_zero _) (Nat.zero_le _) (RK_I K (by omega)) rI_eq (fun k hk => absurd hk (Nat.not_lt_zero _))
  have c0 : cnB (fun k => !decide ((999 : Nat) = 999)) n = 0 := by
    have : ∀ n, cnB (fun k => !decide ((999 : Nat) = 999)) n = 0 := by
      intro n
      induction n with
      | zero => rfl
      | succ n ih => unfold cnB; rw [ih]; rfl
    exact this n
  obtain ⟨R, F, q, st, rc, g2, v2, K2, ⟨h1, h2, h3, h4⟩, P2, R2⟩ := x_rings2 (d := d) S M E n 0 0 0 (fun _ => 999) (fun _ => 0) (fun _ => 0) g1 none (Nat.sub_zero _) (Nat.zero_le _) K1 ⟨e1, fun k hk => by rw [if_pos rfl]; exact H1 k hk, fun r hr => by
    rcases hr with hr | hr
    · exact absurd hr (Nat.not_lt_zero _)
    · exact absurd hr.2 (by decide), fun j hj => absurd hj (Nat.not_lt_zero _)⟩ ⟨rfl, rfl, fun r hr => absurd hr (Nat.not_lt_zero _), fun r hr => absurd hr (Nat.not_lt_zero _), fun k _ hq => absurd rfl hq, fun r hr => absurd hr (Nat.not_lt_zero _), fun r hr => absurd hr (Nat.not_lt_zero _), fun r hr => absurd hr (Nat.not_lt_zero _), fun k hk => absurd hk (Nat.not_lt_zero _), c0.symm⟩
  have rf := RP_R P2
  have n48 := M.1
  have Sg2 := fr_S K2.1 S
  refine ⟨am_setI g2 317 R (nI F), R, F, q, st, rc, fun Q => ?_, RK_I K2 (by omega), ⟨by rw [rI_a (by decide)]; exact h1, fun k hk => by rw [rI_a (by decide)]; exact h2 k hk, fun r hr => by
    by_cases e : r = R
    · subst e; rw [rI_eq, P2.1]
    · rw [rI_k e]; exact h3 r (Or.inl (by omega)), fun j hj => by rw [rI_a (by decide)]; exact h4 j hj⟩, P2⟩
  have R2' := R2 Q
  simp (disch := first | with_reducible assumption | omega | exact Or.inl rfl | exact Or.inr rfl | exact bI_01 | exact c_cat | exact vt_ref | exact vt_null | rfl | with_reducible repeat (first | assumption | omega | apply S_I | apply S_L | apply S_D | apply ob_I | apply ob_L | apply ob_D | apply ob_R | apply ax_I | apply ax_L | apply ax_D | apply ax_R | apply o303 | apply o307 | apply o302 | apply o301 | apply ax304 | apply ax305 | apply ax306 | apply ax308 | apply ax309 | apply ax310 | apply lt_S | apply ar305 | apply ar308 | apply ar309)) only [g116_0, g116_1, g116_2, g116_5, g116_6, g116_7, g116_8, R1 _, g116_30, g116_31, R2', g116_165, g116_166, g116_169, g116_170, g116_173, g116_174, g116_175, Option.toList, List.nil_append, List.cons_append, va_rf, nI_ltI, nI_leI, nI_eq, nI_add, nI_sub, nI_lt0, nI_e0, nI_m1, m1_nI, Nat.reduceEqDiff, Nat.reduceLT, Nat.reduceLeDiff, Nat.reduceAdd, Nat.reduceSub, Nat.reduceMul, ↓reduceIte, eq_self, h1]
end XRG

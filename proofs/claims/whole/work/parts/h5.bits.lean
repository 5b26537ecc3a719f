/-! BITS of an int; the functions that are reached by what was told -/
def b32 (x : Int32) (j : Nat) : Bool := x.toBitVec.getLsbD j
theorem b32_or {x y : Int32} {j : Nat} : b32 (x ||| y) j = (b32 x j || b32 y j) := by
  unfold b32; rw [Int32.toBitVec_or, BitVec.getLsbD_or]
set_option maxRecDepth 20000 in
theorem b32_one : ∀ i, i < 32 → ∀ j, j < 32 → b32 (nI 1 <<< (nI i &&& 31)) j = decide (j = i) := by decide +kernel
theorem b32_0 {j : Nat} : b32 (nI 0) j = false := by
  unfold b32; rw [show (nI 0).toBitVec = 0#32 from rfl]; simp
theorem b32_and0 {x y : Int32} : x &&& y = nI 0 ↔ ∀ j, j < 32 → ¬ (b32 x j = true ∧ b32 y j = true) := by
  constructor
  · intro h j hj h12
    have e : b32 (x &&& y) j = true := by
      unfold b32
      rw [Int32.toBitVec_and, BitVec.getLsbD_and]
      have h1 := h12.1
      have h2 := h12.2
      unfold b32 at h1 h2
      rw [h1, h2]; rfl
    rw [h, b32_0] at e; cases e
  · intro h
    apply Int32.toBitVec_inj.mp
    apply BitVec.eq_of_getLsbD_eq
    intro j hj
    have h3 := h j hj
    unfold b32 at h3
    rw [Int32.toBitVec_and, BitVec.getLsbD_and, show (nI 0).toBitVec = 0#32 from rfl]
    cases h1 : x.toBitVec.getLsbD j <;> cases h2 : y.toBitVec.getLsbD j
    · simp
    · simp
    · simp
    · exact absurd ⟨h1, h2⟩ h3
/-- r holds of one that G calls -/
def hit (r : Nat → Bool) (G : List (Nat × Nat)) : Bool := G.any fun z => r z.1
theorem hit_iff {r : Nat → Bool} {G : List (Nat × Nat)} : hit r G = true ↔ ∃ z, z ∈ G ∧ r z.1 = true := by
  unfold hit; exact List.any_eq_true
theorem b32_gF : ∀ (G : List (Nat × Nat)) (F : Int32) (j : Nat), j < 32 → (∀ z, z ∈ G → z.1 < 32) → b32 (G.foldl gF F) j = (b32 F j || G.any fun z => decide (j = z.1)) := by
  intro G
  induction G with
  | nil => intro F j _ _; simp
  | cons z G ih =>
    intro F j hj hG
    rw [List.foldl_cons, ih _ j hj (fun y hy => hG y (List.mem_cons_of_mem _ hy)), List.any_cons]
    unfold gF
    rw [b32_or, b32_one z.1 (hG z List.mem_cons_self) j hj, Bool.or_assoc]
/-- the bits of x are r -/
def SB (x : Int32) (r : Nat → Bool) : Prop := ∀ j, j < 32 → b32 x j = r j
theorem SB_0 : SB (nI 0) (fun _ => false) := fun j _ => b32_0
theorem SB_or {x : Int32} {r : Nat → Bool} {i : Nat} (h : SB x r) (hi : i < 32) : SB (x ||| (nI 1 <<< (nI i &&& 31))) (fun j => r j || decide (j = i)) := fun j hj => by
  rw [b32_or, h j hj, b32_one i hi j hj]
theorem SB_hit {x : Int32} {r : Nat → Bool} {G : List (Nat × Nat)} (h : SB x r) (hG : ∀ z, z ∈ G → z.1 < 32) : (G.foldl gF (nI 0) &&& x = nI 0) ↔ hit r G = false := by
  rw [b32_and0]
  constructor
  · intro q
    rw [Bool.eq_false_iff]
    intro t
    obtain ⟨z, z1, z2⟩ := hit_iff.mp t
    refine q z.1 (hG z z1) ⟨?_, by rw [h z.1 (hG z z1)]; exact z2⟩
    rw [b32_gF G _ _ (hG z z1) hG, b32_0, Bool.false_or]
    exact List.any_eq_true.mpr ⟨z, z1, decide_eq_true rfl⟩
  · intro q j hj t
    rw [b32_gF G _ _ hj hG, b32_0, Bool.false_or] at t
    obtain ⟨z, z1, z2⟩ := List.any_eq_true.mp t.1
    have z2 := of_decide_eq_true z2
    subst z2
    rw [h z.1 hj] at t
    have := hit_iff.mpr ⟨z, z1, t.2⟩
    rw [q] at this; cases this
/-- one turn over the functions -/
def stp (r : Nat → Bool) (b : Bool) (i : Nat) : Nat → Bool := fun j => r j || (b && decide (j = i))
def pas (Gf : Nat → List (Nat × Nat)) (r : Nat → Bool) : Nat → Nat → Bool
  | 0 => r
  | k + 1 => stp (pas Gf r k) (hit (pas Gf r k) (Gf k)) k
def rds (Gf : Nat → List (Nat × Nat)) (nf : Nat) (r : Nat → Bool) : Nat → Nat → Bool
  | 0 => r
  | k + 1 => pas Gf (rds Gf nf r k) nf
def cnB (r : Nat → Bool) : Nat → Nat
  | 0 => 0
  | n + 1 => cnB r n + if r n = true then 1 else 0
theorem cnB_n {r : Nat → Bool} : ∀ n, cnB r n ≤ n := by
  intro n
  induction n with
  | zero => exact Nat.le_refl _
  | succ n ih => unfold cnB; split <;> omega
theorem cnB_le {r r' : Nat → Bool} (h : ∀ j, r j = true → r' j = true) : ∀ n, cnB r n ≤ cnB r' n := by
  intro n
  induction n with
  | zero => exact Nat.le_refl _
  | succ n ih =>
    unfold cnB
    have := h n
    by_cases c : r n = true
    · rw [if_pos c, if_pos (this c)]; omega
    · rw [if_neg c]; split <;> omega
theorem cnB_lt {r r' : Nat → Bool} (h : ∀ j, r j = true → r' j = true) {i : Nat} (h1 : r i = false) (h2 : r' i = true) : ∀ n, i < n → cnB r n < cnB r' n := by
  intro n
  induction n with
  | zero => intro q; omega
  | succ n ih =>
    intro q
    have l := cnB_le h n
    unfold cnB
    by_cases c : i = n
    · subst c
      rw [h1, if_neg (by decide), h2, if_pos rfl]; omega
    · have := ih (by omega)
      have := h n
      by_cases c : r n = true
      · rw [if_pos c, if_pos (this c)]; omega
      · rw [if_neg c]; split <;> omega
theorem cnB_all {r : Nat → Bool} : ∀ n, n ≤ cnB r n → ∀ j, j < n → r j = true := by
  intro n
  induction n with
  | zero => intro _ j hj; omega
  | succ n ih =>
    intro q j hj
    unfold cnB at q
    have := cnB_n (r := r) n
    by_cases c : r n = true
    · by_cases e : j = n
      · rw [e]; exact c
      · rw [if_pos c] at q
        exact ih (by omega) j (by omega)
    · rw [if_neg c] at q; omega
section PAS
variable {Gf : Nat → List (Nat × Nat)} {nf : Nat} {r : Nat → Bool}
theorem pas_up : ∀ k j, r j = true → pas Gf r k j = true := by
  intro k
  induction k with
  | zero => intro j h; exact h
  | succ k ih => intro j h; show (pas Gf r k j || _) = true; rw [ih j h]; rfl
theorem pas_step {k j : Nat} (h : pas Gf r k j = true) : ∀ n, pas Gf r (k + n) j = true := by
  intro n
  induction n with
  | zero => exact h
  | succ n ih => show (pas Gf r (k + n) j || _) = true; rw [ih]; rfl
def closF (Gf : Nat → List (Nat × Nat)) (nf : Nat) (r : Nat → Bool) : Prop := ∀ f, f < nf → hit r (Gf f) = true → r f = true
theorem pas_clos (C : closF Gf nf r) : ∀ k, k ≤ nf → pas Gf r k = r := by
  intro k
  induction k with
  | zero => intro _; rfl
  | succ k ih =>
    intro hk
    have e := ih (by omega)
    funext j
    show (pas Gf r k j || (hit (pas Gf r k) (Gf k) && decide (j = k))) = r j
    rw [e]
    by_cases c : hit r (Gf k) = true
    · have := C k (by omega) c
      by_cases d : j = k
      · subst d; rw [this]; rfl
      · rw [decide_eq_false d]; simp
    · rw [Bool.eq_false_iff.mpr c]; simp
theorem pas_grow (C : ¬ closF Gf nf r) : ∃ i, i < nf ∧ r i = false ∧ pas Gf r nf i = true := by
  obtain ⟨f, hf⟩ := Classical.not_forall.mp C
  obtain ⟨f1, hf⟩ := Classical.not_imp.mp hf
  obtain ⟨f2, f3⟩ := Classical.not_imp.mp hf
  refine ⟨f, f1, Bool.eq_false_iff.mpr f3, ?_⟩
  have : pas Gf r (f + 1) f = true := by
    show (pas Gf r f f || (hit (pas Gf r f) (Gf f) && decide (f = f))) = true
    obtain ⟨z, z1, z2⟩ := hit_iff.mp f2
    rw [hit_iff.mpr ⟨z, z1, pas_up f z.1 z2⟩]
    simp
  have h2 := pas_step this (nf - (f + 1))
  rwa [show f + 1 + (nf - (f + 1)) = nf by omega] at h2
theorem rds_cn : ∀ k, closF Gf nf (rds Gf nf r k) ∨ k ≤ cnB (rds Gf nf r k) nf := by
  intro k
  induction k with
  | zero => exact Or.inr (Nat.zero_le _)
  | succ k ih =>
    by_cases C : closF Gf nf (rds Gf nf r k)
    · left
      show closF Gf nf (pas Gf (rds Gf nf r k) nf)
      rw [pas_clos C nf (Nat.le_refl _)]; exact C
    · right
      have h1 := ih.resolve_left C
      obtain ⟨i, i1, i2, i3⟩ := pas_grow C
      have := cnB_lt (r' := pas Gf (rds Gf nf r k) nf) (fun j h => pas_up nf j h) i2 i3 nf i1
      show k + 1 ≤ cnB (pas Gf (rds Gf nf r k) nf) nf
      omega
theorem rds_clos : closF Gf nf (rds Gf nf r nf) := by
  rcases rds_cn (Gf := Gf) (nf := nf) (r := r) nf with h | h
  · exact h
  · exact fun f hf _ => cnB_all nf h f hf
theorem rds_8 (h8 : nf ≤ 8) : rds Gf nf r 8 = rds Gf nf r nf := by
  have : ∀ j, rds Gf nf r (nf + j) = rds Gf nf r nf := by
    intro j
    induction j with
    | zero => rfl
    | succ j ih =>
      show pas Gf (rds Gf nf r (nf + j)) nf = _
      rw [ih]
      exact pas_clos rds_clos nf (Nat.le_refl _)
  have h2 := this (8 - nf)
  rwa [show nf + (8 - nf) = 8 by omega] at h2
theorem pas_ge (j : Nat) : ∀ k, k ≤ j → pas Gf r k j = r j := by
  intro k
  induction k with
  | zero => intro _; rfl
  | succ k ih =>
    intro hk
    show (pas Gf r k j || (hit (pas Gf r k) (Gf k) && decide (j = k))) = r j
    rw [ih (by omega), decide_eq_false (by omega)]
    simp
theorem rds_ge {j : Nat} (hj : nf ≤ j) : ∀ k, rds Gf nf r k j = r j := by
  intro k
  induction k with
  | zero => rfl
  | succ k ih =>
    show pas Gf (rds Gf nf r k) nf j = r j
    rw [pas_ge j nf hj]; exact ih
end PAS
/-- what is called stands among the nodes, and is a function -/
theorem Rp_G {fn : Bool} {kn : Nat} {T : ntT} {M : Nat} {pN pF : Nat → List Nat} : ∀ z n D E L G, Rp fn kn T M pN pF z n D E L G → ∀ y, y ∈ G → 1 ≤ y.2 ∧ y.2 ≤ 3 ∧ y.1 ≤ 8 ∧ pF (4 * y.1 + y.2) ≠ [] ∧ ∃ i, i < M ∧ ((T i).1 = nI 8 ∨ (T i).1 = nI 9) ∧ (T i).2.2.2.2 = lN y.1 := by
  intro z
  induction z using Nat.strongRecOn with
  | _ z ih =>
    intro n D E L G hR y hy
    obtain ⟨f', rfl, hn, hR⟩ := Rp_S hR
    have h1 := ih f' (by omega)
    have h2 := ih (f' - 41) (by omega)
    rcases hR with hR | hR | hR | hR | hR | hR | hR | hR | hR | hR | hR | hR | hR | hR | hR | hR | hR
    · obtain ⟨v, c0, ht, -, -, -, rfl⟩ := hR; cases hy
    · obtain ⟨v, b, c0, c1, c2, ht, -, -, -, rfl⟩ := hR; cases hy
    · obtain ⟨c, c0, c1, c2, ht, -, -, -, rfl⟩ := hR; cases hy
    · obtain ⟨k, c0, ht, -, -, -, rfl⟩ := hR; cases hy
    · obtain ⟨i, D1, E1, L1, G1, c0, ht, k0, -, -, -, rfl⟩ := hR; exact h1 _ _ _ _ _ k0 y hy
    · obtain ⟨o, i, j, D1, E1, L1, G1, D2, E2, L2, G2, c0, c1, c2, ht, k0, k1, -, -, -, rfl⟩ := hR
      rcases List.mem_append.mp hy with q | q
      · exact h1 _ _ _ _ _ k0 y q
      · exact h1 _ _ _ _ _ k1 y q
    · obtain ⟨i, j, l, D1, E1, L1, G1, D2, E2, L2, G2, D3, E3, L3, G3, c0, c1, c2, ht, k0, k1, k2, -, -, -, rfl⟩ := hR
      rcases List.mem_append.mp hy with q | q
      · rcases List.mem_append.mp q with q | q
        · exact h2 _ _ _ _ _ k0 y q
        · exact h2 _ _ _ _ _ k1 y q
      · exact h2 _ _ _ _ _ k2 y q
    · obtain ⟨i, j, D1, E1, L1, G1, D2, E2, L2, G2, c0, c1, ht, k0, k1, -, -, -, rfl⟩ := hR
      rcases List.mem_append.mp hy with q | q
      · exact h2 _ _ _ _ _ k0 y q
      · exact h2 _ _ _ _ _ k1 y q
    · obtain ⟨w, i, a, b, c0, c1, c2, c3, c4, ht, r0, -, -, -, rfl⟩ := hR; cases hy
    · obtain ⟨i, j, a, b, D2, E2, L2, G2, c0, c1, c2, c3, ht, r0, k0, -, -, -, rfl⟩ := hR; exact h2 _ _ _ _ _ k0 y hy
    · obtain ⟨i, j, l, a, b, a', b', D1, E1, L1, G1, c0, c1, c2, c3, c4, ht, r0, r1, k0, -, -, -, rfl⟩ := hR; exact h2 _ _ _ _ _ k0 y hy
    · obtain ⟨i, j, a, b, a', b', c0, c1, c2, c3, ht, r0, r1, -, -, -, rfl⟩ := hR; cases hy
    · obtain ⟨w, i, D1, E1, L1, G1, c0, c1, c2, ht, k0, -, -, -, rfl⟩ := hR; exact h2 _ _ _ _ _ k0 y hy
    · obtain ⟨f, i, D1, E1, L1, G1, c0, c1, c2, ht, k0, -, -, -, rfl⟩ := hR
      rcases List.mem_append.mp hy with q | q
      · exact h2 _ _ _ _ _ k0 y q
      · rw [List.mem_singleton.mp q]
        exact ⟨by simp, by simp, c0, c1, n, hn, by rw [ht]; exact Or.inl rfl, by rw [ht]⟩
    · obtain ⟨f, i, j, D1, E1, L1, G1, D2, E2, L2, G2, c0, c1, c2, c3, ht, k0, k1, -, -, -, rfl⟩ := hR
      rcases List.mem_append.mp hy with q | q
      · rcases List.mem_append.mp q with q | q
        · exact h2 _ _ _ _ _ k0 y q
        · exact h2 _ _ _ _ _ k1 y q
      · rw [List.mem_singleton.mp q]
        exact ⟨by simp, by simp, c0, c1, n, hn, by rw [ht]; exact Or.inl rfl, by rw [ht]⟩
    · obtain ⟨f, i, j, l, D1, E1, L1, G1, D2, E2, L2, G2, D3, E3, L3, G3, c0, c1, c2, c3, c4, ht, k0, k1, k2, -, -, -, rfl⟩ := hR
      rcases List.mem_append.mp hy with q | q
      · rcases List.mem_append.mp q with q | q
        · rcases List.mem_append.mp q with q | q
          · exact h2 _ _ _ _ _ k0 y q
          · exact h2 _ _ _ _ _ k1 y q
        · exact h2 _ _ _ _ _ k2 y q
      · rw [List.mem_singleton.mp q]
        exact ⟨by simp, by simp, c0, c1, n, hn, by rw [ht]; exact Or.inl rfl, by rw [ht]⟩
    · obtain ⟨f, i, j, D1, E1, L1, G1, D2, E2, L2, G2, c0, c1, c2, c3, ht, k0, k1, -, -, -, rfl⟩ := hR
      rcases List.mem_append.mp hy with q | q
      · rcases List.mem_append.mp q with q | q
        · exact h2 _ _ _ _ _ k0 y q
        · exact h2 _ _ _ _ _ k1 y q
      · rw [List.mem_singleton.mp q]
        exact ⟨by simp, by simp, c0, c1, n, hn, by rw [ht]; exact Or.inr rfl, by rw [ht]⟩

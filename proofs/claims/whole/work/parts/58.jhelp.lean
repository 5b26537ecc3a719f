/-! BOTH PARSERS: helpers -/
theorem lx_E_gt {t : Nat → Nat} {n q : Nat} (h : q < n) : q < lx_E t n q := by
  have h0 : ¬ n ≤ q := by omega
  unfold lx_E
  rw [if_neg h0]
  by_cases h1 : isL (t q) = true
  · rw [if_pos h1]
    have s1 : lx_L t n q = lx_L t n (q + 1) := scan_step h h1
    have s2 : q + 1 ≤ lx_L t n (q + 1) := scan_ge
    omega
  · rw [if_neg h1]
    by_cases h2 : isG (t q) = true
    · have s1 : lx_G t n q = lx_G t n (q + 1) := scan_step h h2
      have s2 : q + 1 ≤ lx_G t n (q + 1) := scan_ge
      rw [if_pos h2]
      split
      · have h3 : lx_G t n q + 1 ≤ lx_G t n (lx_G t n q + 1) := scan_ge
        omega
      · omega
    · rw [if_neg h2]
      split
      · omega
      · split <;> omega
theorem lx_K_lt {t : Nat → Nat} {n q : Nat} (h : lx_K t n q ≠ 262) : q < n := by
  rcases Nat.lt_or_ge q n with c | c
  · exact c
  · exact absurd (show lx_K t n q = 262 from if_pos c) h
/-- the next token is further on -/
theorem mdA_gt {t : Nat → Nat} {n q q' : Nat} (h : q < n) (e : mdA t n (.inl q) = .inl q') : lx_E t n q ≤ q' ∧ q < q' ∧ lx_K t n q' ≠ 263 := by
  unfold mdA at e
  simp only at e
  by_cases c : lx_K t n (lx_q t n (lx_E t n q)) = 263
  · rw [if_pos c] at e; cases e
  · rw [if_neg c] at e
    cases e
    have h1 := lx_E_gt (t := t) h
    have h2 : lx_E t n q ≤ lx_q t n (lx_E t n q) := scan_ge
    exact ⟨h2, by omega, c⟩
def tx (t : Nat → Nat) (a m : Nat) : List Nat := (List.range m).map fun i => t (a + i)
theorem tx_succ {t : Nat → Nat} {a m : Nat} : tx t a (m + 1) = t a :: tx t (a + 1) m := by
  unfold tx
  rw [List.range_succ_eq_map, List.map_cons, List.map_map]
  congr 1
  apply List.map_congr_left
  intro i _
  show t (a + (i + 1)) = t (a + 1 + i)
  congr 1; omega
theorem tx_len {t : Nat → Nat} {a m : Nat} : (tx t a m).length = m := by unfold tx; simp
theorem by8_nI : ∀ c, c < 128 → (nI c).toInt8.toInt32 = nI c := by decide +kernel
section JH
variable {t : Nat → Nat} {n : Nat}
theorem xpad_eq {P : List Int32} {c : Nat} (hl : P.length < 400) (hc : c < 128) : xpad P (nI c) = P ++ [nI c] := by
  unfold xpad
  rw [if_pos hl, by8_nI c hc]
theorem xpad_len {P : List Int32} {w : Int32} : (xpad P w).length ≤ P.length + 1 := by
  unfold xpad; split
  · rw [List.length_append]; exact Nat.le_refl _
  · omega
theorem xadd_eq {C : List (Int32 × Int64)} {x : Int32 × Int64} (hl : C.length < 160) : xadd C x = C ++ [x] := if_pos hl
theorem xadd_len {C : List (Int32 × Int64)} {x : Int32 × Int64} : (xadd C x).length ≤ C.length + 1 := by
  unfold xadd; split
  · rw [List.length_append]; exact Nat.le_refl _
  · omega
theorem xadd_ge {C : List (Int32 × Int64)} {x : Int32 × Int64} : C.length ≤ (xadd C x).length := by
  unfold xadd; split
  · rw [List.length_append]; omega
  · omega
theorem xpad_ge {P : List Int32} {w : Int32} : P.length ≤ (xpad P w).length := by
  unfold xpad; split
  · rw [List.length_append]; omega
  · omega
theorem xcop_ge : ∀ m a (P : List Int32), P.length ≤ (xcop t n P a m).length := by
  intro m
  induction m with
  | zero => intro a P; exact Nat.le_refl _
  | succ m ih =>
    intro a P
    have h1 := ih (a + 1) (xpad P (tA t n a))
    have h2 := xpad_ge (P := P) (w := tA t n a)
    show _ ≤ (xcop t n (xpad P (tA t n a)) (a + 1) m).length
    omega
theorem xcop_len : ∀ m a (P : List Int32), (xcop t n P a m).length ≤ P.length + m := by
  intro m
  induction m with
  | zero => intro a P; exact Nat.le_refl _
  | succ m ih =>
    intro a P
    have h1 := ih (a + 1) (xpad P (tA t n a))
    have h2 := xpad_len (P := P) (w := tA t n a)
    show (xcop t n (xpad P (tA t n a)) (a + 1) m).length ≤ _
    omega
theorem xcop_eq : ∀ m a (P : List Int32), a + m ≤ n → P.length + m ≤ 400 → (∀ i, i < m → t (a + i) < 128) → xcop t n P a m = P ++ (tx t a m).map nI := by
  intro m
  induction m with
  | zero => intro a P _ _ _; show P = P ++ []; rw [List.append_nil]
  | succ m ih =>
    intro a P h1 h2 h3
    show xcop t n (xpad P (tA t n a)) (a + 1) m = _
    rw [tA_lt (by omega), xpad_eq (by omega) (by have := h3 0 (by omega); rwa [Nat.add_zero] at this), ih (a + 1) _ (by omega) (by rw [List.length_append]; simp; omega) (fun i hi => by have := h3 (i + 1) (by omega); rwa [show a + 1 + i = a + (i + 1) by omega]), tx_succ, List.map_cons, List.append_assoc]
    rfl
end JH
/-! digits -/
theorem decN_w {t : Nat → Nat} {q : Nat} : ∀ m, (∀ i, i < m → 48 ≤ t (q + i) ∧ t (q + i) ≤ 57) → decN m (lx_w 10 48 t q m) = tx t q m := by
  intro m
  induction m with
  | zero => intro _; rfl
  | succ m ih =>
    intro h
    obtain ⟨d1, d2⟩ := h m (by omega)
    show decN m ((lx_w 10 48 t q m * 10 + (t (q + m) - 48)) / 10) ++ [48 + (lx_w 10 48 t q m * 10 + (t (q + m) - 48)) % 10] = _
    rw [show (lx_w 10 48 t q m * 10 + (t (q + m) - 48)) / 10 = lx_w 10 48 t q m by omega, show (lx_w 10 48 t q m * 10 + (t (q + m) - 48)) % 10 = t (q + m) - 48 by omega, ih (fun i hi => h i (by omega)), show 48 + (t (q + m) - 48) = t (q + m) by omega]
    unfold tx
    rw [List.range_succ, List.map_append]; rfl
theorem ndN_w : ∀ f v m, v < 10 ^ (m + 1) → (m = 0 ∨ 10 ^ m ≤ v) → m < f → ndN f v = m + 1 := by
  intro f
  induction f with
  | zero => intro v m _ _ h; omega
  | succ f ih =>
    intro v m h1 h2 h3
    show (if v < 10 then 1 else ndN f (v / 10) + 1) = m + 1
    by_cases c : v < 10
    · rw [if_pos c]
      rcases h2 with e | e
      · omega
      · cases m with
        | zero => rfl
        | succ m =>
          exfalso
          have : 10 ^ (m + 1) = 10 ^ m * 10 := Nat.pow_succ ..
          have : 0 < 10 ^ m := Nat.pow_pos (by decide)
          omega
    · rw [if_neg c]
      cases m with
      | zero => rw [Nat.zero_add, Nat.pow_one] at h1; omega
      | succ m =>
        have e1 : 10 ^ (m + 1 + 1) = 10 ^ (m + 1) * 10 := Nat.pow_succ ..
        have e2 : 10 ^ (m + 1) = 10 ^ m * 10 := Nat.pow_succ ..
        have h4 : m = 0 ∨ 10 ^ m ≤ v / 10 := by
          rcases h2 with e | e
          · omega
          · exact Or.inr (by omega)
        rw [ih (v / 10) m (by omega) h4 (by omega)]
theorem lx_w_zero {t : Nat → Nat} {q : Nat} : ∀ m z, z ≤ m → (∀ i, i < z → t (q + i) = 48) → lx_w 10 48 t q m = lx_w 10 48 t (q + z) (m - z) := by
  intro m
  induction m with
  | zero => intro z hz _; obtain rfl : z = 0 := by omega
            rfl
  | succ m ih =>
    intro z hz h
    by_cases c : z = m + 1
    · subst c
      rw [Nat.sub_self]
      have : ∀ k, k ≤ m + 1 → lx_w 10 48 t q k = 0 := by
        intro k
        induction k with
        | zero => intro _; rfl
        | succ k ihk =>
          intro hk
          show lx_w 10 48 t q k * 10 + (t (q + k) - 48) = 0
          rw [ihk (by omega), h k (by omega)]
      exact this (m + 1) (Nat.le_refl _)
    · rw [show m + 1 - z = (m - z) + 1 by omega]
      show lx_w 10 48 t q m * 10 + (t (q + m) - 48) = lx_w 10 48 t (q + z) (m - z) * 10 + (t (q + z + (m - z)) - 48)
      rw [ih z (by omega) h, show q + z + (m - z) = q + m by omega]
theorem lx_w_ge {t : Nat → Nat} {q : Nat} (h0 : 49 ≤ t q) : ∀ m, 10 ^ m ≤ lx_w 10 48 t q (m + 1) := by
  intro m
  induction m with
  | zero => show 1 ≤ 0 * 10 + (t (q + 0) - 48); rw [Nat.add_zero]; omega
  | succ m ih =>
    show 10 ^ m * 10 ≤ lx_w 10 48 t q (m + 1) * 10 + _
    omega

/-! NUMBERS, as they stand in the text and as they are printed -/
theorem ndN_le : ∀ f v m, v < 10 ^ (m + 1) → ndN f v ≤ m + 1 := by
  intro f
  induction f with
  | zero => intro v m _; show 1 ≤ m + 1; omega
  | succ f ih =>
    intro v m h1
    show (if v < 10 then 1 else ndN f (v / 10) + 1) ≤ m + 1
    by_cases c : v < 10
    · rw [if_pos c]; omega
    · rw [if_neg c]
      cases m with
      | zero => rw [Nat.zero_add, Nat.pow_one] at h1; omega
      | succ m =>
        have e1 : 10 ^ (m + 1 + 1) = 10 ^ (m + 1) * 10 := Nat.pow_succ ..
        have := ih (v / 10) m (by omega)
        omega
theorem decN_split : ∀ b a x y, y < 10 ^ b → decN (a + b) (x * 10 ^ b + y) = decN a x ++ decN b y := by
  intro b
  induction b with
  | zero =>
    intro a x y h
    have : y = 0 := by rw [Nat.pow_zero] at h; omega
    subst this
    rw [Nat.pow_zero, Nat.mul_one, Nat.add_zero, Nat.add_zero]
    show _ = decN a x ++ []
    rw [List.append_nil]
  | succ b ih =>
    intro a x y h
    have e : 10 ^ (b + 1) = 10 ^ b * 10 := Nat.pow_succ ..
    show decN (a + b) ((x * 10 ^ (b + 1) + y) / 10) ++ [48 + (x * 10 ^ (b + 1) + y) % 10] = decN a x ++ (decN b (y / 10) ++ [48 + y % 10])
    have e1 : (x * 10 ^ (b + 1) + y) / 10 = x * 10 ^ b + y / 10 := by
      rw [e, ← Nat.mul_assoc]; omega
    have e2 : (x * 10 ^ (b + 1) + y) % 10 = y % 10 := by
      rw [e, ← Nat.mul_assoc]; omega
    rw [e1, e2, ih a x (y / 10) (by omega), List.append_assoc]
theorem decN_len : ∀ l v, (decN l v).length = l := by
  intro l
  induction l with
  | zero => intro v; rfl
  | succ l ih => intro v; show (decN l (v / 10) ++ [_]).length = l + 1; rw [List.length_append, ih]; rfl
theorem tx_app {t : Nat → Nat} : ∀ m a k, tx t a (m + k) = tx t a m ++ tx t (a + m) k := by
  intro m
  induction m with
  | zero => intro a k; rw [Nat.zero_add]; rfl
  | succ m ih =>
    intro a k
    rw [show m + 1 + k = (m + k) + 1 by omega, tx_succ, tx_succ, ih (a + 1) k, show a + 1 + m = a + (m + 1) by omega]
    rfl
section NUMS
variable {t : Nat → Nat} {n q : Nat}
theorem isG_of {k : Nat} (h : isG k = true) : 48 ≤ k ∧ k ≤ 57 := by simpa [isG] using h
/-- what a number token is made of -/
theorem lx_numG (hK : lx_K t n q = 260 ∨ lx_K t n q = 261) : q < n ∧ q < lx_G t n q ∧ lx_G t n q ≤ n ∧ (∀ i, q ≤ i → i < lx_G t n q → 48 ≤ t i ∧ t i ≤ 57) ∧ (¬ (lx_G t n q < n ∧ isG (t (lx_G t n q)) = true)) ∧
    (lx_K t n q = 260 → lx_E t n q = lx_G t n q ∧ lx_v t n q = lx_w 10 48 t q (lx_G t n q - q) ∧ lx_b t n q = 0 ∧ lx_G t n q - q ≤ 18) ∧
    (lx_K t n q = 261 → lx_G t n q + 1 < n ∧ t (lx_G t n q) = 46 ∧ lx_E t n q = lx_G t n (lx_G t n q + 1) ∧ lx_G t n q + 1 < lx_E t n q ∧ lx_E t n q ≤ n ∧ (∀ i, lx_G t n q + 1 ≤ i → i < lx_E t n q → 48 ≤ t i ∧ t i ≤ 57) ∧ lx_b t n q = lx_E t n q - (lx_G t n q + 1) ∧ lx_v t n q = lx_w 10 48 t q (lx_G t n q - q) * 10 ^ lx_b t n q + lx_w 10 48 t (lx_G t n q + 1) (lx_b t n q) ∧ lx_G t n q - q + lx_b t n q ≤ 15) := by
  have hq : q < n := lx_K_lt (by rcases hK with e | e <;> rw [e] <;> decide)
  have h0 : ¬ n ≤ q := by omega
  have hl : isL (t q) = false := by
    cases h1 : isL (t q) with
    | false => rfl
    | true =>
      exfalso
      unfold lx_K at hK
      simp only [h0, h1, ↓reduceIte] at hK
      by_cases c : 8 < lx_L t n q - q
      · simp [c] at hK
      · simp [c] at hK
  have hg : isG (t q) = true := by
    cases h1 : isG (t q) with
    | true => rfl
    | false =>
      exfalso
      have h3 : lx_K t n q ≠ 260 ∧ lx_K t n q ≠ 261 := by
        unfold lx_K
        simp only [h0, hl, h1, ↓reduceIte, Bool.false_eq_true]
        repeat' split
        all_goals first | exact ⟨by decide, by decide⟩ | skip
        rename_i h5
        have hm : t q ∈ [37, 40, 41, 42, 43, 44, 45, 47, 58, 60, 61] := of_decide_eq_true h5
        simp only [List.mem_cons, List.not_mem_nil, or_false] at hm
        omega
      exact hK.elim h3.1 h3.2
  have s1 : lx_G t n q = lx_G t n (q + 1) := scan_step hq hg
  have s2 : q + 1 ≤ lx_G t n (q + 1) := scan_ge
  have s3 : lx_G t n q ≤ n := scan_le (Nat.le_of_lt hq)
  have KK : lx_K t n q = if lx_pt t n (lx_G t n q) = true then (if 15 < lx_G t n q - q + (lx_G t n (lx_G t n q + 1) - (lx_G t n q + 1)) then 263 else 261) else if 18 < lx_G t n q - q then 263 else 260 := by
    simp only [lx_K, h0, hl, hg, ↓reduceIte, Bool.false_eq_true]
  refine ⟨hq, by omega, s3, fun i h1 h2 => isG_of (scan_in (P := fun j => isG (t j)) h1 h2).2, scan_end (P := fun j => isG (t j)), fun e => ?_, fun e => ?_⟩
  · have hp : lx_pt t n (lx_G t n q) = false := by
      cases hp : lx_pt t n (lx_G t n q) with
      | false => rfl
      | true => rw [KK, hp, if_pos rfl] at e; split at e <;> omega
    rw [KK, hp] at e
    simp only [Bool.false_eq_true, ↓reduceIte] at e
    have h18 : ¬ 18 < lx_G t n q - q := fun c => by rw [if_pos c] at e; omega
    refine ⟨?_, ?_, ?_, by omega⟩
    · simp only [lx_E, h0, hl, hg, hp, ↓reduceIte, Bool.false_eq_true]
    · simp only [lx_v, hp, ↓reduceIte, Bool.false_eq_true]
    · simp only [lx_b, hp, ↓reduceIte, Bool.false_eq_true]
  · have hp : lx_pt t n (lx_G t n q) = true := by
      cases hp : lx_pt t n (lx_G t n q) with
      | true => rfl
      | false => rw [KK, hp] at e; simp only [Bool.false_eq_true, ↓reduceIte] at e; split at e <;> omega
    rw [KK, hp, if_pos rfl] at e
    have h15 : ¬ 15 < lx_G t n q - q + (lx_G t n (lx_G t n q + 1) - (lx_G t n q + 1)) := fun c => by rw [if_pos c] at e; omega
    have hpt : ((lx_G t n q < n ∧ t (lx_G t n q) = 46) ∧ lx_G t n q + 1 < n) ∧ isG (t (lx_G t n q + 1)) = true := by simpa only [lx_pt, Bool.and_eq_true, decide_eq_true_eq] using hp
    obtain ⟨⟨⟨p1, p2⟩, p3⟩, p4⟩ := hpt
    have hE : lx_E t n q = lx_G t n (lx_G t n q + 1) := by simp only [lx_E, h0, hl, hg, hp, ↓reduceIte, Bool.false_eq_true]
    have hb : lx_b t n q = lx_E t n q - (lx_G t n q + 1) := by rw [hE]; simp only [lx_b, hp, ↓reduceIte]
    have u1 : lx_G t n (lx_G t n q + 1) = lx_G t n (lx_G t n q + 1 + 1) := scan_step p3 p4
    have u2 : lx_G t n q + 1 + 1 ≤ lx_G t n (lx_G t n q + 1 + 1) := scan_ge
    have u3 : lx_G t n (lx_G t n q + 1) ≤ n := scan_le (Nat.le_of_lt p3)
    refine ⟨p3, p2, hE, by omega, by omega, fun i h1 h2 => ?_, hb, ?_, by omega⟩
    · rw [hE] at h2
      exact isG_of (scan_in (P := fun j => isG (t j)) h1 h2).2
    · simp only [lx_v, hp, ↓reduceIte]
/-- zeros that are not printed -/
theorem lx_Z_is {e g : Nat} (hg : q < g) (he : g ≤ e) (hn : e ≤ n) (hd : ∀ i, q ≤ i → i < g → 48 ≤ t i ∧ t i ≤ 57) (hx : g < n → isG (t g) = false) : q ≤ lx_Z t n e q ∧ lx_Z t n e q < g ∧ (∀ i, q ≤ i → i < lx_Z t n e q → t i = 48) ∧ (t (lx_Z t n e q) = 48 → lx_Z t n e q + 1 = g) := by
  have z1 : q ≤ lx_Z t n e q := scan_ge
  have zin : ∀ i, q ≤ i → i < lx_Z t n e q → i < n ∧ t i = 48 ∧ i + 1 < n ∧ isG (t (i + 1)) = true := by
    intro i h1 h2
    have := (scan_in (P := fun i => decide (i < n) && decide (t i = 48) && decide (i + 1 < n) && isG (t (i + 1))) h1 h2).2
    simp only [Bool.and_eq_true, decide_eq_true_eq] at this
    exact ⟨this.1.1.1, this.1.1.2, this.1.2, this.2⟩
  have z2 : lx_Z t n e q < g := by
    rcases Nat.lt_or_ge (lx_Z t n e q) g with c | c
    · exact c
    · exfalso
      obtain ⟨y1, y2, y3, y4⟩ := zin (g - 1) (by omega) (by omega)
      rw [show g - 1 + 1 = g by omega] at y3 y4
      rw [hx y3] at y4; cases y4
  refine ⟨z1, z2, fun i h1 h2 => (zin i h1 h2).2.1, fun hz => ?_⟩
  have := scan_end (P := fun i => decide (i < n) && decide (t i = 48) && decide (i + 1 < n) && isG (t (i + 1))) (n := e) (p := q)
  rcases Nat.lt_or_ge (lx_Z t n e q + 1) g with c | c
  · exfalso
    apply this
    refine ⟨show lx_Z t n e q < e by omega, ?_⟩
    have h2 := hd (lx_Z t n e q + 1) (by omega) c
    show (decide (lx_Z t n e q < n) && decide (t (lx_Z t n e q) = 48) && decide (lx_Z t n e q + 1 < n) && isG (t (lx_Z t n e q + 1))) = true
    simp only [Bool.and_eq_true, decide_eq_true_eq]
    exact ⟨⟨⟨by omega, hz⟩, by omega⟩, by simp [isG]; omega⟩
  · omega
theorem lx_w10 {a m : Nat} (h : ∀ i, i < m → 48 ≤ t (a + i) ∧ t (a + i) ≤ 57) : lx_w 10 48 t a m < 10 ^ m := lx_w_lt (by decide) m (fun i hi => by have := h i hi; omega)
theorem num_text (hK : lx_K t n q = 260 ∨ lx_K t n q = 261) : tx t (lx_Z t n (lx_E t n q) q) (lx_E t n q - lx_Z t n (lx_E t n q) q) = dgN (lx_v t n q) (lx_b t n q) ∧ q ≤ lx_Z t n (lx_E t n q) q ∧ lx_Z t n (lx_E t n q) q < lx_E t n q ∧ lx_E t n q ≤ n ∧ (∀ i, q ≤ i → i < lx_E t n q → t i < 128) := by
  obtain ⟨a1, a2, a3, a4, a5, a6, a7⟩ := lx_numG hK
  rcases hK with hK | hK
  · obtain ⟨b1, b2, b3, b4⟩ := a6 hK
    obtain ⟨z1, z2, z3, z4⟩ := lx_Z_is (t := t) (n := n) (q := q) (e := lx_G t n q) (g := lx_G t n q) a2 (Nat.le_refl _) a3 a4 (fun c => by
      cases h : isG (t (lx_G t n q)) with
      | false => rfl
      | true => exact absurd ⟨c, h⟩ a5)
    rw [b1, b2, b3]
    refine ⟨?_, z1, z2, a3, fun i h1 h2 => by have := a4 i h1 h2; omega⟩
    have hv : lx_w 10 48 t q (lx_G t n q - q) = lx_w 10 48 t (lx_Z t n (lx_G t n q) q) (lx_G t n q - lx_Z t n (lx_G t n q) q) := by
      have := lx_w_zero (t := t) (q := q) (lx_G t n q - q) (lx_Z t n (lx_G t n q) q - q) (by omega) (fun i hi => z3 (q + i) (by omega) (by omega))
      rw [this, show q + (lx_Z t n (lx_G t n q) q - q) = lx_Z t n (lx_G t n q) q by omega, show lx_G t n q - q - (lx_Z t n (lx_G t n q) q - q) = lx_G t n q - lx_Z t n (lx_G t n q) q by omega]
    rw [hv]
    generalize lx_Z t n (lx_G t n q) q = z at *
    generalize lx_G t n q = e at *
    obtain ⟨m, hm⟩ : ∃ m, e - z = m + 1 := ⟨e - z - 1, by omega⟩
    have hd : ∀ i, i < m + 1 → 48 ≤ t (z + i) ∧ t (z + i) ≤ 57 := fun i hi => a4 (z + i) (by omega) (by omega)
    have hlt := lx_w10 hd
    have h10 : m = 0 ∨ 10 ^ m ≤ lx_w 10 48 t z (m + 1) := by
      by_cases c : t z = 48
      · exact Or.inl (by have := z4 c; omega)
      · exact Or.inr (lx_w_ge (by have := hd 0 (by omega); rw [Nat.add_zero] at this; omega) m)
    rw [hm]
    unfold dgN
    rw [if_pos rfl, ndN_w 20 _ m hlt h10 (by omega), decN_w (m + 1) hd]
  · obtain ⟨c1, c2, c3, c4, c5, c6, c7, c8, c9⟩ := a7 hK
    obtain ⟨z1, z2, z3, z4⟩ := lx_Z_is (t := t) (n := n) (q := q) (e := lx_E t n q) (g := lx_G t n q) a2 (by omega) c5 a4 (fun c => by rw [c2]; decide)
    refine ⟨?_, z1, by omega, c5, fun i h1 h2 => ?_⟩
    · have hv : lx_w 10 48 t q (lx_G t n q - q) = lx_w 10 48 t (lx_Z t n (lx_E t n q) q) (lx_G t n q - lx_Z t n (lx_E t n q) q) := by
        have := lx_w_zero (t := t) (q := q) (lx_G t n q - q) (lx_Z t n (lx_E t n q) q - q) (by omega) (fun i hi => z3 (q + i) (by omega) (by omega))
        rw [this, show q + (lx_Z t n (lx_E t n q) q - q) = lx_Z t n (lx_E t n q) q by omega, show lx_G t n q - q - (lx_Z t n (lx_E t n q) q - q) = lx_G t n q - lx_Z t n (lx_E t n q) q by omega]
      rw [c8, hv]
      generalize lx_Z t n (lx_E t n q) q = z at *
      generalize lx_E t n q = e at *
      generalize lx_G t n q = g at *
      generalize lx_b t n q = b at *
      obtain ⟨m, hm⟩ : ∃ m, g - z = m + 1 := ⟨g - z - 1, by omega⟩
      have hd : ∀ i, i < m + 1 → 48 ≤ t (z + i) ∧ t (z + i) ≤ 57 := fun i hi => a4 (z + i) (by omega) (by omega)
      have hd2 : ∀ i, i < b → 48 ≤ t (g + 1 + i) ∧ t (g + 1 + i) ≤ 57 := fun i hi => c6 (g + 1 + i) (by omega) (by omega)
      have hy := lx_w10 hd2
      have hx := lx_w10 hd
      rw [hm, show e - z = (m + 1) + (1 + b) by omega, tx_app, show z + (m + 1) = g by omega, show 1 + b = b + 1 by omega, tx_succ (a := g) (m := b), c2]
      have hl : max (ndN 20 (lx_w 10 48 t z (m + 1) * 10 ^ b + lx_w 10 48 t (g + 1) b)) (b + 1) = (m + 1) + b := by
        by_cases c : t z = 48
        · have : m = 0 := by have := z4 c; omega
          subst this
          have hx0 : lx_w 10 48 t z (0 + 1) = 0 := by show 0 * 10 + (t (z + 0) - 48) = 0; rw [Nat.add_zero, c]
          rw [hx0, Nat.zero_mul, Nat.zero_add]
          obtain ⟨b', hb'⟩ : ∃ b', b = b' + 1 := ⟨b - 1, by omega⟩
          have := ndN_le 20 (lx_w 10 48 t (g + 1) b) b' (by rw [← hb']; exact hy)
          omega
        · have hge := lx_w_ge (t := t) (q := z) (by have := hd 0 (by omega); rw [Nat.add_zero] at this; omega) m
          have e1 : 10 ^ (m + b) = 10 ^ m * 10 ^ b := Nat.pow_add ..
          have e2 : 10 ^ (m + b + 1) = 10 ^ (m + 1) * 10 ^ b := by rw [← Nat.pow_add]; congr 1; omega
          have h1 : 10 ^ (m + b) ≤ lx_w 10 48 t z (m + 1) * 10 ^ b := by rw [e1]; exact Nat.mul_le_mul_right _ hge
          have h2 : (lx_w 10 48 t z (m + 1) + 1) * 10 ^ b ≤ 10 ^ (m + 1) * 10 ^ b := Nat.mul_le_mul_right _ hx
          rw [Nat.add_mul, Nat.one_mul] at h2
          rw [ndN_w 20 _ (m + b) (by omega) (Or.inr (by omega)) (by omega)]
          omega
      unfold dgN
      rw [if_neg (show ¬ b = 0 by omega), hl, decN_split b (m + 1) _ _ hy, decN_w (m + 1) hd, decN_w b hd2, show m + 1 + b - b = m + 1 by omega]
      rw [List.take_append_of_le_length (by rw [tx_len]; exact Nat.le_refl _), List.drop_append_of_le_length (by rw [tx_len]; exact Nat.le_refl _)]
      rw [List.take_of_length_le (by rw [tx_len]; exact Nat.le_refl _), List.drop_of_length_le (by rw [tx_len]; exact Nat.le_refl _)]
      rfl
    · by_cases d1 : i < lx_G t n q
      · have := a4 i h1 d1; omega
      · by_cases d2 : i = lx_G t n q
        · rw [d2, c2]; decide
        · have := c6 i (by omega) h2; omega
end NUMS

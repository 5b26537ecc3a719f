/-! TREES (by wip/whole/gen_rp.py): other texts, more names; trees without cells -/
section RPT
variable {fn : Bool} {kn kn' : Nat} {T : ntT} {M : Nat} {pN pF pN' pF' : Nat → List Nat} {R1 R2 R1' R2' : Nat → List (Int32 × Int64) → List Nat → List Nat → List (Nat × Nat) → Prop} {n : Nat} {D : List (Int32 × Int64)} {E L : List Nat} {G : List (Nat × Nat)}
theorem Rp_long_txt (hk : kn % 1000 ≤ kn' % 1000) (hr : kn < 1000 → kn' < 1000) (hN : ∀ k, k < kn % 1000 → pN' k = pN k) (hF : ∀ z, pF z ≠ [] → pF' z = pF z) (h1 : ∀ n D E L G, R1 n D E L G → R1' n D E L G) (h2 : ∀ n D E L G, R2 n D E L G → R2' n D E L G) (h : Rp_long fn kn T M pN pF R1 R2 n D E L G) : Rp_long fn kn' T M pN' pF' R1' R2' n D E L G := by
  obtain ⟨v, c0, ht, e1, e2, e3, e4⟩ := h
  exact ⟨v, c0, ht, e1, e2, e3, e4⟩
theorem Rp_deci_txt (hk : kn % 1000 ≤ kn' % 1000) (hr : kn < 1000 → kn' < 1000) (hN : ∀ k, k < kn % 1000 → pN' k = pN k) (hF : ∀ z, pF z ≠ [] → pF' z = pF z) (h1 : ∀ n D E L G, R1 n D E L G → R1' n D E L G) (h2 : ∀ n D E L G, R2 n D E L G → R2' n D E L G) (h : Rp_deci fn kn T M pN pF R1 R2 n D E L G) : Rp_deci fn kn' T M pN' pF' R1' R2' n D E L G := by
  obtain ⟨v, b, c0, c1, c2, ht, e1, e2, e3, e4⟩ := h
  exact ⟨v, b, c0, c1, c2, ht, e1, e2, e3, e4⟩
theorem Rp_ref_txt (hk : kn % 1000 ≤ kn' % 1000) (hr : kn < 1000 → kn' < 1000) (hN : ∀ k, k < kn % 1000 → pN' k = pN k) (hF : ∀ z, pF z ≠ [] → pF' z = pF z) (h1 : ∀ n D E L G, R1 n D E L G → R1' n D E L G) (h2 : ∀ n D E L G, R2 n D E L G → R2' n D E L G) (h : Rp_ref fn kn T M pN pF R1 R2 n D E L G) : Rp_ref fn kn' T M pN' pF' R1' R2' n D E L G := by
  obtain ⟨c, c0, c1, c2, ht, e1, e2, e3, e4⟩ := h
  exact ⟨c, c0, hr c1, c2, ht, e1, e2, e3, e4⟩
theorem Rp_name_txt (hk : kn % 1000 ≤ kn' % 1000) (hr : kn < 1000 → kn' < 1000) (hN : ∀ k, k < kn % 1000 → pN' k = pN k) (hF : ∀ z, pF z ≠ [] → pF' z = pF z) (h1 : ∀ n D E L G, R1 n D E L G → R1' n D E L G) (h2 : ∀ n D E L G, R2 n D E L G → R2' n D E L G) (h : Rp_name fn kn T M pN pF R1 R2 n D E L G) : Rp_name fn kn' T M pN' pF' R1' R2' n D E L G := by
  obtain ⟨k, c0, ht, e1, e2, e3, e4⟩ := h
  exact ⟨k, Nat.lt_of_lt_of_le c0 hk, ht, e1, (by rw [hN _ c0]; exact e2), e3, e4⟩
theorem Rp_minus_txt (hk : kn % 1000 ≤ kn' % 1000) (hr : kn < 1000 → kn' < 1000) (hN : ∀ k, k < kn % 1000 → pN' k = pN k) (hF : ∀ z, pF z ≠ [] → pF' z = pF z) (h1 : ∀ n D E L G, R1 n D E L G → R1' n D E L G) (h2 : ∀ n D E L G, R2 n D E L G → R2' n D E L G) (h : Rp_minus fn kn T M pN pF R1 R2 n D E L G) : Rp_minus fn kn' T M pN' pF' R1' R2' n D E L G := by
  obtain ⟨i, D1, E1, L1, G1, c0, ht, k0, e1, e2, e3, e4⟩ := h
  exact ⟨i, D1, E1, L1, G1, c0, ht, h1 _ _ _ _ _ k0, e1, e2, e3, e4⟩
theorem Rp_two_txt (hk : kn % 1000 ≤ kn' % 1000) (hr : kn < 1000 → kn' < 1000) (hN : ∀ k, k < kn % 1000 → pN' k = pN k) (hF : ∀ z, pF z ≠ [] → pF' z = pF z) (h1 : ∀ n D E L G, R1 n D E L G → R1' n D E L G) (h2 : ∀ n D E L G, R2 n D E L G → R2' n D E L G) (h : Rp_two fn kn T M pN pF R1 R2 n D E L G) : Rp_two fn kn' T M pN' pF' R1' R2' n D E L G := by
  obtain ⟨s, i, j, D1, E1, L1, G1, D2, E2, L2, G2, c0, c1, c2, ht, k0, k1, e1, e2, e3, e4⟩ := h
  exact ⟨s, i, j, D1, E1, L1, G1, D2, E2, L2, G2, c0, c1, c2, ht, h1 _ _ _ _ _ k0, h1 _ _ _ _ _ k1, e1, e2, e3, e4⟩
theorem Rp_if_txt (hk : kn % 1000 ≤ kn' % 1000) (hr : kn < 1000 → kn' < 1000) (hN : ∀ k, k < kn % 1000 → pN' k = pN k) (hF : ∀ z, pF z ≠ [] → pF' z = pF z) (h1 : ∀ n D E L G, R1 n D E L G → R1' n D E L G) (h2 : ∀ n D E L G, R2 n D E L G → R2' n D E L G) (h : Rp_if fn kn T M pN pF R1 R2 n D E L G) : Rp_if fn kn' T M pN' pF' R1' R2' n D E L G := by
  obtain ⟨i, j, l, D1, E1, L1, G1, D2, E2, L2, G2, D3, E3, L3, G3, c0, c1, c2, ht, k0, k1, k2, e1, e2, e3, e4⟩ := h
  exact ⟨i, j, l, D1, E1, L1, G1, D2, E2, L2, G2, D3, E3, L3, G3, c0, c1, c2, ht, h2 _ _ _ _ _ k0, h2 _ _ _ _ _ k1, h2 _ _ _ _ _ k2, e1, e2, e3, e4⟩
theorem Rp_try_txt (hk : kn % 1000 ≤ kn' % 1000) (hr : kn < 1000 → kn' < 1000) (hN : ∀ k, k < kn % 1000 → pN' k = pN k) (hF : ∀ z, pF z ≠ [] → pF' z = pF z) (h1 : ∀ n D E L G, R1 n D E L G → R1' n D E L G) (h2 : ∀ n D E L G, R2 n D E L G → R2' n D E L G) (h : Rp_try fn kn T M pN pF R1 R2 n D E L G) : Rp_try fn kn' T M pN' pF' R1' R2' n D E L G := by
  obtain ⟨i, j, D1, E1, L1, G1, D2, E2, L2, G2, c0, c1, ht, k0, k1, e1, e2, e3, e4⟩ := h
  exact ⟨i, j, D1, E1, L1, G1, D2, E2, L2, G2, c0, c1, ht, h2 _ _ _ _ _ k0, h2 _ _ _ _ _ k1, e1, e2, e3, e4⟩
theorem Rp_fold_txt (hk : kn % 1000 ≤ kn' % 1000) (hr : kn < 1000 → kn' < 1000) (hN : ∀ k, k < kn % 1000 → pN' k = pN k) (hF : ∀ z, pF z ≠ [] → pF' z = pF z) (h1 : ∀ n D E L G, R1 n D E L G → R1' n D E L G) (h2 : ∀ n D E L G, R2 n D E L G → R2' n D E L G) (h : Rp_fold fn kn T M pN pF R1 R2 n D E L G) : Rp_fold fn kn' T M pN' pF' R1' R2' n D E L G := by
  obtain ⟨w, i, a, b, c0, c1, c2, c3, c4, ht, r0, e1, e2, e3, e4⟩ := h
  exact ⟨w, i, a, b, c0, c1, c2, hr c3, c4, ht, r0, e1, e2, e3, e4⟩
theorem Rp_at_txt (hk : kn % 1000 ≤ kn' % 1000) (hr : kn < 1000 → kn' < 1000) (hN : ∀ k, k < kn % 1000 → pN' k = pN k) (hF : ∀ z, pF z ≠ [] → pF' z = pF z) (h1 : ∀ n D E L G, R1 n D E L G → R1' n D E L G) (h2 : ∀ n D E L G, R2 n D E L G → R2' n D E L G) (h : Rp_at fn kn T M pN pF R1 R2 n D E L G) : Rp_at fn kn' T M pN' pF' R1' R2' n D E L G := by
  obtain ⟨i, j, a, b, D2, E2, L2, G2, c0, c1, c2, c3, ht, r0, k0, e1, e2, e3, e4⟩ := h
  exact ⟨i, j, a, b, D2, E2, L2, G2, c0, hr c1, c2, c3, ht, r0, h2 _ _ _ _ _ k0, e1, e2, e3, e4⟩
theorem Rp_line_txt (hk : kn % 1000 ≤ kn' % 1000) (hr : kn < 1000 → kn' < 1000) (hN : ∀ k, k < kn % 1000 → pN' k = pN k) (hF : ∀ z, pF z ≠ [] → pF' z = pF z) (h1 : ∀ n D E L G, R1 n D E L G → R1' n D E L G) (h2 : ∀ n D E L G, R2 n D E L G → R2' n D E L G) (h : Rp_line fn kn T M pN pF R1 R2 n D E L G) : Rp_line fn kn' T M pN' pF' R1' R2' n D E L G := by
  obtain ⟨i, j, l, a, b, a', b', D1, E1, L1, G1, c0, c1, c2, c3, c4, ht, r0, r1, k0, e1, e2, e3, e4⟩ := h
  exact ⟨i, j, l, a, b, a', b', D1, E1, L1, G1, c0, hr c1, c2, c3, c4, ht, r0, r1, h2 _ _ _ _ _ k0, e1, e2, e3, e4⟩
theorem Rp_area_txt (hk : kn % 1000 ≤ kn' % 1000) (hr : kn < 1000 → kn' < 1000) (hN : ∀ k, k < kn % 1000 → pN' k = pN k) (hF : ∀ z, pF z ≠ [] → pF' z = pF z) (h1 : ∀ n D E L G, R1 n D E L G → R1' n D E L G) (h2 : ∀ n D E L G, R2 n D E L G → R2' n D E L G) (h : Rp_area fn kn T M pN pF R1 R2 n D E L G) : Rp_area fn kn' T M pN' pF' R1' R2' n D E L G := by
  obtain ⟨i, j, a, b, a', b', c0, c1, c2, c3, ht, r0, r1, e1, e2, e3, e4⟩ := h
  exact ⟨i, j, a, b, a', b', c0, hr c1, c2, c3, ht, r0, r1, e1, e2, e3, e4⟩
theorem Rp_cut_txt (hk : kn % 1000 ≤ kn' % 1000) (hr : kn < 1000 → kn' < 1000) (hN : ∀ k, k < kn % 1000 → pN' k = pN k) (hF : ∀ z, pF z ≠ [] → pF' z = pF z) (h1 : ∀ n D E L G, R1 n D E L G → R1' n D E L G) (h2 : ∀ n D E L G, R2 n D E L G → R2' n D E L G) (h : Rp_cut fn kn T M pN pF R1 R2 n D E L G) : Rp_cut fn kn' T M pN' pF' R1' R2' n D E L G := by
  obtain ⟨w, i, D1, E1, L1, G1, c0, c1, c2, ht, k0, e1, e2, e3, e4⟩ := h
  exact ⟨w, i, D1, E1, L1, G1, c0, c1, c2, ht, h2 _ _ _ _ _ k0, e1, e2, e3, e4⟩
theorem Rp_fun1_txt (hk : kn % 1000 ≤ kn' % 1000) (hr : kn < 1000 → kn' < 1000) (hN : ∀ k, k < kn % 1000 → pN' k = pN k) (hF : ∀ z, pF z ≠ [] → pF' z = pF z) (h1 : ∀ n D E L G, R1 n D E L G → R1' n D E L G) (h2 : ∀ n D E L G, R2 n D E L G → R2' n D E L G) (h : Rp_fun1 fn kn T M pN pF R1 R2 n D E L G) : Rp_fun1 fn kn' T M pN' pF' R1' R2' n D E L G := by
  obtain ⟨g, i, D1, E1, L1, G1, c0, c1, c2, ht, k0, e1, e2, e3, e4⟩ := h
  exact ⟨g, i, D1, E1, L1, G1, c0, (by rw [hF _ c1]; exact c1), c2, ht, h2 _ _ _ _ _ k0, e1, (by rw [hF _ c1]; exact e2), e3, e4⟩
theorem Rp_fun2_txt (hk : kn % 1000 ≤ kn' % 1000) (hr : kn < 1000 → kn' < 1000) (hN : ∀ k, k < kn % 1000 → pN' k = pN k) (hF : ∀ z, pF z ≠ [] → pF' z = pF z) (h1 : ∀ n D E L G, R1 n D E L G → R1' n D E L G) (h2 : ∀ n D E L G, R2 n D E L G → R2' n D E L G) (h : Rp_fun2 fn kn T M pN pF R1 R2 n D E L G) : Rp_fun2 fn kn' T M pN' pF' R1' R2' n D E L G := by
  obtain ⟨g, i, j, D1, E1, L1, G1, D2, E2, L2, G2, c0, c1, c2, c3, ht, k0, k1, e1, e2, e3, e4⟩ := h
  exact ⟨g, i, j, D1, E1, L1, G1, D2, E2, L2, G2, c0, (by rw [hF _ c1]; exact c1), c2, c3, ht, h2 _ _ _ _ _ k0, h2 _ _ _ _ _ k1, e1, (by rw [hF _ c1]; exact e2), e3, e4⟩
theorem Rp_fun3_txt (hk : kn % 1000 ≤ kn' % 1000) (hr : kn < 1000 → kn' < 1000) (hN : ∀ k, k < kn % 1000 → pN' k = pN k) (hF : ∀ z, pF z ≠ [] → pF' z = pF z) (h1 : ∀ n D E L G, R1 n D E L G → R1' n D E L G) (h2 : ∀ n D E L G, R2 n D E L G → R2' n D E L G) (h : Rp_fun3 fn kn T M pN pF R1 R2 n D E L G) : Rp_fun3 fn kn' T M pN' pF' R1' R2' n D E L G := by
  obtain ⟨g, i, j, l, D1, E1, L1, G1, D2, E2, L2, G2, D3, E3, L3, G3, c0, c1, c2, c3, c4, ht, k0, k1, k2, e1, e2, e3, e4⟩ := h
  exact ⟨g, i, j, l, D1, E1, L1, G1, D2, E2, L2, G2, D3, E3, L3, G3, c0, (by rw [hF _ c1]; exact c1), c2, c3, c4, ht, h2 _ _ _ _ _ k0, h2 _ _ _ _ _ k1, h2 _ _ _ _ _ k2, e1, (by rw [hF _ c1]; exact e2), e3, e4⟩
theorem Rp_root_txt (hk : kn % 1000 ≤ kn' % 1000) (hr : kn < 1000 → kn' < 1000) (hN : ∀ k, k < kn % 1000 → pN' k = pN k) (hF : ∀ z, pF z ≠ [] → pF' z = pF z) (h1 : ∀ n D E L G, R1 n D E L G → R1' n D E L G) (h2 : ∀ n D E L G, R2 n D E L G → R2' n D E L G) (h : Rp_root fn kn T M pN pF R1 R2 n D E L G) : Rp_root fn kn' T M pN' pF' R1' R2' n D E L G := by
  obtain ⟨g, i, j, D1, E1, L1, G1, D2, E2, L2, G2, c0, c1, c2, c3, ht, k0, k1, e1, e2, e3, e4⟩ := h
  exact ⟨g, i, j, D1, E1, L1, G1, D2, E2, L2, G2, c0, (by rw [hF _ c1]; exact c1), c2, c3, ht, h2 _ _ _ _ _ k0, h2 _ _ _ _ _ k1, e1, (by rw [hF _ c1]; exact e2), e3, e4⟩
theorem RpS_txt (hk : kn % 1000 ≤ kn' % 1000) (hr : kn < 1000 → kn' < 1000) (hN : ∀ k, k < kn % 1000 → pN' k = pN k) (hF : ∀ z, pF z ≠ [] → pF' z = pF z) (h1 : ∀ n D E L G, R1 n D E L G → R1' n D E L G) (h2 : ∀ n D E L G, R2 n D E L G → R2' n D E L G) (h : RpS fn kn T M pN pF R1 R2 n D E L G) : RpS fn kn' T M pN' pF' R1' R2' n D E L G := by
  obtain ⟨hn, h⟩ := h
  refine ⟨hn, ?_⟩
  rcases h with h | h | h | h | h | h | h | h | h | h | h | h | h | h | h | h | h
  · exact Or.inl (Rp_long_txt hk hr hN hF h1 h2 h)
  · exact Or.inr (Or.inl (Rp_deci_txt hk hr hN hF h1 h2 h))
  · exact Or.inr (Or.inr (Or.inl (Rp_ref_txt hk hr hN hF h1 h2 h)))
  · exact Or.inr (Or.inr (Or.inr (Or.inl (Rp_name_txt hk hr hN hF h1 h2 h))))
  · exact Or.inr (Or.inr (Or.inr (Or.inr (Or.inl (Rp_minus_txt hk hr hN hF h1 h2 h)))))
  · exact Or.inr (Or.inr (Or.inr (Or.inr (Or.inr (Or.inl (Rp_two_txt hk hr hN hF h1 h2 h))))))
  · exact Or.inr (Or.inr (Or.inr (Or.inr (Or.inr (Or.inr (Or.inl (Rp_if_txt hk hr hN hF h1 h2 h)))))))
  · exact Or.inr (Or.inr (Or.inr (Or.inr (Or.inr (Or.inr (Or.inr (Or.inl (Rp_try_txt hk hr hN hF h1 h2 h))))))))
  · exact Or.inr (Or.inr (Or.inr (Or.inr (Or.inr (Or.inr (Or.inr (Or.inr (Or.inl (Rp_fold_txt hk hr hN hF h1 h2 h)))))))))
  · exact Or.inr (Or.inr (Or.inr (Or.inr (Or.inr (Or.inr (Or.inr (Or.inr (Or.inr (Or.inl (Rp_at_txt hk hr hN hF h1 h2 h))))))))))
  · exact Or.inr (Or.inr (Or.inr (Or.inr (Or.inr (Or.inr (Or.inr (Or.inr (Or.inr (Or.inr (Or.inl (Rp_line_txt hk hr hN hF h1 h2 h)))))))))))
  · exact Or.inr (Or.inr (Or.inr (Or.inr (Or.inr (Or.inr (Or.inr (Or.inr (Or.inr (Or.inr (Or.inr (Or.inl (Rp_area_txt hk hr hN hF h1 h2 h))))))))))))
  · exact Or.inr (Or.inr (Or.inr (Or.inr (Or.inr (Or.inr (Or.inr (Or.inr (Or.inr (Or.inr (Or.inr (Or.inr (Or.inl (Rp_cut_txt hk hr hN hF h1 h2 h)))))))))))))
  · exact Or.inr (Or.inr (Or.inr (Or.inr (Or.inr (Or.inr (Or.inr (Or.inr (Or.inr (Or.inr (Or.inr (Or.inr (Or.inr (Or.inl (Rp_fun1_txt hk hr hN hF h1 h2 h))))))))))))))
  · exact Or.inr (Or.inr (Or.inr (Or.inr (Or.inr (Or.inr (Or.inr (Or.inr (Or.inr (Or.inr (Or.inr (Or.inr (Or.inr (Or.inr (Or.inl (Rp_fun2_txt hk hr hN hF h1 h2 h)))))))))))))))
  · exact Or.inr (Or.inr (Or.inr (Or.inr (Or.inr (Or.inr (Or.inr (Or.inr (Or.inr (Or.inr (Or.inr (Or.inr (Or.inr (Or.inr (Or.inr (Or.inl (Rp_fun3_txt hk hr hN hF h1 h2 h))))))))))))))))
  · exact Or.inr (Or.inr (Or.inr (Or.inr (Or.inr (Or.inr (Or.inr (Or.inr (Or.inr (Or.inr (Or.inr (Or.inr (Or.inr (Or.inr (Or.inr (Or.inr (Rp_root_txt hk hr hN hF h1 h2 h))))))))))))))))
theorem Rp_txt (hk : kn % 1000 ≤ kn' % 1000) (hr : kn < 1000 → kn' < 1000) (hN : ∀ k, k < kn % 1000 → pN' k = pN k) (hF : ∀ z, pF z ≠ [] → pF' z = pF z) : ∀ c f, f < c → ∀ n D E L G, Rp fn kn T M pN pF f n D E L G → Rp fn kn' T M pN' pF' f n D E L G := by
  intro c
  induction c with
  | zero => intro f hc; omega
  | succ c ih =>
    intro f hc n D E L G h
    match f, h with
    | 0, h => exact absurd h Rp_nil
    | f + 1, h =>
      rw [Rp_one] at h ⊢
      exact RpS_txt hk hr hN hF (ih f (by omega)) (ih (f - 41) (by omega)) h
theorem Rp_long_noL (hk : 1000 ≤ kn) (h1 : ∀ n D E L G, R1 n D E L G → L = []) (h2 : ∀ n D E L G, R2 n D E L G → L = []) (h : Rp_long fn kn T M pN pF R1 R2 n D E L G) : L = [] := by
  obtain ⟨v, c0, ht, e1, e2, e3, e4⟩ := h
  subst e3;  rfl
theorem Rp_deci_noL (hk : 1000 ≤ kn) (h1 : ∀ n D E L G, R1 n D E L G → L = []) (h2 : ∀ n D E L G, R2 n D E L G → L = []) (h : Rp_deci fn kn T M pN pF R1 R2 n D E L G) : L = [] := by
  obtain ⟨v, b, c0, c1, c2, ht, e1, e2, e3, e4⟩ := h
  subst e3;  rfl
theorem Rp_ref_noL (hk : 1000 ≤ kn) (h1 : ∀ n D E L G, R1 n D E L G → L = []) (h2 : ∀ n D E L G, R2 n D E L G → L = []) (h : Rp_ref fn kn T M pN pF R1 R2 n D E L G) : L = [] := by
  obtain ⟨c, c0, c1, c2, ht, e1, e2, e3, e4⟩ := h
  exact absurd c1 (by omega)
theorem Rp_name_noL (hk : 1000 ≤ kn) (h1 : ∀ n D E L G, R1 n D E L G → L = []) (h2 : ∀ n D E L G, R2 n D E L G → L = []) (h : Rp_name fn kn T M pN pF R1 R2 n D E L G) : L = [] := by
  obtain ⟨k, c0, ht, e1, e2, e3, e4⟩ := h
  subst e3;  rfl
theorem Rp_minus_noL (hk : 1000 ≤ kn) (h1 : ∀ n D E L G, R1 n D E L G → L = []) (h2 : ∀ n D E L G, R2 n D E L G → L = []) (h : Rp_minus fn kn T M pN pF R1 R2 n D E L G) : L = [] := by
  obtain ⟨i, D1, E1, L1, G1, c0, ht, k0, e1, e2, e3, e4⟩ := h
  subst e3; have z0 := h1 _ _ _ _ _ k0; simp [z0]
theorem Rp_two_noL (hk : 1000 ≤ kn) (h1 : ∀ n D E L G, R1 n D E L G → L = []) (h2 : ∀ n D E L G, R2 n D E L G → L = []) (h : Rp_two fn kn T M pN pF R1 R2 n D E L G) : L = [] := by
  obtain ⟨s, i, j, D1, E1, L1, G1, D2, E2, L2, G2, c0, c1, c2, ht, k0, k1, e1, e2, e3, e4⟩ := h
  subst e3; have z0 := h1 _ _ _ _ _ k0; have z1 := h1 _ _ _ _ _ k1; simp [z0, z1]
theorem Rp_if_noL (hk : 1000 ≤ kn) (h1 : ∀ n D E L G, R1 n D E L G → L = []) (h2 : ∀ n D E L G, R2 n D E L G → L = []) (h : Rp_if fn kn T M pN pF R1 R2 n D E L G) : L = [] := by
  obtain ⟨i, j, l, D1, E1, L1, G1, D2, E2, L2, G2, D3, E3, L3, G3, c0, c1, c2, ht, k0, k1, k2, e1, e2, e3, e4⟩ := h
  subst e3; have z0 := h2 _ _ _ _ _ k0; have z1 := h2 _ _ _ _ _ k1; have z2 := h2 _ _ _ _ _ k2; simp [z0, z1, z2]
theorem Rp_try_noL (hk : 1000 ≤ kn) (h1 : ∀ n D E L G, R1 n D E L G → L = []) (h2 : ∀ n D E L G, R2 n D E L G → L = []) (h : Rp_try fn kn T M pN pF R1 R2 n D E L G) : L = [] := by
  obtain ⟨i, j, D1, E1, L1, G1, D2, E2, L2, G2, c0, c1, ht, k0, k1, e1, e2, e3, e4⟩ := h
  subst e3; have z0 := h2 _ _ _ _ _ k0; have z1 := h2 _ _ _ _ _ k1; simp [z0, z1]
theorem Rp_fold_noL (hk : 1000 ≤ kn) (h1 : ∀ n D E L G, R1 n D E L G → L = []) (h2 : ∀ n D E L G, R2 n D E L G → L = []) (h : Rp_fold fn kn T M pN pF R1 R2 n D E L G) : L = [] := by
  obtain ⟨w, i, a, b, c0, c1, c2, c3, c4, ht, r0, e1, e2, e3, e4⟩ := h
  exact absurd c3 (by omega)
theorem Rp_at_noL (hk : 1000 ≤ kn) (h1 : ∀ n D E L G, R1 n D E L G → L = []) (h2 : ∀ n D E L G, R2 n D E L G → L = []) (h : Rp_at fn kn T M pN pF R1 R2 n D E L G) : L = [] := by
  obtain ⟨i, j, a, b, D2, E2, L2, G2, c0, c1, c2, c3, ht, r0, k0, e1, e2, e3, e4⟩ := h
  exact absurd c1 (by omega)
theorem Rp_line_noL (hk : 1000 ≤ kn) (h1 : ∀ n D E L G, R1 n D E L G → L = []) (h2 : ∀ n D E L G, R2 n D E L G → L = []) (h : Rp_line fn kn T M pN pF R1 R2 n D E L G) : L = [] := by
  obtain ⟨i, j, l, a, b, a', b', D1, E1, L1, G1, c0, c1, c2, c3, c4, ht, r0, r1, k0, e1, e2, e3, e4⟩ := h
  exact absurd c1 (by omega)
theorem Rp_area_noL (hk : 1000 ≤ kn) (h1 : ∀ n D E L G, R1 n D E L G → L = []) (h2 : ∀ n D E L G, R2 n D E L G → L = []) (h : Rp_area fn kn T M pN pF R1 R2 n D E L G) : L = [] := by
  obtain ⟨i, j, a, b, a', b', c0, c1, c2, c3, ht, r0, r1, e1, e2, e3, e4⟩ := h
  exact absurd c1 (by omega)
theorem Rp_cut_noL (hk : 1000 ≤ kn) (h1 : ∀ n D E L G, R1 n D E L G → L = []) (h2 : ∀ n D E L G, R2 n D E L G → L = []) (h : Rp_cut fn kn T M pN pF R1 R2 n D E L G) : L = [] := by
  obtain ⟨w, i, D1, E1, L1, G1, c0, c1, c2, ht, k0, e1, e2, e3, e4⟩ := h
  subst e3; have z0 := h2 _ _ _ _ _ k0; simp [z0]
theorem Rp_fun1_noL (hk : 1000 ≤ kn) (h1 : ∀ n D E L G, R1 n D E L G → L = []) (h2 : ∀ n D E L G, R2 n D E L G → L = []) (h : Rp_fun1 fn kn T M pN pF R1 R2 n D E L G) : L = [] := by
  obtain ⟨g, i, D1, E1, L1, G1, c0, c1, c2, ht, k0, e1, e2, e3, e4⟩ := h
  subst e3; have z0 := h2 _ _ _ _ _ k0; simp [z0]
theorem Rp_fun2_noL (hk : 1000 ≤ kn) (h1 : ∀ n D E L G, R1 n D E L G → L = []) (h2 : ∀ n D E L G, R2 n D E L G → L = []) (h : Rp_fun2 fn kn T M pN pF R1 R2 n D E L G) : L = [] := by
  obtain ⟨g, i, j, D1, E1, L1, G1, D2, E2, L2, G2, c0, c1, c2, c3, ht, k0, k1, e1, e2, e3, e4⟩ := h
  subst e3; have z0 := h2 _ _ _ _ _ k0; have z1 := h2 _ _ _ _ _ k1; simp [z0, z1]
theorem Rp_fun3_noL (hk : 1000 ≤ kn) (h1 : ∀ n D E L G, R1 n D E L G → L = []) (h2 : ∀ n D E L G, R2 n D E L G → L = []) (h : Rp_fun3 fn kn T M pN pF R1 R2 n D E L G) : L = [] := by
  obtain ⟨g, i, j, l, D1, E1, L1, G1, D2, E2, L2, G2, D3, E3, L3, G3, c0, c1, c2, c3, c4, ht, k0, k1, k2, e1, e2, e3, e4⟩ := h
  subst e3; have z0 := h2 _ _ _ _ _ k0; have z1 := h2 _ _ _ _ _ k1; have z2 := h2 _ _ _ _ _ k2; simp [z0, z1, z2]
theorem Rp_root_noL (hk : 1000 ≤ kn) (h1 : ∀ n D E L G, R1 n D E L G → L = []) (h2 : ∀ n D E L G, R2 n D E L G → L = []) (h : Rp_root fn kn T M pN pF R1 R2 n D E L G) : L = [] := by
  obtain ⟨g, i, j, D1, E1, L1, G1, D2, E2, L2, G2, c0, c1, c2, c3, ht, k0, k1, e1, e2, e3, e4⟩ := h
  subst e3; have z0 := h2 _ _ _ _ _ k0; have z1 := h2 _ _ _ _ _ k1; simp [z0, z1]
theorem Rp_noL (hk : 1000 ≤ kn) : ∀ c f, f < c → ∀ n D E L G, Rp fn kn T M pN pF f n D E L G → L = [] := by
  intro c
  induction c with
  | zero => intro f hc; omega
  | succ c ih =>
    intro f hc n D E L G h
    match f, h with
    | 0, h => exact absurd h Rp_nil
    | f + 1, h =>
      rw [Rp_one] at h
      have h1 := ih f (by omega)
      have h2 := ih (f - 41) (by omega)
      rcases h.2 with q | q | q | q | q | q | q | q | q | q | q | q | q | q | q | q | q
      · exact Rp_long_noL hk h1 h2 q
      · exact Rp_deci_noL hk h1 h2 q
      · exact Rp_ref_noL hk h1 h2 q
      · exact Rp_name_noL hk h1 h2 q
      · exact Rp_minus_noL hk h1 h2 q
      · exact Rp_two_noL hk h1 h2 q
      · exact Rp_if_noL hk h1 h2 q
      · exact Rp_try_noL hk h1 h2 q
      · exact Rp_fold_noL hk h1 h2 q
      · exact Rp_at_noL hk h1 h2 q
      · exact Rp_line_noL hk h1 h2 q
      · exact Rp_area_noL hk h1 h2 q
      · exact Rp_cut_noL hk h1 h2 q
      · exact Rp_fun1_noL hk h1 h2 q
      · exact Rp_fun2_noL hk h1 h2 q
      · exact Rp_fun3_noL hk h1 h2 q
      · exact Rp_root_noL hk h1 h2 q
end RPT

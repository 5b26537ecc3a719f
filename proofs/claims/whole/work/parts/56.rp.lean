/-! TREES in the model's tables (by wip/whole/gen_rp.py): node n of T, all below M; it gives the code D, is printed as E, needs L, calls G -/
def Rp_long (fn : Bool) (kn : Nat) (T : ntT) (M : Nat) (pN pF : Nat → List Nat) (R1 R2 : Nat → List (Int32 × Int64) → List Nat → List Nat → List (Nat × Nat) → Prop) (n : Nat) (D : List (Int32 × Int64)) (E L : List Nat) (G : List (Nat × Nat)) : Prop := ∃ v, v < 10 ^ 18 ∧ T n = (nI 1, nI 0, nI 0, nI 0, lN v) ∧ D = [ST, (nI 1, lN v)] ∧ E = dgN v 0 ∧ L = [] ∧ G = []
def Rp_deci (fn : Bool) (kn : Nat) (T : ntT) (M : Nat) (pN pF : Nat → List Nat) (R1 R2 : Nat → List (Int32 × Int64) → List Nat → List Nat → List (Nat × Nat) → Prop) (n : Nat) (D : List (Int32 × Int64)) (E L : List Nat) (G : List (Nat × Nat)) : Prop := ∃ v b, v < 10 ^ 15 ∧ 1 ≤ b ∧ b ≤ 14 ∧ T n = (nI 2, nI b, nI 0, nI 0, lN v) ∧ D = [ST, (nI 2, lN (v * 16 + b))] ∧ E = dgN v b ∧ L = [] ∧ G = []
def Rp_ref (fn : Bool) (kn : Nat) (T : ntT) (M : Nat) (pN pF : Nat → List Nat) (R1 R2 : Nat → List (Int32 × Int64) → List Nat → List Nat → List (Nat × Nat) → Prop) (n : Nat) (D : List (Int32 × Int64)) (E L : List Nat) (G : List (Nat × Nat)) : Prop := ∃ c, fn = false ∧ kn < 1000 ∧ c < 256 ∧ T n = (nI 3, nI c, nI 0, nI 0, lN 0) ∧ D = [ST, (nI 3, lN c)] ∧ E = clN c ∧ L = [c] ∧ G = []
def Rp_name (fn : Bool) (kn : Nat) (T : ntT) (M : Nat) (pN pF : Nat → List Nat) (R1 R2 : Nat → List (Int32 × Int64) → List Nat → List Nat → List (Nat × Nat) → Prop) (n : Nat) (D : List (Int32 × Int64)) (E L : List Nat) (G : List (Nat × Nat)) : Prop := ∃ k, k < kn % 1000 ∧ T n = (nI 4, nI k, nI 0, nI 0, lN 0) ∧ D = [ST, (nI (if fn = true then 5 else 4), lN k)] ∧ E = pN k ∧ L = [] ∧ G = []
def Rp_minus (fn : Bool) (kn : Nat) (T : ntT) (M : Nat) (pN pF : Nat → List Nat) (R1 R2 : Nat → List (Int32 × Int64) → List Nat → List Nat → List (Nat × Nat) → Prop) (n : Nat) (D : List (Int32 × Int64)) (E L : List Nat) (G : List (Nat × Nat)) : Prop := ∃ i D1 E1 L1 G1, i < n ∧ T n = (nI 5, nI i, nI 0, nI 0, lN 0) ∧ R1 i D1 E1 L1 G1 ∧ D = ST :: D1 ++ [(nI 6, lN 0)] ∧ E = [40, 45] ++ E1 ++ [41] ∧ L = L1 ∧ G = G1
def Rp_two (fn : Bool) (kn : Nat) (T : ntT) (M : Nat) (pN pF : Nat → List Nat) (R1 R2 : Nat → List (Int32 × Int64) → List Nat → List Nat → List (Nat × Nat) → Prop) (n : Nat) (D : List (Int32 × Int64)) (E L : List Nat) (G : List (Nat × Nat)) : Prop := ∃ s i j D1 E1 L1 G1 D2 E2 L2 G2, s ∈ [43, 45, 42, 47, 37, 60, 76, 61, 78] ∧ i < n ∧ j < n ∧ T n = (nI 6, nI s, nI i, nI j, lN 0) ∧ R1 i D1 E1 L1 G1 ∧ R1 j D2 E2 L2 G2 ∧ D = ST :: D1 ++ D2 ++ [(nI (opN s), lN 0)] ∧ E = 40 :: E1 ++ sgN s ++ E2 ++ [41] ∧ L = L1 ++ L2 ∧ G = G1 ++ G2
def Rp_if (fn : Bool) (kn : Nat) (T : ntT) (M : Nat) (pN pF : Nat → List Nat) (R1 R2 : Nat → List (Int32 × Int64) → List Nat → List Nat → List (Nat × Nat) → Prop) (n : Nat) (D : List (Int32 × Int64)) (E L : List Nat) (G : List (Nat × Nat)) : Prop := ∃ i j l D1 E1 L1 G1 D2 E2 L2 G2 D3 E3 L3 G3, i < n ∧ j < n ∧ l < n ∧ T n = (nI 7, nI i, nI j, nI l, lN 0) ∧ R2 i D1 E1 L1 G1 ∧ R2 j D2 E2 L2 G2 ∧ R2 l D3 E3 L3 G3 ∧ D = ST :: D1 ++ (nI 16, lN (D2.length + 1)) :: D2 ++ (nI 17, lN D3.length) :: D3 ∧ E = wdN 0 ++ 40 :: E1 ++ 44 :: E2 ++ 44 :: E3 ++ [41] ∧ L = L1 ++ L2 ++ L3 ∧ G = G1 ++ G2 ++ G3
def Rp_try (fn : Bool) (kn : Nat) (T : ntT) (M : Nat) (pN pF : Nat → List Nat) (R1 R2 : Nat → List (Int32 × Int64) → List Nat → List Nat → List (Nat × Nat) → Prop) (n : Nat) (D : List (Int32 × Int64)) (E L : List Nat) (G : List (Nat × Nat)) : Prop := ∃ i j D1 E1 L1 G1 D2 E2 L2 G2, i < n ∧ j < n ∧ T n = (nI 7, nI i, nI j, -1, lN 1) ∧ R2 i D1 E1 L1 G1 ∧ R2 j D2 E2 L2 G2 ∧ D = ST :: (nI 18, lN (D1.length + 1)) :: D1 ++ (nI 19, lN D2.length) :: D2 ∧ E = wdN 1 ++ 40 :: E1 ++ 44 :: E2 ++ [41] ∧ L = L1 ++ L2 ∧ G = G1 ++ G2
def Rp_fold (fn : Bool) (kn : Nat) (T : ntT) (M : Nat) (pN pF : Nat → List Nat) (R1 R2 : Nat → List (Int32 × Int64) → List Nat → List Nat → List (Nat × Nat) → Prop) (n : Nat) (D : List (Int32 × Int64)) (E L : List Nat) (G : List (Nat × Nat)) : Prop := ∃ w i a b, 2 ≤ w ∧ w ≤ 5 ∧ fn = false ∧ kn < 1000 ∧ i < n ∧ T n = (nI 7, nI i, -1, -1, lN w) ∧ rows_ T M i a b ∧ D = [ST, (nI (18 + w), lN (a + 256 * b))] ∧ E = wdN w ++ 40 :: clN a ++ 58 :: clN b ++ [41] ∧ L = rgL a b ∧ G = []
def Rp_at (fn : Bool) (kn : Nat) (T : ntT) (M : Nat) (pN pF : Nat → List Nat) (R1 R2 : Nat → List (Int32 × Int64) → List Nat → List Nat → List (Nat × Nat) → Prop) (n : Nat) (D : List (Int32 × Int64)) (E L : List Nat) (G : List (Nat × Nat)) : Prop := ∃ i j a b D2 E2 L2 G2, fn = false ∧ kn < 1000 ∧ i < n ∧ j < n ∧ T n = (nI 7, nI i, nI j, -1, lN 6) ∧ rows_ T M i a b ∧ R2 j D2 E2 L2 G2 ∧ D = ST :: D2 ++ [(nI 24, lN (a + 256 * b))] ∧ E = wdN 6 ++ 40 :: clN a ++ 58 :: clN b ++ 44 :: E2 ++ [41] ∧ L = rgL a b ++ L2 ∧ G = G2
def Rp_line (fn : Bool) (kn : Nat) (T : ntT) (M : Nat) (pN pF : Nat → List Nat) (R1 R2 : Nat → List (Int32 × Int64) → List Nat → List Nat → List (Nat × Nat) → Prop) (n : Nat) (D : List (Int32 × Int64)) (E L : List Nat) (G : List (Nat × Nat)) : Prop := ∃ i j l a b a' b' D1 E1 L1 G1, fn = false ∧ kn < 1000 ∧ i < n ∧ j < n ∧ l < n ∧ T n = (nI 7, nI i, nI j, nI l, lN 7) ∧ rows_ T M j a b ∧ rows_ T M l a' b' ∧ R2 i D1 E1 L1 G1 ∧ D = ST :: D1 ++ [(nI 25, lN (a + 256 * b + 65536 * (a' + 256 * b')))] ∧ E = wdN 7 ++ 40 :: E1 ++ 44 :: clN a ++ 58 :: clN b ++ 44 :: clN a' ++ 58 :: clN b' ++ [41] ∧ L = L1 ++ rgL a b ++ rgL a' b' ∧ G = G1
def Rp_area (fn : Bool) (kn : Nat) (T : ntT) (M : Nat) (pN pF : Nat → List Nat) (R1 R2 : Nat → List (Int32 × Int64) → List Nat → List Nat → List (Nat × Nat) → Prop) (n : Nat) (D : List (Int32 × Int64)) (E L : List Nat) (G : List (Nat × Nat)) : Prop := ∃ i j a b a' b', fn = false ∧ kn < 1000 ∧ i < n ∧ j < n ∧ T n = (nI 7, nI i, nI j, -1, lN 8) ∧ rows_ T M i a b ∧ rows_ T M j a' b' ∧ D = [ST, (nI 26, lN (a + 256 * b + 65536 * (a' + 256 * b')))] ∧ E = wdN 8 ++ 40 :: clN a ++ 58 :: clN b ++ 44 :: clN a' ++ 58 :: clN b' ++ [41] ∧ L = rgL a b ++ rgL a' b' ∧ G = []
def Rp_cut (fn : Bool) (kn : Nat) (T : ntT) (M : Nat) (pN pF : Nat → List Nat) (R1 R2 : Nat → List (Int32 × Int64) → List Nat → List Nat → List (Nat × Nat) → Prop) (n : Nat) (D : List (Int32 × Int64)) (E L : List Nat) (G : List (Nat × Nat)) : Prop := ∃ w i D1 E1 L1 G1, 10 ≤ w ∧ w ≤ 11 ∧ i < n ∧ T n = (nI 7, nI i, -1, -1, lN w) ∧ R2 i D1 E1 L1 G1 ∧ D = ST :: D1 ++ [(nI (18 + w), lN 0)] ∧ E = wdN w ++ 40 :: E1 ++ [41] ∧ L = L1 ∧ G = G1
def Rp_fun1 (fn : Bool) (kn : Nat) (T : ntT) (M : Nat) (pN pF : Nat → List Nat) (R1 R2 : Nat → List (Int32 × Int64) → List Nat → List Nat → List (Nat × Nat) → Prop) (n : Nat) (D : List (Int32 × Int64)) (E L : List Nat) (G : List (Nat × Nat)) : Prop := ∃ g i D1 E1 L1 G1, g ≤ 8 ∧ pF (4 * g + 1) ≠ [] ∧ i < n ∧ T n = (nI 8, nI i, -1, -1, lN g) ∧ R2 i D1 E1 L1 G1 ∧ D = ST :: D1 ++ [(nI 30, lN (g * 4 + 1))] ∧ E = pF (4 * g + 1) ++ 40 :: E1 ++ [41] ∧ L = L1 ∧ G = G1 ++ [(g, 1)]
def Rp_fun2 (fn : Bool) (kn : Nat) (T : ntT) (M : Nat) (pN pF : Nat → List Nat) (R1 R2 : Nat → List (Int32 × Int64) → List Nat → List Nat → List (Nat × Nat) → Prop) (n : Nat) (D : List (Int32 × Int64)) (E L : List Nat) (G : List (Nat × Nat)) : Prop := ∃ g i j D1 E1 L1 G1 D2 E2 L2 G2, g ≤ 8 ∧ pF (4 * g + 2) ≠ [] ∧ i < n ∧ j < n ∧ T n = (nI 8, nI i, nI j, -1, lN g) ∧ R2 i D1 E1 L1 G1 ∧ R2 j D2 E2 L2 G2 ∧ D = ST :: D1 ++ D2 ++ [(nI 30, lN (g * 4 + 2))] ∧ E = pF (4 * g + 2) ++ 40 :: E1 ++ 44 :: E2 ++ [41] ∧ L = L1 ++ L2 ∧ G = G1 ++ G2 ++ [(g, 2)]
def Rp_fun3 (fn : Bool) (kn : Nat) (T : ntT) (M : Nat) (pN pF : Nat → List Nat) (R1 R2 : Nat → List (Int32 × Int64) → List Nat → List Nat → List (Nat × Nat) → Prop) (n : Nat) (D : List (Int32 × Int64)) (E L : List Nat) (G : List (Nat × Nat)) : Prop := ∃ g i j l D1 E1 L1 G1 D2 E2 L2 G2 D3 E3 L3 G3, g ≤ 8 ∧ pF (4 * g + 3) ≠ [] ∧ i < n ∧ j < n ∧ l < n ∧ T n = (nI 8, nI i, nI j, nI l, lN g) ∧ R2 i D1 E1 L1 G1 ∧ R2 j D2 E2 L2 G2 ∧ R2 l D3 E3 L3 G3 ∧ D = ST :: D1 ++ D2 ++ D3 ++ [(nI 30, lN (g * 4 + 3))] ∧ E = pF (4 * g + 3) ++ 40 :: E1 ++ 44 :: E2 ++ 44 :: E3 ++ [41] ∧ L = L1 ++ L2 ++ L3 ∧ G = G1 ++ G2 ++ G3 ++ [(g, 3)]
def Rp_root (fn : Bool) (kn : Nat) (T : ntT) (M : Nat) (pN pF : Nat → List Nat) (R1 R2 : Nat → List (Int32 × Int64) → List Nat → List Nat → List (Nat × Nat) → Prop) (n : Nat) (D : List (Int32 × Int64)) (E L : List Nat) (G : List (Nat × Nat)) : Prop := ∃ g i j D1 E1 L1 G1 D2 E2 L2 G2, g ≤ 8 ∧ pF (4 * g + 1) ≠ [] ∧ i < n ∧ j < n ∧ T n = (nI 9, nI i, nI j, -1, lN g) ∧ R2 i D1 E1 L1 G1 ∧ R2 j D2 E2 L2 G2 ∧ D = ST :: D1 ++ D2 ++ [(nI 27, lN g)] ∧ E = wdN 9 ++ 40 :: pF (4 * g + 1) ++ 44 :: E1 ++ 44 :: E2 ++ [41] ∧ L = L1 ++ L2 ∧ G = G1 ++ G2 ++ [(g, 1)]
def RpS (fn : Bool) (kn : Nat) (T : ntT) (M : Nat) (pN pF : Nat → List Nat) (R1 R2 : Nat → List (Int32 × Int64) → List Nat → List Nat → List (Nat × Nat) → Prop) (n : Nat) (D : List (Int32 × Int64)) (E L : List Nat) (G : List (Nat × Nat)) : Prop := n < M ∧ (Rp_long fn kn T M pN pF R1 R2 n D E L G ∨ Rp_deci fn kn T M pN pF R1 R2 n D E L G ∨ Rp_ref fn kn T M pN pF R1 R2 n D E L G ∨ Rp_name fn kn T M pN pF R1 R2 n D E L G ∨ Rp_minus fn kn T M pN pF R1 R2 n D E L G ∨ Rp_two fn kn T M pN pF R1 R2 n D E L G ∨ Rp_if fn kn T M pN pF R1 R2 n D E L G ∨ Rp_try fn kn T M pN pF R1 R2 n D E L G ∨ Rp_fold fn kn T M pN pF R1 R2 n D E L G ∨ Rp_at fn kn T M pN pF R1 R2 n D E L G ∨ Rp_line fn kn T M pN pF R1 R2 n D E L G ∨ Rp_area fn kn T M pN pF R1 R2 n D E L G ∨ Rp_cut fn kn T M pN pF R1 R2 n D E L G ∨ Rp_fun1 fn kn T M pN pF R1 R2 n D E L G ∨ Rp_fun2 fn kn T M pN pF R1 R2 n D E L G ∨ Rp_fun3 fn kn T M pN pF R1 R2 n D E L G ∨ Rp_root fn kn T M pN pF R1 R2 n D E L G)
def Rp (fn : Bool) (kn : Nat) (T : ntT) (M : Nat) (pN pF : Nat → List Nat) : Nat → Nat → List (Int32 × Int64) → List Nat → List Nat → List (Nat × Nat) → Prop
  | 0 => fun _ _ _ _ _ => False
  | f + 1 => RpS fn kn T M pN pF (Rp fn kn T M pN pF f) (Rp fn kn T M pN pF (f - 41))
termination_by f => f
decreasing_by all_goals omega
section RPM
variable {fn : Bool} {kn : Nat} {T T' : ntT} {M M' : Nat} {pN pF : Nat → List Nat} {R1 R2 R1' R2' : Nat → List (Int32 × Int64) → List Nat → List Nat → List (Nat × Nat) → Prop} {n : Nat} {D : List (Int32 × Int64)} {E L : List Nat} {G : List (Nat × Nat)}
theorem rows_mono (hM : M ≤ M') (hT : ∀ i, i < M → T' i = T i) {i a b : Nat} (h : rows_ T M i a b) : rows_ T' M' i a b := ⟨Nat.lt_of_lt_of_le h.1 hM, (hT i h.1).trans h.2.1, h.2.2⟩
theorem Rp_long_mono (hn : n < M) (hM : M ≤ M') (hT : ∀ i, i < M → T' i = T i) (h1 : ∀ n D E L G, R1 n D E L G → R1' n D E L G) (h2 : ∀ n D E L G, R2 n D E L G → R2' n D E L G) (h : Rp_long fn kn T M pN pF R1 R2 n D E L G) : Rp_long fn kn T' M' pN pF R1' R2' n D E L G := by
  obtain ⟨v, c0, ht, e1, e2, e3, e4⟩ := h
  exact ⟨v, c0, (hT n hn).trans ht, e1, e2, e3, e4⟩
theorem Rp_deci_mono (hn : n < M) (hM : M ≤ M') (hT : ∀ i, i < M → T' i = T i) (h1 : ∀ n D E L G, R1 n D E L G → R1' n D E L G) (h2 : ∀ n D E L G, R2 n D E L G → R2' n D E L G) (h : Rp_deci fn kn T M pN pF R1 R2 n D E L G) : Rp_deci fn kn T' M' pN pF R1' R2' n D E L G := by
  obtain ⟨v, b, c0, c1, c2, ht, e1, e2, e3, e4⟩ := h
  exact ⟨v, b, c0, c1, c2, (hT n hn).trans ht, e1, e2, e3, e4⟩
theorem Rp_ref_mono (hn : n < M) (hM : M ≤ M') (hT : ∀ i, i < M → T' i = T i) (h1 : ∀ n D E L G, R1 n D E L G → R1' n D E L G) (h2 : ∀ n D E L G, R2 n D E L G → R2' n D E L G) (h : Rp_ref fn kn T M pN pF R1 R2 n D E L G) : Rp_ref fn kn T' M' pN pF R1' R2' n D E L G := by
  obtain ⟨c, c0, c1, c2, ht, e1, e2, e3, e4⟩ := h
  exact ⟨c, c0, c1, c2, (hT n hn).trans ht, e1, e2, e3, e4⟩
theorem Rp_name_mono (hn : n < M) (hM : M ≤ M') (hT : ∀ i, i < M → T' i = T i) (h1 : ∀ n D E L G, R1 n D E L G → R1' n D E L G) (h2 : ∀ n D E L G, R2 n D E L G → R2' n D E L G) (h : Rp_name fn kn T M pN pF R1 R2 n D E L G) : Rp_name fn kn T' M' pN pF R1' R2' n D E L G := by
  obtain ⟨k, c0, ht, e1, e2, e3, e4⟩ := h
  exact ⟨k, c0, (hT n hn).trans ht, e1, e2, e3, e4⟩
theorem Rp_minus_mono (hn : n < M) (hM : M ≤ M') (hT : ∀ i, i < M → T' i = T i) (h1 : ∀ n D E L G, R1 n D E L G → R1' n D E L G) (h2 : ∀ n D E L G, R2 n D E L G → R2' n D E L G) (h : Rp_minus fn kn T M pN pF R1 R2 n D E L G) : Rp_minus fn kn T' M' pN pF R1' R2' n D E L G := by
  obtain ⟨i, D1, E1, L1, G1, c0, ht, k0, e1, e2, e3, e4⟩ := h
  exact ⟨i, D1, E1, L1, G1, c0, (hT n hn).trans ht, h1 _ _ _ _ _ k0, e1, e2, e3, e4⟩
theorem Rp_two_mono (hn : n < M) (hM : M ≤ M') (hT : ∀ i, i < M → T' i = T i) (h1 : ∀ n D E L G, R1 n D E L G → R1' n D E L G) (h2 : ∀ n D E L G, R2 n D E L G → R2' n D E L G) (h : Rp_two fn kn T M pN pF R1 R2 n D E L G) : Rp_two fn kn T' M' pN pF R1' R2' n D E L G := by
  obtain ⟨s, i, j, D1, E1, L1, G1, D2, E2, L2, G2, c0, c1, c2, ht, k0, k1, e1, e2, e3, e4⟩ := h
  exact ⟨s, i, j, D1, E1, L1, G1, D2, E2, L2, G2, c0, c1, c2, (hT n hn).trans ht, h1 _ _ _ _ _ k0, h1 _ _ _ _ _ k1, e1, e2, e3, e4⟩
theorem Rp_if_mono (hn : n < M) (hM : M ≤ M') (hT : ∀ i, i < M → T' i = T i) (h1 : ∀ n D E L G, R1 n D E L G → R1' n D E L G) (h2 : ∀ n D E L G, R2 n D E L G → R2' n D E L G) (h : Rp_if fn kn T M pN pF R1 R2 n D E L G) : Rp_if fn kn T' M' pN pF R1' R2' n D E L G := by
  obtain ⟨i, j, l, D1, E1, L1, G1, D2, E2, L2, G2, D3, E3, L3, G3, c0, c1, c2, ht, k0, k1, k2, e1, e2, e3, e4⟩ := h
  exact ⟨i, j, l, D1, E1, L1, G1, D2, E2, L2, G2, D3, E3, L3, G3, c0, c1, c2, (hT n hn).trans ht, h2 _ _ _ _ _ k0, h2 _ _ _ _ _ k1, h2 _ _ _ _ _ k2, e1, e2, e3, e4⟩
theorem Rp_try_mono (hn : n < M) (hM : M ≤ M') (hT : ∀ i, i < M → T' i = T i) (h1 : ∀ n D E L G, R1 n D E L G → R1' n D E L G) (h2 : ∀ n D E L G, R2 n D E L G → R2' n D E L G) (h : Rp_try fn kn T M pN pF R1 R2 n D E L G) : Rp_try fn kn T' M' pN pF R1' R2' n D E L G := by
  obtain ⟨i, j, D1, E1, L1, G1, D2, E2, L2, G2, c0, c1, ht, k0, k1, e1, e2, e3, e4⟩ := h
  exact ⟨i, j, D1, E1, L1, G1, D2, E2, L2, G2, c0, c1, (hT n hn).trans ht, h2 _ _ _ _ _ k0, h2 _ _ _ _ _ k1, e1, e2, e3, e4⟩
theorem Rp_fold_mono (hn : n < M) (hM : M ≤ M') (hT : ∀ i, i < M → T' i = T i) (h1 : ∀ n D E L G, R1 n D E L G → R1' n D E L G) (h2 : ∀ n D E L G, R2 n D E L G → R2' n D E L G) (h : Rp_fold fn kn T M pN pF R1 R2 n D E L G) : Rp_fold fn kn T' M' pN pF R1' R2' n D E L G := by
  obtain ⟨w, i, a, b, c0, c1, c2, c3, c4, ht, r0, e1, e2, e3, e4⟩ := h
  exact ⟨w, i, a, b, c0, c1, c2, c3, c4, (hT n hn).trans ht, rows_mono hM hT r0, e1, e2, e3, e4⟩
theorem Rp_at_mono (hn : n < M) (hM : M ≤ M') (hT : ∀ i, i < M → T' i = T i) (h1 : ∀ n D E L G, R1 n D E L G → R1' n D E L G) (h2 : ∀ n D E L G, R2 n D E L G → R2' n D E L G) (h : Rp_at fn kn T M pN pF R1 R2 n D E L G) : Rp_at fn kn T' M' pN pF R1' R2' n D E L G := by
  obtain ⟨i, j, a, b, D2, E2, L2, G2, c0, c1, c2, c3, ht, r0, k0, e1, e2, e3, e4⟩ := h
  exact ⟨i, j, a, b, D2, E2, L2, G2, c0, c1, c2, c3, (hT n hn).trans ht, rows_mono hM hT r0, h2 _ _ _ _ _ k0, e1, e2, e3, e4⟩
theorem Rp_line_mono (hn : n < M) (hM : M ≤ M') (hT : ∀ i, i < M → T' i = T i) (h1 : ∀ n D E L G, R1 n D E L G → R1' n D E L G) (h2 : ∀ n D E L G, R2 n D E L G → R2' n D E L G) (h : Rp_line fn kn T M pN pF R1 R2 n D E L G) : Rp_line fn kn T' M' pN pF R1' R2' n D E L G := by
  obtain ⟨i, j, l, a, b, a', b', D1, E1, L1, G1, c0, c1, c2, c3, c4, ht, r0, r1, k0, e1, e2, e3, e4⟩ := h
  exact ⟨i, j, l, a, b, a', b', D1, E1, L1, G1, c0, c1, c2, c3, c4, (hT n hn).trans ht, rows_mono hM hT r0, rows_mono hM hT r1, h2 _ _ _ _ _ k0, e1, e2, e3, e4⟩
theorem Rp_area_mono (hn : n < M) (hM : M ≤ M') (hT : ∀ i, i < M → T' i = T i) (h1 : ∀ n D E L G, R1 n D E L G → R1' n D E L G) (h2 : ∀ n D E L G, R2 n D E L G → R2' n D E L G) (h : Rp_area fn kn T M pN pF R1 R2 n D E L G) : Rp_area fn kn T' M' pN pF R1' R2' n D E L G := by
  obtain ⟨i, j, a, b, a', b', c0, c1, c2, c3, ht, r0, r1, e1, e2, e3, e4⟩ := h
  exact ⟨i, j, a, b, a', b', c0, c1, c2, c3, (hT n hn).trans ht, rows_mono hM hT r0, rows_mono hM hT r1, e1, e2, e3, e4⟩
theorem Rp_cut_mono (hn : n < M) (hM : M ≤ M') (hT : ∀ i, i < M → T' i = T i) (h1 : ∀ n D E L G, R1 n D E L G → R1' n D E L G) (h2 : ∀ n D E L G, R2 n D E L G → R2' n D E L G) (h : Rp_cut fn kn T M pN pF R1 R2 n D E L G) : Rp_cut fn kn T' M' pN pF R1' R2' n D E L G := by
  obtain ⟨w, i, D1, E1, L1, G1, c0, c1, c2, ht, k0, e1, e2, e3, e4⟩ := h
  exact ⟨w, i, D1, E1, L1, G1, c0, c1, c2, (hT n hn).trans ht, h2 _ _ _ _ _ k0, e1, e2, e3, e4⟩
theorem Rp_fun1_mono (hn : n < M) (hM : M ≤ M') (hT : ∀ i, i < M → T' i = T i) (h1 : ∀ n D E L G, R1 n D E L G → R1' n D E L G) (h2 : ∀ n D E L G, R2 n D E L G → R2' n D E L G) (h : Rp_fun1 fn kn T M pN pF R1 R2 n D E L G) : Rp_fun1 fn kn T' M' pN pF R1' R2' n D E L G := by
  obtain ⟨g, i, D1, E1, L1, G1, c0, c1, c2, ht, k0, e1, e2, e3, e4⟩ := h
  exact ⟨g, i, D1, E1, L1, G1, c0, c1, c2, (hT n hn).trans ht, h2 _ _ _ _ _ k0, e1, e2, e3, e4⟩
theorem Rp_fun2_mono (hn : n < M) (hM : M ≤ M') (hT : ∀ i, i < M → T' i = T i) (h1 : ∀ n D E L G, R1 n D E L G → R1' n D E L G) (h2 : ∀ n D E L G, R2 n D E L G → R2' n D E L G) (h : Rp_fun2 fn kn T M pN pF R1 R2 n D E L G) : Rp_fun2 fn kn T' M' pN pF R1' R2' n D E L G := by
  obtain ⟨g, i, j, D1, E1, L1, G1, D2, E2, L2, G2, c0, c1, c2, c3, ht, k0, k1, e1, e2, e3, e4⟩ := h
  exact ⟨g, i, j, D1, E1, L1, G1, D2, E2, L2, G2, c0, c1, c2, c3, (hT n hn).trans ht, h2 _ _ _ _ _ k0, h2 _ _ _ _ _ k1, e1, e2, e3, e4⟩
theorem Rp_fun3_mono (hn : n < M) (hM : M ≤ M') (hT : ∀ i, i < M → T' i = T i) (h1 : ∀ n D E L G, R1 n D E L G → R1' n D E L G) (h2 : ∀ n D E L G, R2 n D E L G → R2' n D E L G) (h : Rp_fun3 fn kn T M pN pF R1 R2 n D E L G) : Rp_fun3 fn kn T' M' pN pF R1' R2' n D E L G := by
  obtain ⟨g, i, j, l, D1, E1, L1, G1, D2, E2, L2, G2, D3, E3, L3, G3, c0, c1, c2, c3, c4, ht, k0, k1, k2, e1, e2, e3, e4⟩ := h
  exact ⟨g, i, j, l, D1, E1, L1, G1, D2, E2, L2, G2, D3, E3, L3, G3, c0, c1, c2, c3, c4, (hT n hn).trans ht, h2 _ _ _ _ _ k0, h2 _ _ _ _ _ k1, h2 _ _ _ _ _ k2, e1, e2, e3, e4⟩
theorem Rp_root_mono (hn : n < M) (hM : M ≤ M') (hT : ∀ i, i < M → T' i = T i) (h1 : ∀ n D E L G, R1 n D E L G → R1' n D E L G) (h2 : ∀ n D E L G, R2 n D E L G → R2' n D E L G) (h : Rp_root fn kn T M pN pF R1 R2 n D E L G) : Rp_root fn kn T' M' pN pF R1' R2' n D E L G := by
  obtain ⟨g, i, j, D1, E1, L1, G1, D2, E2, L2, G2, c0, c1, c2, c3, ht, k0, k1, e1, e2, e3, e4⟩ := h
  exact ⟨g, i, j, D1, E1, L1, G1, D2, E2, L2, G2, c0, c1, c2, c3, (hT n hn).trans ht, h2 _ _ _ _ _ k0, h2 _ _ _ _ _ k1, e1, e2, e3, e4⟩
theorem RpS_mono (hM : M ≤ M') (hT : ∀ i, i < M → T' i = T i) (h1 : ∀ n D E L G, R1 n D E L G → R1' n D E L G) (h2 : ∀ n D E L G, R2 n D E L G → R2' n D E L G) (h : RpS fn kn T M pN pF R1 R2 n D E L G) : RpS fn kn T' M' pN pF R1' R2' n D E L G := by
  obtain ⟨hn, h⟩ := h
  refine ⟨Nat.lt_of_lt_of_le hn hM, ?_⟩
  rcases h with h | h | h | h | h | h | h | h | h | h | h | h | h | h | h | h | h
  · exact Or.inl (Rp_long_mono hn hM hT h1 h2 h)
  · exact Or.inr (Or.inl (Rp_deci_mono hn hM hT h1 h2 h))
  · exact Or.inr (Or.inr (Or.inl (Rp_ref_mono hn hM hT h1 h2 h)))
  · exact Or.inr (Or.inr (Or.inr (Or.inl (Rp_name_mono hn hM hT h1 h2 h))))
  · exact Or.inr (Or.inr (Or.inr (Or.inr (Or.inl (Rp_minus_mono hn hM hT h1 h2 h)))))
  · exact Or.inr (Or.inr (Or.inr (Or.inr (Or.inr (Or.inl (Rp_two_mono hn hM hT h1 h2 h))))))
  · exact Or.inr (Or.inr (Or.inr (Or.inr (Or.inr (Or.inr (Or.inl (Rp_if_mono hn hM hT h1 h2 h)))))))
  · exact Or.inr (Or.inr (Or.inr (Or.inr (Or.inr (Or.inr (Or.inr (Or.inl (Rp_try_mono hn hM hT h1 h2 h))))))))
  · exact Or.inr (Or.inr (Or.inr (Or.inr (Or.inr (Or.inr (Or.inr (Or.inr (Or.inl (Rp_fold_mono hn hM hT h1 h2 h)))))))))
  · exact Or.inr (Or.inr (Or.inr (Or.inr (Or.inr (Or.inr (Or.inr (Or.inr (Or.inr (Or.inl (Rp_at_mono hn hM hT h1 h2 h))))))))))
  · exact Or.inr (Or.inr (Or.inr (Or.inr (Or.inr (Or.inr (Or.inr (Or.inr (Or.inr (Or.inr (Or.inl (Rp_line_mono hn hM hT h1 h2 h)))))))))))
  · exact Or.inr (Or.inr (Or.inr (Or.inr (Or.inr (Or.inr (Or.inr (Or.inr (Or.inr (Or.inr (Or.inr (Or.inl (Rp_area_mono hn hM hT h1 h2 h))))))))))))
  · exact Or.inr (Or.inr (Or.inr (Or.inr (Or.inr (Or.inr (Or.inr (Or.inr (Or.inr (Or.inr (Or.inr (Or.inr (Or.inl (Rp_cut_mono hn hM hT h1 h2 h)))))))))))))
  · exact Or.inr (Or.inr (Or.inr (Or.inr (Or.inr (Or.inr (Or.inr (Or.inr (Or.inr (Or.inr (Or.inr (Or.inr (Or.inr (Or.inl (Rp_fun1_mono hn hM hT h1 h2 h))))))))))))))
  · exact Or.inr (Or.inr (Or.inr (Or.inr (Or.inr (Or.inr (Or.inr (Or.inr (Or.inr (Or.inr (Or.inr (Or.inr (Or.inr (Or.inr (Or.inl (Rp_fun2_mono hn hM hT h1 h2 h)))))))))))))))
  · exact Or.inr (Or.inr (Or.inr (Or.inr (Or.inr (Or.inr (Or.inr (Or.inr (Or.inr (Or.inr (Or.inr (Or.inr (Or.inr (Or.inr (Or.inr (Or.inl (Rp_fun3_mono hn hM hT h1 h2 h))))))))))))))))
  · exact Or.inr (Or.inr (Or.inr (Or.inr (Or.inr (Or.inr (Or.inr (Or.inr (Or.inr (Or.inr (Or.inr (Or.inr (Or.inr (Or.inr (Or.inr (Or.inr (Rp_root_mono hn hM hT h1 h2 h))))))))))))))))
theorem Rp_one {f : Nat} : Rp fn kn T M pN pF (f + 1) n D E L G ↔ RpS fn kn T M pN pF (Rp fn kn T M pN pF f) (Rp fn kn T M pN pF (f - 41)) n D E L G := by rw [Rp]
theorem Rp_nil : ¬ Rp fn kn T M pN pF 0 n D E L G := by rw [Rp]; exact fun h => h
theorem Rp_mono {f f' : Nat} (hM : M ≤ M') (hT : ∀ i, i < M → T' i = T i) (hf : f ≤ f') (h : Rp fn kn T M pN pF f n D E L G) : Rp fn kn T' M' pN pF f' n D E L G := by
  have A : ∀ c f f', f < c → f ≤ f' → ∀ n D E L G, Rp fn kn T M pN pF f n D E L G → Rp fn kn T' M' pN pF f' n D E L G := by
    intro c
    induction c with
    | zero => intro f f' hc; omega
    | succ c ih =>
      intro f f' hc hf n D E L G h
      match f, f', h with
      | 0, _, h => exact absurd h Rp_nil
      | f + 1, 0, h => omega
      | f + 1, f' + 1, h =>
        rw [Rp_one] at h ⊢
        exact RpS_mono hM hT (ih f f' (by omega) (by omega)) (ih (f - 41) (f' - 41) (by omega) (by omega)) h
  exact A (f + 1) f f' (Nat.lt_succ_self _) hf n D E L G h
theorem Rp_S {f : Nat} (h : Rp fn kn T M pN pF f n D E L G) : ∃ f', f = f' + 1 ∧ RpS fn kn T M pN pF (Rp fn kn T M pN pF f') (Rp fn kn T M pN pF (f' - 41)) n D E L G := by
  match f, h with
  | 0, h => exact absurd h Rp_nil
  | f + 1, h => exact ⟨f, rfl, Rp_one.mp h⟩
theorem Rp_mk {f : Nat} (h : RpS fn kn T M pN pF (Rp fn kn T M pN pF f) (Rp fn kn T M pN pF (f - 41)) n D E L G) : Rp fn kn T M pN pF (f + 1) n D E L G := Rp_one.mpr h
theorem Rp_lt {f : Nat} (h : Rp fn kn T M pN pF f n D E L G) : n < M := by
  obtain ⟨f', -, h⟩ := Rp_S h
  exact h.1
end RPM

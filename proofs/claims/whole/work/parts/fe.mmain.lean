/-! THE MODEL: work does what ev says -/
/-- every function that can be called stands in its slot -/
def FN (h : am_H) (rt : Nat → Nat) (pF : Nat → List Nat) : Prop := ∀ g v, 1 ≤ v → v ≤ 3 → pF (4 * g + v) ≠ [] → g < 8 ∧ ∃ pN m k r0 D E L G, k ≤ 40 ∧ m ≤ k ∧ r0 < m ∧ Rp true v (tb h (48 * (48 + g))) m pN pF (k + 410) r0 D E L G ∧ am_I h 356 (48 + g) = nI r0 ∧ rt (48 + g) = r0
theorem Rp_fnL {kn : Nat} {T : ntT} {M : Nat} {pN pF : Nat → List Nat} : ∀ z n D E L G, Rp true kn T M pN pF z n D E L G → L = [] := by
  intro z
  induction z using Nat.strongRecOn with
  | _ z ih =>
    intro n D E L G hR
    obtain ⟨f', rfl, -, hR⟩ := Rp_S hR
    have h1 := ih f' (by omega)
    have h2 := ih (f' - 41) (by omega)
    rcases hR with hR | hR | hR | hR | hR | hR | hR | hR | hR | hR | hR | hR | hR | hR | hR | hR | hR
    · obtain ⟨v, c0, ht, -, -, rfl, -⟩ := hR; rfl
    · obtain ⟨v, b, c0, c1, c2, ht, -, -, rfl, -⟩ := hR; rfl
    · obtain ⟨c, c0, -⟩ := hR; cases c0
    · obtain ⟨k, c0, ht, -, -, rfl, -⟩ := hR; rfl
    · obtain ⟨i, D1, E1, L1, G1, c0, ht, k0, -, -, rfl, -⟩ := hR; exact h1 _ _ _ _ _ k0
    · obtain ⟨o, i, j, D1, E1, L1, G1, D2, E2, L2, G2, c0, c1, c2, ht, k0, k1, -, -, rfl, -⟩ := hR
      rw [h1 _ _ _ _ _ k0, h1 _ _ _ _ _ k1]; rfl
    · obtain ⟨i, j, l, D1, E1, L1, G1, D2, E2, L2, G2, D3, E3, L3, G3, c0, c1, c2, ht, k0, k1, k2, -, -, rfl, -⟩ := hR
      rw [h2 _ _ _ _ _ k0, h2 _ _ _ _ _ k1, h2 _ _ _ _ _ k2]; rfl
    · obtain ⟨i, j, D1, E1, L1, G1, D2, E2, L2, G2, c0, c1, ht, k0, k1, -, -, rfl, -⟩ := hR
      rw [h2 _ _ _ _ _ k0, h2 _ _ _ _ _ k1]; rfl
    · obtain ⟨w, i, a, b, c0, c1, c2, -⟩ := hR; cases c2
    · obtain ⟨i, j, a, b, D2, E2, L2, G2, c0, -⟩ := hR; cases c0
    · obtain ⟨i, j, l, a, b, a', b', D1, E1, L1, G1, c0, -⟩ := hR; cases c0
    · obtain ⟨i, j, a, b, a', b', c0, -⟩ := hR; cases c0
    · obtain ⟨w, i, D1, E1, L1, G1, c0, c1, c2, ht, k0, -, -, rfl, -⟩ := hR; exact h2 _ _ _ _ _ k0
    · obtain ⟨f, i, D1, E1, L1, G1, c0, c1, c2, ht, k0, -, -, rfl, -⟩ := hR; exact h2 _ _ _ _ _ k0
    · obtain ⟨f, i, j, D1, E1, L1, G1, D2, E2, L2, G2, c0, c1, c2, c3, ht, k0, k1, -, -, rfl, -⟩ := hR
      rw [h2 _ _ _ _ _ k0, h2 _ _ _ _ _ k1]; rfl
    · obtain ⟨f, i, j, l, D1, E1, L1, G1, D2, E2, L2, G2, D3, E3, L3, G3, c0, c1, c2, c3, c4, ht, k0, k1, k2, -, -, rfl, -⟩ := hR
      rw [h2 _ _ _ _ _ k0, h2 _ _ _ _ _ k1, h2 _ _ _ _ _ k2]; rfl
    · obtain ⟨f, i, j, D1, E1, L1, G1, D2, E2, L2, G2, c0, c1, c2, c3, ht, k0, k1, -, -, rfl, -⟩ := hR
      rw [h2 _ _ _ _ _ k0, h2 _ _ _ _ _ k1]; rfl
section MMA
variable {h : am_H} {r : Nat} {rt : Nat → Nat} {cv : Nat → Option (Option VL)} {cs : Nat → Nat → VL} {P : Nat → Prop} {pF : Nat → List Nat}
theorem rg_in {a b : Nat} {Q : Nat → Prop} (h : ∀ c, c ∈ rgL a b → Q c) : ∀ j, j < rgN a b → Q (rgC a b j) := fun j hj => h _ (by
  unfold rgL
  exact List.mem_map.mpr ⟨j, List.mem_range.mpr hj, rfl⟩)
theorem Wk_tm {tt : Nat → ntT} {f s b sh dp tm tm' d n : Nat} {as : List VL} (W : Wk h r tt rt cv cs f s as b sh dp tm' d n) (hh : tm ≤ tm') : Wk h r tt rt cv cs f s as b sh dp tm d n := fun t g σ h1 => W t g σ (Nat.le_trans h1 hh)
theorem m_work (S : am_S h) (C : cvH h cv P) (cr : ∀ c, P c → r < 256) (F : FN h rt pF) :
    ∀ f z, ∀ fn kn s M pN n D E L G (as : List VL) b sh dp d, Rp fn kn (tb h (48 * s)) M pN pF z n D E L G → M ≤ 40 → s < 77 → z ≤ 450 → dp ≤ 20 → (fn = true ↔ 48 ≤ s ∧ s < 56) → (fn = true → kn % 1000 ≤ as.length) → (fn = false → ∀ k, k < kn % 1000 → 5 * sh + k < 20 ∧ csv h (5 * sh + k) (cs sh k)) → (∀ c, c ∈ L → P c) →
      n + 2 * (z / 42) + 64 * (20 - dp) + 8 ≤ d → Wk h r (fun s => tb h (48 * s)) rt cv cs f s as b sh dp (21 * dp + 2 * (10 - z / 42)) d n := by
  intro f
  induction f with
  | zero =>
    intro z fn kn s M pN n D E L G as b sh dp d _ _ _ _ _ _ _ _ _ _ t g σ _ _ h0
    exact absurd h0 (Nat.not_lt_zero _)
  | succ f ihf =>
    intro z
    intro fn kn s M pN n D E L G as b sh dp d hR hM hs hz hdp hfn hA hC hL hd
    obtain ⟨f', rfl, hn, hR⟩ := Rp_S hR
    have hn8 : n < 48 := by omega
    have q1 : f' / 42 ≤ (f' + 1) / 42 := by omega
    have i1 := fun i D E L G d (q : Rp fn kn (tb h (48 * s)) M pN pF f' i D E L G) (hi : i < n) (hl : ∀ c, c ∈ L → P c) (hd' : n + 2 * ((f' + 1) / 42) + 64 * (20 - dp) + 7 ≤ d) => Wk_tm (tm := 21 * dp + 2 * (10 - (f' + 1) / 42)) (ihf f' fn kn s M pN i D E L G as b sh dp d q hM hs (by omega) hdp hfn hA hC hl (by omega)) (by omega)
    have i2 := fun i D E L G d (q : Rp fn kn (tb h (48 * s)) M pN pF (f' - 41) i D E L G) (hi : i < n) (hl : ∀ c, c ∈ L → P c) (hd' : n + 2 * ((f' + 1) / 42) + 64 * (20 - dp) + 5 ≤ d) => ihf (f' - 41) fn kn s M pN i D E L G as b sh dp d q hM hs (by omega) hdp hfn hA hC hl (by
      have : 41 < f' ∨ f' ≤ 41 := by omega
      rcases this with c | c
      · have : (f' - 41) / 42 + 1 = (f' + 1) / 42 := by omega
        omega
      · rw [show f' - 41 = 0 by omega] at q; exact absurd q Rp_nil)
    have q2 : ∀ i D E L G, Rp fn kn (tb h (48 * s)) M pN pF (f' - 41) i D E L G → (f' - 41) / 42 + 1 = (f' + 1) / 42 := fun i D E L G q => by
      have : 41 < f' ∨ f' ≤ 41 := by omega
      rcases this with c | c
      · omega
      · rw [show f' - 41 = 0 by omega] at q; exact absurd q Rp_nil
    have fnW : ∀ g v, 1 ≤ v → v ≤ 3 → pF (4 * g + v) ≠ [] → g < 8 ∧ ∃ r0, am_I h 356 (48 + g) = nI r0 ∧ rt (48 + g) = r0 ∧ ∀ d (as' : List VL) t, 64 * (20 - dp) + 4 ≤ d → as'.length = v → dp < 20 → Wk h r (fun s => tb h (48 * s)) rt cv cs f (48 + g) as' t 0 (dp + 1) (21 * (dp + 1)) d r0 := fun g v v1 v3 hp => by
      obtain ⟨g8, pN', m, k, r0, D, E, L, G, k1, k2, k3, k4, k5, k6⟩ := F g v v1 v3 hp
      refine ⟨g8, r0, k5, k6, fun d as' t hd' hl hdp' => ?_⟩
      have e1 := Rp_fnL _ _ _ _ _ _ k4
      have W := ihf (k + 410) true v (48 + g) m pN' r0 D E L G as' t 0 (dp + 1) d k4 (by omega) (by omega) (by omega) (by omega) ⟨fun _ => by omega, fun _ => rfl⟩ (fun _ => by rw [hl]; omega) (fun q => by cases q) (fun c hc => by rw [e1] at hc; cases hc) (by omega)
      exact Wk_tm W (by omega)
    have l20 : 2 * (10 - (f' + 1) / 42) ≤ 20 := by omega
    obtain ⟨d, rfl⟩ : ∃ d', d = d' + 8 := ⟨d - 8, by omega⟩
    rcases hR with hR | hR | hR | hR | hR | hR | hR | hR | hR | hR | hR | hR | hR | hR | hR | hR | hR
    · obtain ⟨v, c0, ht, -⟩ := hR
      exact Wk_of (d := d + 6) S (nd_long S hs hn8 ht)
    · obtain ⟨v, c, c0, c1, c2, ht, -⟩ := hR
      exact Wk_of (d := d + 6) S (nd_deci S hs hn8 (by omega) ht)
    · obtain ⟨c, c0, c1, c2, ht, -, -, rfl, -⟩ := hR
      have pc := hL c (List.mem_singleton.mpr rfl)
      exact Wk_of (d := d + 6) S (nd_ref S hs hn8 C (cr c pc) pc ht)
    · obtain ⟨k, c0, ht, -⟩ := hR
      refine Wk_of (d := d + 6) S (nd_name S hs hn8 ht (by omega) (fun q => ?_) (fun q => ?_) (by omega))
      · have := hA (hfn.mpr q); omega
      · cases hf : fn with
        | true => exact absurd (hfn.mp hf) q
        | false => exact hC hf k c0
    · obtain ⟨i, D1, E1, L1, G1, c0, ht, k0, -, -, rfl, -⟩ := hR
      exact Wk_of (d := d + 6) S (nd_minus (d := d + 5) S hs hn8 (by omega) ht (i1 _ _ _ _ _ _ k0 c0 hL (by omega)))
    · obtain ⟨o, i, j, D1, E1, L1, G1, D2, E2, L2, G2, c0, c1, c2, ht, k0, k1, -, -, rfl, -⟩ := hR
      exact Wk_of (d := d + 6) S (nd_two (d := d + 4) S hs hn8 (by omega) (by omega) c0 ht (i1 _ _ _ _ _ _ k0 c1 (fun c hc => hL c (List.mem_append.mpr (Or.inl hc))) (by omega)) (i1 _ _ _ _ _ _ k1 c2 (fun c hc => hL c (List.mem_append.mpr (Or.inr hc))) (by omega)))
    · obtain ⟨i, j, l, D1, E1, L1, G1, D2, E2, L2, G2, D3, E3, L3, G3, c0, c1, c2, ht, k0, k1, k2, -, -, rfl, -⟩ := hR
      have e := q2 _ _ _ _ _ k0
      exact Wk_of (d := d + 6) S (nd_if (d := d + 6) S hs hn8 (by omega) (by omega) (by omega) ht (Wk_tm (i2 _ _ _ _ _ _ k0 c0 (fun c hc => hL c (List.mem_append.mpr (Or.inl (List.mem_append.mpr (Or.inl hc))))) (by omega)) (by omega)) (Wk_tm (i2 _ _ _ _ _ _ k1 c1 (fun c hc => hL c (List.mem_append.mpr (Or.inl (List.mem_append.mpr (Or.inr hc))))) (by omega)) (by omega)) (Wk_tm (i2 _ _ _ _ _ _ k2 c2 (fun c hc => hL c (List.mem_append.mpr (Or.inr hc))) (by omega)) (by omega)))
    · obtain ⟨i, j, D1, E1, L1, G1, D2, E2, L2, G2, c0, c1, ht, k0, k1, -, -, rfl, -⟩ := hR
      have e := q2 _ _ _ _ _ k0
      exact Wk_of (d := d + 6) S (nd_try (d := d + 6) S hs hn8 (by omega) (by omega) ht (Wk_tm (i2 _ _ _ _ _ _ k0 c0 (fun c hc => hL c (List.mem_append.mpr (Or.inl hc))) (by omega)) (by omega)) (Wk_tm (i2 _ _ _ _ _ _ k1 c1 (fun c hc => hL c (List.mem_append.mpr (Or.inr hc))) (by omega)) (by omega)))
    · obtain ⟨w, i, a, b', c0, c1, c2, c3, c4, ht, r0, -, -, rfl, -⟩ := hR
      have pc := rg_in hL
      exact Wk_of (d := d + 6) S (nd_fold (d := d + 3) S hs hn8 (by omega) ⟨c0, c1⟩ ht r0 C (cr _ (pc 0 (rgN_pos _ _))) pc)
    · obtain ⟨i, j, a, b', D2, E2, L2, G2, c0, c1, c2, c3, ht, r0, k0, -, -, rfl, -⟩ := hR
      have e := q2 _ _ _ _ _ k0
      have pc := rg_in (fun c hc => hL c (List.mem_append.mpr (Or.inl hc)))
      exact Wk_of (d := d + 6) S (nd_at_ (d := d + 3) S hs hn8 (show M ≤ 48 by omega) (by omega) ht r0 C (cr _ (pc 0 (rgN_pos _ _))) pc (Wk_tm (i2 _ _ _ _ _ _ k0 c3 (fun c hc => hL c (List.mem_append.mpr (Or.inr hc))) (by omega)) (by omega)))
    · obtain ⟨i, j, l, a, b', a', b2, D1, E1, L1, G1, c0, c1, c2, c3, c4, ht, r0, r1, k0, -, -, rfl, -⟩ := hR
      have e := q2 _ _ _ _ _ k0
      have pc := rg_in (fun c hc => hL c (List.mem_append.mpr (Or.inl (List.mem_append.mpr (Or.inr hc)))))
      have pc2 := rg_in (fun c hc => hL c (List.mem_append.mpr (Or.inr hc)))
      exact Wk_of (d := d + 6) S (nd_line (d := d + 2) S hs hn8 (show M ≤ 48 by omega) (by omega) ht r0 r1 C (cr _ (pc 0 (rgN_pos _ _))) pc pc2 (Wk_tm (i2 _ _ _ _ _ _ k0 c2 (fun c hc => hL c (List.mem_append.mpr (Or.inl (List.mem_append.mpr (Or.inl hc))))) (by omega)) (by omega)))
    · obtain ⟨i, j, a, b', a', b2, c0, c1, c2, c3, ht, r0, r1, -, -, rfl, -⟩ := hR
      have pc := rg_in (fun c hc => hL c (List.mem_append.mpr (Or.inl hc)))
      have pc2 := rg_in (fun c hc => hL c (List.mem_append.mpr (Or.inr hc)))
      exact Wk_of (d := d + 6) S (nd_area (d := d + 2) S hs hn8 (show M ≤ 48 by omega) ht r0 r1 C (cr _ (pc 0 (rgN_pos _ _))) pc pc2)
    · obtain ⟨w, i, D1, E1, L1, G1, c0, c1, c2, ht, k0, -, -, rfl, -⟩ := hR
      have e := q2 _ _ _ _ _ k0
      exact Wk_of (d := d + 6) S (nd_cut (d := d + 4) S hs hn8 (by omega) (by omega) ht (Wk_tm (i2 _ _ _ _ _ _ k0 c2 hL (by omega)) (by omega)))
    · obtain ⟨g, i, D1, E1, L1, G1, c0, c1, c2, ht, k0, -, -, rfl, -⟩ := hR
      have e := q2 _ _ _ _ _ k0
      obtain ⟨g8, r0, er, ert, WF⟩ := fnW g 1 (by decide) (by decide) c1
      exact Wk_of (d := d + 6) S (nd_fun1 (d := d + 4) (tmc := 21 * dp + 2 * (10 - (f' - 41) / 42)) (tmf := 21 * (dp + 1)) S hs hn8 (by omega) g8 hdp ht (by omega) (by omega) (by omega) er ert (i2 _ _ _ _ _ _ k0 c2 hL (by omega)) (fun as' t hl hc => WF (d + 5) as' t (by omega) hl hc))
    · obtain ⟨g, i, j, D1, E1, L1, G1, D2, E2, L2, G2, c0, c1, c2, c3, ht, k0, k1, -, -, rfl, -⟩ := hR
      have e := q2 _ _ _ _ _ k0
      obtain ⟨g8, r0, er, ert, WF⟩ := fnW g 2 (by decide) (by decide) c1
      exact Wk_of (d := d + 6) S (nd_fun2 (d := d + 4) (tmc := 21 * dp + 2 * (10 - (f' - 41) / 42)) (tmf := 21 * (dp + 1)) S hs hn8 (by omega) (by omega) g8 hdp ht (by omega) (by omega) (by omega) er ert (i2 _ _ _ _ _ _ k0 c2 (fun c hc => hL c (List.mem_append.mpr (Or.inl hc))) (by omega)) (i2 _ _ _ _ _ _ k1 c3 (fun c hc => hL c (List.mem_append.mpr (Or.inr hc))) (by omega)) (fun as' t hl hc => WF (d + 5) as' t (by omega) hl hc))
    · obtain ⟨g, i, j, l, D1, E1, L1, G1, D2, E2, L2, G2, D3, E3, L3, G3, c0, c1, c2, c3, c4, ht, k0, k1, k2, -, -, rfl, -⟩ := hR
      have e := q2 _ _ _ _ _ k0
      obtain ⟨g8, r0, er, ert, WF⟩ := fnW g 3 (by decide) (by decide) c1
      exact Wk_of (d := d + 6) S (nd_fun3 (d := d + 4) (tmc := 21 * dp + 2 * (10 - (f' - 41) / 42)) (tmf := 21 * (dp + 1)) S hs hn8 (by omega) (by omega) (by omega) g8 hdp ht (by omega) (by omega) (by omega) er ert (i2 _ _ _ _ _ _ k0 c2 (fun c hc => hL c (List.mem_append.mpr (Or.inl (List.mem_append.mpr (Or.inl hc))))) (by omega)) (i2 _ _ _ _ _ _ k1 c3 (fun c hc => hL c (List.mem_append.mpr (Or.inl (List.mem_append.mpr (Or.inr hc))))) (by omega)) (i2 _ _ _ _ _ _ k2 c4 (fun c hc => hL c (List.mem_append.mpr (Or.inr hc))) (by omega)) (fun as' t hl hc => WF (d + 5) as' t (by omega) hl hc))
    · obtain ⟨g, i, j, D1, E1, L1, G1, D2, E2, L2, G2, c0, c1, c2, c3, ht, k0, k1, -, -, rfl, -⟩ := hR
      have e := q2 _ _ _ _ _ k0
      obtain ⟨g8, r0, er, ert, WF⟩ := fnW g 1 (by decide) (by decide) c1
      exact Wk_of (d := d + 6) S (nd_root (d := d + 3) (tmc := 21 * dp + 2 * (10 - (f' - 41) / 42)) (tmf := 21 * (dp + 1)) S hs hn8 (by omega) (by omega) g8 hdp ht (by omega) (by omega) (by omega) er ert (i2 _ _ _ _ _ _ k0 c2 (fun c hc => hL c (List.mem_append.mpr (Or.inl hc))) (by omega)) (i2 _ _ _ _ _ _ k1 c3 (fun c hc => hL c (List.mem_append.mpr (Or.inr hc))) (by omega)) (fun as' t hl hc => WF (d + 4) as' t (by omega) hl hc))
end MMA

/-! THE CLASS: the machine does what ev says -/
/-- every function that can be called, as the class has it -/
def FC (h : am_H) (tt : Nat → ntT) (rt : Nat → Nat) (rr : Option Nat) (pF : Nat → List Nat) : Prop := ∀ g v, 1 ≤ v → v ≤ 3 → pF (4 * g + v) ≠ [] → g < 8 ∧ ∃ pN m k r0 D E L G e', k ≤ 40 ∧ m ≤ k ∧ r0 < m ∧ Rp true v (tt (48 + g)) m pN pF (k + 410) r0 D E L G ∧ rt (48 + g) = r0 ∧ am_R h 11 g = some e' ∧ cdK h e' D ∧ ∀ a, rr = some a → a < e' ∨ e' + 7 ≤ a
section XMN
variable {h : am_H} {o sa d : Nat} {rr : Option Nat} {v1 v2 v3 : Option Value} {tt : Nat → ntT} {rt : Nat → Nat} {cv : Nat → Option (Option VL)} {cs : Nat → Nat → VL} {P : Nat → Prop} {pF : Nat → List Nat}
theorem CWk_tm {f dp e b tm tm' : Nat} {F : SR → FO} {as : List VL} {D : List (Int32 × Int64)} (W : CWk h o rr sa d v1 v2 v3 f F dp e b as D tm') (hh : tm ≤ tm') : CWk h o rr sa d v1 v2 v3 f F dp e b as D tm := fun DD p g σ ts st n T c1 c2 c3 c4 c5 c6 c7 c8 c9 c10 => W DD p g σ ts st n T c1 c2 c3 c4 c5 c6 c7 c8 c9 (by omega)
theorem c_work (h4 : 402 ≤ h.1) (ho : o < 278 ∨ 299 < o) (ho2 : o < 402) (hr4 : ∀ a, rr = some a → 402 ≤ a) (C0 : cvX h cv P) (F : FC h tt rt rr pF) :
    ∀ f z, ∀ fn kn s M pN n D E L G (as : List VL) sh dp e b nc, Rp fn kn (tt s) M pN pF z n D E L G → M ≤ 40 → z ≤ 450 → dp ≤ 20 → (fn = true ↔ 48 ≤ s ∧ s < 56) → (fn = true → kn % 1000 ≤ as.length ∧ kn % 1000 ≤ 3) → (fn = false → sh < 4 ∧ sa = 321 + 7 * sh ∧ nc ≤ 5 ∧ am_I h (321 + 7 * sh) 1 = nI nc ∧ ∀ k, k < kn % 1000 → k < nc ∧ csX h sh k (cs sh k)) → (∀ c, c ∈ L → P c) → (∀ a, rr = some a → a < e ∨ e + 7 ≤ a) →
      CWk h o rr sa (d + 6) v1 v2 v3 f (ev tt rt cv cs f s as sh dp n) dp e b as D (10 * dp + 10 - z / 42) := by
  intro f
  induction f with
  | zero =>
    intro z fn kn s M pN n D E L G as sh dp e b nc _ _ _ _ _ _ _ _ _ DD p g σ ts st n' T _ _ h0
    exact absurd h0 (Nat.not_lt_zero _)
  | succ f ihf =>
    intro z
    intro fn kn s M pN n D E L G as sh dp e b nc hR hM hz hdp hfn hA hC hL hre
    obtain ⟨f', rfl, hn, hR⟩ := Rp_S hR
    have hn8 : n < 48 := by omega
    have hd : dp < 22 := by omega
    have q1 : f' / 42 ≤ (f' + 1) / 42 := by omega
    have i1 := fun i D E L G (q : Rp fn kn (tt s) M pN pF f' i D E L G) (hl : ∀ c, c ∈ L → P c) => CWk_tm (tm := 10 * dp + 10 - (f' + 1) / 42) (ihf f' fn kn s M pN i D E L G as sh dp e b nc q hM (by omega) hdp hfn hA hC hl hre) (by omega)
    have q2 : ∀ i D E L G, Rp fn kn (tt s) M pN pF (f' - 41) i D E L G → (f' - 41) / 42 + 1 = (f' + 1) / 42 := fun i D E L G q => by
      have : 41 < f' ∨ f' ≤ 41 := by omega
      rcases this with c | c
      · omega
      · rw [show f' - 41 = 0 by omega] at q; exact absurd q Rp_nil
    have i2 := fun i D E L G (q : Rp fn kn (tt s) M pN pF (f' - 41) i D E L G) (hl : ∀ c, c ∈ L → P c) => ihf (f' - 41) fn kn s M pN i D E L G as sh dp e b nc q hM (by omega) hdp hfn hA hC hl hre
    have i3 := fun i D E L G (q : Rp fn kn (tt s) M pN pF (f' - 41) i D E L G) (hl : ∀ c, c ∈ L → P c) => CWk_tm (tm := 10 * dp + 10 - (f' + 1) / 42) (i2 i D E L G q hl) (by have := q2 _ _ _ _ _ q; omega)
    have fnW : ∀ g v, 1 ≤ v → v ≤ 3 → pF (4 * g + v) ≠ [] → g < 8 ∧ ∃ e' D', am_R h 11 g = some e' ∧ cdK h e' D' ∧ (∀ a, rr = some a → a < e' ∨ e' + 7 ≤ a) ∧ ∀ (as' : List VL) bb, as'.length = v → dp < 20 → CWk h o rr sa (d + 6) v1 v2 v3 f (ev tt rt cv cs f (48 + g) as' 0 (dp + 1) (rt (48 + g))) (dp + 1) e' bb as' D' (10 * (dp + 1)) := fun g v v1 v3 hp => by
      obtain ⟨g8, pN', m, k, r0, D, E, L, G, e', k1, k2, k3, k4, k5, k6, k7, k8⟩ := F g v v1 v3 hp
      refine ⟨g8, e', D, k6, k7, k8, fun as' bb hl hdp' => ?_⟩
      have e1 := Rp_fnL _ _ _ _ _ _ k4
      have W := ihf (k + 410) true v (48 + g) m pN' r0 D E L G as' 0 (dp + 1) e' bb 0 k4 (by omega) (by omega) (by omega) ⟨fun _ => by omega, fun _ => rfl⟩ (fun _ => by rw [hl]; omega) (fun q => by cases q) (fun c hc => by rw [e1] at hc; cases hc) k8
      rw [k5]
      exact CWk_tm W (by omega)
    have lt1 := fun i σ v σ' (q : ev tt rt cv cs f s as sh dp i σ = (.inl v, σ')) => ev_lt q
    rcases hR with hR | hR | hR | hR | hR | hR | hR | hR | hR | hR | hR | hR | hR | hR | hR | hR | hR
    · obtain ⟨v, c0, ht, rfl, -⟩ := hR
      exact c_whole (d := d + 3) h4 ho ho2 hd hre ht
    · obtain ⟨v, c, c0, c1, c2, ht, rfl, -⟩ := hR
      exact c_deci (d := d + 2) h4 ho ho2 hd hre c0 (by omega) ht
    · obtain ⟨c, c0, c1, c2, ht, rfl, -, rfl, -⟩ := hR
      exact c_ref (d := d + 1) h4 ho ho2 hd hre C0 (hL c (List.mem_singleton.mpr rfl)) ht
    · obtain ⟨k, c0, ht, rfl, -⟩ := hR
      cases hf : fn with
      | true =>
        rw [if_pos rfl]
        have := hA hf
        exact c_arg (d := d + 2) h4 ho ho2 hd hre (hfn.mp hf) (by omega) (by omega) ht
      | false =>
        rw [if_neg Bool.false_ne_true]
        obtain ⟨a1, rfl, a3, a4, a5⟩ := hC hf
        obtain ⟨a6, a7⟩ := a5 k c0
        exact c_const (d := d + 2) h4 ho ho2 hd hre hr4 (fun q => by have := hfn.mpr q; rw [hf] at this; cases this) a1 a6 a3 a4 a7 ht
    · obtain ⟨i, D1, E1, L1, G1, c0, ht, k0, rfl, -, rfl, -⟩ := hR
      exact c_minus (d := d + 2) h4 ho ho2 hd hre (by omega) ht (i1 _ _ _ _ _ k0 hL)
    · obtain ⟨w, i, j, D1, E1, L1, G1, D2, E2, L2, G2, c0, c1, c2, ht, k0, k1, rfl, -, rfl, -⟩ := hR
      exact c_two (d := d + 1) h4 ho ho2 hd hre (by omega) (by omega) c0 ht (i1 _ _ _ _ _ k0 (fun c hc => hL c (List.mem_append.mpr (Or.inl hc)))) (i1 _ _ _ _ _ k1 (fun c hc => hL c (List.mem_append.mpr (Or.inr hc)))) (fun σ => ev_le f s as sh dp i σ) (lt1 i)
    · obtain ⟨i, j, l, D1, E1, L1, G1, D2, E2, L2, G2, D3, E3, L3, G3, c0, c1, c2, ht, k0, k1, k2, rfl, -, rfl, -⟩ := hR
      exact c_if (d := d + 2) h4 ho ho2 hd hre (by omega) (by omega) (by omega) ht (i3 _ _ _ _ _ k0 (fun c hc => hL c (List.mem_append.mpr (Or.inl (List.mem_append.mpr (Or.inl hc)))))) (i3 _ _ _ _ _ k1 (fun c hc => hL c (List.mem_append.mpr (Or.inl (List.mem_append.mpr (Or.inr hc)))))) (i3 _ _ _ _ _ k2 (fun c hc => hL c (List.mem_append.mpr (Or.inr hc)))) (lt1 i)
    · obtain ⟨i, j, D1, E1, L1, G1, D2, E2, L2, G2, c0, c1, ht, k0, k1, rfl, -, rfl, -⟩ := hR
      have e2 := q2 _ _ _ _ _ k0
      exact c_try (d := d + 2) h4 ho ho2 hd (by omega) hre (by omega) (by omega) ht (CWk_tm (i2 _ _ _ _ _ k0 (fun c hc => hL c (List.mem_append.mpr (Or.inl hc)))) (by omega)) (i3 _ _ _ _ _ k1 (fun c hc => hL c (List.mem_append.mpr (Or.inr hc)))) (fun σ => ev_le f s as sh dp i σ)
    · obtain ⟨w, i, a, b', c0, c1, c2, c3, c4, ht, r0, rfl, -, rfl, -⟩ := hR
      exact c_fold (d := d + 1) h4 ho ho2 hd hre C0 ⟨c0, c1⟩ (show M ≤ 48 by omega) ht r0 (rg_in hL)
    · obtain ⟨i, j, a, b', D2, E2, L2, G2, c0, c1, c2, c3, ht, r0, k0, rfl, -, rfl, -⟩ := hR
      exact c_at (d := d + 1) h4 ho ho2 hd hre C0 (by omega) (show M ≤ 48 by omega) ht r0 (rg_in (fun c hc => hL c (List.mem_append.mpr (Or.inl hc)))) (i3 _ _ _ _ _ k0 (fun c hc => hL c (List.mem_append.mpr (Or.inr hc))))
    · obtain ⟨i, j, l, a, b', a', b2, D1, E1, L1, G1, c0, c1, c2, c3, c4, ht, r0, r1, k0, rfl, -, rfl, -⟩ := hR
      exact c_line (d := d) h4 ho ho2 hd hre C0 (show M ≤ 48 by omega) (by omega) ht r0 r1 (rg_in (fun c hc => hL c (List.mem_append.mpr (Or.inl (List.mem_append.mpr (Or.inr hc)))))) (rg_in (fun c hc => hL c (List.mem_append.mpr (Or.inr hc)))) (i3 _ _ _ _ _ k0 (fun c hc => hL c (List.mem_append.mpr (Or.inl (List.mem_append.mpr (Or.inl hc))))))
    · obtain ⟨i, j, a, b', a', b2, c0, c1, c2, c3, ht, r0, r1, rfl, -, rfl, -⟩ := hR
      exact c_area (d := d) h4 ho ho2 hd hre C0 (show M ≤ 48 by omega) ht r0 r1 (rg_in (fun c hc => hL c (List.mem_append.mpr (Or.inl hc)))) (rg_in (fun c hc => hL c (List.mem_append.mpr (Or.inr hc))))
    · obtain ⟨w, i, D1, E1, L1, G1, c0, c1, c2, ht, k0, rfl, -, rfl, -⟩ := hR
      exact c_cut (d := d + 2) h4 ho ho2 hd hre (by omega) (by omega) ht (i3 _ _ _ _ _ k0 hL)
    · obtain ⟨g, i, D1, E1, L1, G1, c0, c1, c2, ht, k0, rfl, -, rfl, -⟩ := hR
      obtain ⟨g8, e', D', er, C', hre', WF⟩ := fnW g 1 (by decide) (by decide) c1
      exact c_fun1 (d := d + 3) (tmf := 10 * (dp + 1)) h4 ho ho2 hdp g8 hre hre' (by omega) C' er (by omega) ht (i3 _ _ _ _ _ k0 hL) (lt1 i) (fun as' bb hl hc => WF as' bb hl hc)
    · obtain ⟨g, i, j, D1, E1, L1, G1, D2, E2, L2, G2, c0, c1, c2, c3, ht, k0, k1, rfl, -, rfl, -⟩ := hR
      obtain ⟨g8, e', D', er, C', hre', WF⟩ := fnW g 2 (by decide) (by decide) c1
      exact c_fun2 (d := d + 3) (tmf := 10 * (dp + 1)) h4 ho ho2 hdp g8 hre hre' (by omega) (by omega) C' er (by omega) ht (i3 _ _ _ _ _ k0 (fun c hc => hL c (List.mem_append.mpr (Or.inl hc)))) (i3 _ _ _ _ _ k1 (fun c hc => hL c (List.mem_append.mpr (Or.inr hc)))) (lt1 i) (lt1 j) (fun as' bb hl hc => WF as' bb hl hc)
    · obtain ⟨g, i, j, l, D1, E1, L1, G1, D2, E2, L2, G2, D3, E3, L3, G3, c0, c1, c2, c3, c4, ht, k0, k1, k2, rfl, -, rfl, -⟩ := hR
      obtain ⟨g8, e', D', er, C', hre', WF⟩ := fnW g 3 (by decide) (by decide) c1
      exact c_fun3 (d := d + 3) (tmf := 10 * (dp + 1)) h4 ho ho2 hdp g8 hre hre' (by omega) (by omega) (by omega) C' er (by omega) ht (i3 _ _ _ _ _ k0 (fun c hc => hL c (List.mem_append.mpr (Or.inl (List.mem_append.mpr (Or.inl hc)))))) (i3 _ _ _ _ _ k1 (fun c hc => hL c (List.mem_append.mpr (Or.inl (List.mem_append.mpr (Or.inr hc)))))) (i3 _ _ _ _ _ k2 (fun c hc => hL c (List.mem_append.mpr (Or.inr hc)))) (lt1 i) (lt1 j) (lt1 l) (fun as' bb hl hc => WF as' bb hl hc)
    · obtain ⟨g, i, j, D1, E1, L1, G1, D2, E2, L2, G2, c0, c1, c2, c3, ht, k0, k1, rfl, -, rfl, -⟩ := hR
      obtain ⟨g8, e', D', er, C', hre', WF⟩ := fnW g 1 (by decide) (by decide) c1
      exact c_root (d := d + 1) (tmf := 10 * (dp + 1)) h4 ho ho2 hdp g8 hre hre' (by omega) (by omega) C' er (by omega) ht (i3 _ _ _ _ _ k0 (fun c hc => hL c (List.mem_append.mpr (Or.inl hc)))) (i3 _ _ _ _ _ k1 (fun c hc => hL c (List.mem_append.mpr (Or.inr hc)))) (lt1 i) (lt1 j) (fun as' bb hl hc => WF as' bb hl hc)
end XMN

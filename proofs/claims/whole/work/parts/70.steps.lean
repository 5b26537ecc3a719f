/-! BOTH PARSERS, step by step: a state that is good, with what is known of it, or behind a fault -/
abbrev phT : Type := am_H → Nat → List (Int32 × Int64) → List Int32 → List Nat → Int32 → Nat → Nat → Option (Nat × Nat) → Prop
def SX (t : Nat → Nat) (n o : Nat) (ltx ltm : Option (Nat × Nat)) (hx0 hm0 : am_H) (m0 : Nat) (Φ : phT) (hx hm : am_H) : Prop :=
  XF hx0 hx ∧ MF hm0 hm m0 ∧ ((∃ y, BX hx t n y ∧ BM hm t n y m0) ∨ ∃ q C P N F k m W lnx lpx lnm lpm, PX hx t n (.inl q) C P N F (nI k) (nI o) lnx lpx ∧ LT lnx lpx (mgO ltx W) ∧ MX hm t n (.inl q) (nI k) (nI o) m lnm lpm ∧ LT lnm lpm (mgO ltm W) ∧ k ≤ 40 ∧ m ≤ k ∧ m0 ≤ m ∧ Φ hm q C P N F k m W)
section STP
variable {so s vis on na nc nf : Nat} {oX oM : Int64} {agX agM cnX cnM fnX fnM : Nat → Int64} {fnA : Nat → Nat} {t : Nat → Nat} {n : Nat} {D f : Nat} {d : Nat}
variable {hx0 hm0 hx hm : am_H} {o m0 : Nat} {ltx ltm : Option (Nat × Nat)} {Φ : phT}
theorem SX_S (Z : SX t n o ltx ltm hx0 hm0 m0 Φ hx hm) : am_S hx ∧ am_S hm := by
  obtain ⟨-, -, ⟨y, B, BB⟩ | ⟨q, C, P, N, F, k, m, W, lnx, lpx, lnm, lpm, X, -, Y, -⟩⟩ := Z
  · exact ⟨bx_S B, (bm_S BB).1⟩
  · exact ⟨X.1, Y.1⟩
theorem SX_imp {Ψ : phT} (Z : SX t n o ltx ltm hx0 hm0 m0 Φ hx hm) (h : ∀ q C P N F k m W, q ≤ n → Φ hm q C P N F k m W → Ψ hm q C P N F k m W) : SX t n o ltx ltm hx0 hm0 m0 Ψ hx hm := by
  obtain ⟨F1, F2, Z | ⟨q, C, P, N, F, k, m, W, lnx, lpx, lnm, lpm, X, a1, Y, a2, a3, a4, a5, a6⟩⟩ := Z
  · exact ⟨F1, F2, Or.inl Z⟩
  · exact ⟨F1, F2, Or.inr ⟨q, C, P, N, F, k, m, W, lnx, lpx, lnm, lpm, X, a1, Y, a2, a3, a4, a5, h _ _ _ _ _ _ _ _ X.2.2.1.2.2.1 a6⟩⟩
/-- an E -/
def phL (so on na vis : Nat) (oM : Int64) (agM cnM fnM : Nat → Int64) (o : Nat) (hm : am_H) (Φ : phT) (mr : Int32) : phT := fun hm' q' C' P' N' F' k' m' W' =>
  ∃ q C P N F k m W W2 r, Φ hm q C P N F k m W ∧ mr = nI r ∧ W' = mgO W W2 ∧ (q < q' ∧ k < k' ∧ k' ≤ 40 ∧ m ≤ m' ∧ m' ≤ m + (k' - k) ∧ r < m' ∧ C'.length ≤ C.length + 3 * (k' - k) ∧ P'.length ≤ P.length + (q' - q) + 2 * (k' - k) ∧ C.length ≤ C'.length ∧ P.length ≤ P'.length) ∧ (∀ i, i < m → tb hm' 3648 i = tb hm 3648 i) ∧ (∀ z, W2 = some z → q ≤ z.2 ∧ z.2 < q') ∧
    (W2 = none → ∃ D E L G, (Rp (decide (so = 2)) (knO so na vis) (tb hm' 3648) m' (pNm so agM cnM) (pFm so on oM fnM) (k' - k + 41 * (10 - o)) r D E L G ∧ NC (tb hm' 3648) m m' G) ∧ C' = C ++ D ∧ P' = P ++ E.map nI ∧ N' = L.foldl nadd N ∧ F' = G.foldl gF F)
theorem st_level (hD : 10 ≤ D) (Lv : JR t n so s vis on na nc nf oX oM agX agM cnX cnM fnX fnM fnA (lxL 0) lm3 77 211 D f) (hf : 11 ≤ f + o) (ho : o ≤ 10) (hn : n ≤ 240) (Gv : am_Gv hx0) (KX : cfX hx0 so s vis on na nc nf oX agX cnX fnX fnA) (KM : cfM hm0 so s vis on na nc nf oM agM cnM fnM fnA) (KR : cfR so na nc nf oX oM agX agM cnX cnM fnX fnM fnA) (Z : SX t n o ltx ltm hx0 hm0 m0 Φ hx hm) (hs : ∀ q C P N F k m W, Φ hm q C P N F k m W → C.length ≤ 3 * k ∧ P.length ≤ q + 2 * k) : ∃ hx' hm' mr, am_run D 77 [some (.ref 301), some (.int (nI 0)), none, none, none, none, none] hx none hx' ∧ am_run D 211 [some (.ref 349), none, none, none] hm (some (.int mr)) hm' ∧ SX t n o ltx ltm hx0 hm0 m0 (phL so on na vis oM agM cnM fnM o hm Φ mr) hx' hm' := by
  obtain ⟨e, rfl⟩ : ∃ e, D = e + 10 := ⟨D - 10, by omega⟩
  obtain ⟨F1, F2, ⟨y, B, BB⟩ | ⟨q, C, P, N, F, k, m, W, lnx, lpx, lnm, lpm, X, LX, Y, LM, hk, hmk, hm0, hΦ⟩⟩ := Z
  · obtain ⟨h1, r1, B1, G1⟩ := bx_level (d := e + 5) B
    exact ⟨h1, hm, nI 0, r1, fun Q => bm_e (d := e + 7) BB, XF_trans F1 G1, F2, Or.inl ⟨y, B1, BB⟩⟩
  · obtain ⟨s1, s2⟩ := hs _ _ _ _ _ _ _ _ hΦ
    have Gv1 : am_Gv hx := Gv_fr F1.1 (by unfold rX; omega) (by unfold rX; omega) (by unfold rX; omega) Gv
    obtain ⟨hx', hm', mr, rx, rm, Fx, Fm, J⟩ := Lv hx hm q C P N F k o m (mgO ltx W) (mgO ltm W) hf ⟨⟨lnx, lpx, X, LX⟩, ⟨lnm, lpm, Y, LM⟩, Gv1, cfX_XF F1 KX, cfM_MF F2 KM, KR, s1, s2, hmk, hk, ho, X.2.2.1.2.2.1, hn⟩
    unfold lxL at rx
    unfold lm3 at rm
    refine ⟨hx', hm', mr, rx, rm, XF_trans F1 Fx, MF_trans F2 Fm hm0, ?_⟩
    rcases J with ⟨y, B, BB⟩ | ⟨q', C', P', N', F', k', m', W2, r, lnx', lpx', lnm', lpm', g, e1, X', LX', Y', LM', hW, hR⟩
    · refine Or.inl ⟨y, B, ?_⟩
      obtain ⟨z1, z2, z3, z4, z5, z6, z7⟩ := BB
      exact ⟨z1, z2, z3, z4, z5, by omega, z7⟩
    · rw [mgO_assoc] at LX' LM'
      exact Or.inr ⟨q', C', P', N', F', k', m', mgO W W2, lnx', lpx', lnm', lpm', X', LX', Y', LM', g.2.2.1, by omega, by omega, q, C, P, N, F, k, m, W, W2, r, hΦ, e1, rfl, g, fun i hi => tb_same Fm hi, hW, hR⟩
/-- pass, on both sides -/
def phP (t : Nat → Nat) (n : Nat) (hm : am_H) (Φ : phT) (c : Nat) : phT := fun hm' q' C' P' N' F' k' m' W' => ∃ q P, Φ hm q C' P N' F' k' m' W' ∧ lx_K t n q = c ∧ q < q' ∧ P' = xpad P (nI c) ∧ ∀ i, i < m' → tb hm' 3648 i = tb hm 3648 i
theorem st_pass (Z : SX t n o ltx ltm hx0 hm0 m0 Φ hx hm) {c : Nat} (hc : c ∈ [37, 40, 41, 42, 43, 44, 45, 47, 58, 60, 61]) : ∃ hx' hm', am_run (d + 4) 93 [some (.ref 301), some (.int (nI c))] hx none hx' ∧ am_run (d + 4) 208 [some (.ref 349), some (.int (nI c))] hm none hm' ∧ SX t n o ltx ltm hx0 hm0 m0 (phP t n hm Φ c) hx' hm' := by
  have hc2 : c < 128 := by simp only [List.mem_cons, List.not_mem_nil, or_false] at hc; omega
  obtain ⟨F1, F2, ⟨y, B, BB⟩ | ⟨q, C, P, N, F, k, m, W, lnx, lpx, lnm, lpm, X, LX, Y, LM, hk, hmk, hm0, hΦ⟩⟩ := Z
  · obtain ⟨h1, r1, B1, G1⟩ := bx_pass (d := d + 1) B hc2
    obtain ⟨h2, r2, B2, G2⟩ := bm_pass (d := d) BB hc
    exact ⟨h1, h2, r1, r2, XF_trans F1 G1, MF_trans F2 G2 (Nat.le_refl _), Or.inl ⟨y, B1, B2⟩⟩
  · obtain ⟨h1, r1, X1, G1⟩ := x_pass (d := d + 1) X hc2
    obtain ⟨h2, r2, Y2, G2⟩ := m_pass (d := d) Y hc
    refine ⟨h1, h2, r1, r2, XF_trans F1 G1, MF_trans F2 G2 hm0, ?_⟩
    match hB : mpass t n (.inl q) c with
    | .inr y =>
      rw [hB] at X1 Y2
      exact Or.inl ⟨y, BX_of X1, BM_of Y2 hm0⟩
    | .inl q' =>
      rw [hB] at X1 Y2
      have kc : lx_K t n q = c := by
        rcases Nat.decEq (lx_K t n q) c with e | e
        · unfold mpass at hB; rw [if_neg (show ¬ mdK t n (.inl q) = c from e)] at hB; cases hB
        · exact e
      have hA : mdA t n (.inl q) = .inl q' := by unfold mpass at hB; rw [if_pos (show mdK t n (.inl q) = c from kc)] at hB; exact hB
      obtain ⟨i1, i2, i3⟩ := mdA_gt (lx_K_lt (show lx_K t n q ≠ 262 by omega)) hA
      rw [if_pos (show mdK t n (.inl q) = c from kc)] at X1
      exact Or.inr ⟨q', C, _, N, F, k, m, W, lnx, lpx, lnm, lpm, X1, LX, Y2, LM, hk, hmk, hm0, q, P, hΦ, kc, i2, rfl, fun i hi => tb_same G2 hi⟩
/-- add, on the class's side -/
def phA (hm : am_H) (Φ : phT) (x : Int32 × Int64) (v : Int32) : phT := fun hm' q' C' P' N' F' k' m' W' => hm' = hm ∧ ∃ C, Φ hm q' C P' N' F' k' m' W' ∧ C' = xadd C x ∧ v = nI (C'.length - 1)
theorem st_add (Z : SX t n o ltx ltm hx0 hm0 m0 Φ hx hm) {w : Nat} (hw : w < 128) {x : Int64} : ∃ hx' p, p < 1000 ∧ am_run d 11 [some (.ref 303), some (.int (nI w)), some (.long x), none] hx (some (.int (nI p))) hx' ∧ SX t n o ltx ltm hx0 hm0 m0 (phA hm Φ (nI w, x) (nI p)) hx' hm := by
  obtain ⟨F1, F2, ⟨y, B, BB⟩ | ⟨q, C, P, N, F, k, m, W, lnx, lpx, lnm, lpm, X, LX, Y, LM, hk, hmk, hm0, hΦ⟩⟩ := Z
  · obtain ⟨h1, p, hp, r1, B1, G1⟩ := bx_add (d := d) B (w := nI w) (v := x)
    exact ⟨h1, p, hp, r1, XF_trans F1 G1, F2, Or.inl ⟨y, B1, BB⟩⟩
  · obtain ⟨h1, r1, X1, G1⟩ := x_add (d := d) X (w := nI w) (v := x)
    rw [by8_nI w hw] at X1 r1
    refine ⟨h1, _, ?_, r1, XF_trans F1 (XF_303 G1), F2, Or.inr ⟨q, _, P, N, F, k, m, W, lnx, lpx, lnm, lpm, X1, LX, Y, LM, hk, hmk, hm0, rfl, C, hΦ, rfl, rfl⟩⟩
    have := X1.2.2.2.1.2.1
    omega
/-- aim, on the class's side -/
def phI (hm : am_H) (Φ : phT) (p : Nat) : phT := fun hm' q' C' P' N' F' k' m' W' => hm' = hm ∧ ∃ C, Φ hm q' C P' N' F' k' m' W' ∧ C' = xaim C p
theorem st_aim (Z : SX t n o ltx ltm hx0 hm0 m0 Φ hx hm) {p : Nat} (hp : p < 1000) : ∃ hx', am_run d 14 [some (.ref 303), some (.int (nI p))] hx none hx' ∧ SX t n o ltx ltm hx0 hm0 m0 (phI hm Φ p) hx' hm := by
  obtain ⟨F1, F2, ⟨y, B, BB⟩ | ⟨q, C, P, N, F, k, m, W, lnx, lpx, lnm, lpm, X, LX, Y, LM, hk, hmk, hm0, hΦ⟩⟩ := Z
  · obtain ⟨h1, r1, B1, G1⟩ := bx_aim (d := d) B hp
    exact ⟨h1, r1, XF_trans F1 G1, F2, Or.inl ⟨y, B1, BB⟩⟩
  · obtain ⟨h1, r1, X1, G1⟩ := x_aim (d := d) X hp
    exact ⟨h1, r1, XF_trans F1 (XF_303 G1), F2, Or.inr ⟨q, _, P, N, F, k, m, W, lnx, lpx, lnm, lpm, X1, LX, Y, LM, hk, hmk, hm0, rfl, C, hΦ, rfl⟩⟩
/-- an R -/
def phR (so : Nat) (hm : am_H) (Φ : phT) (zx mr : Int32) : phT := fun hm' q' C' P' N' F' k' m' W' =>
  ∃ q P N k m W W2 a b, Φ hm q C' P N F' k m W ∧ k' = k + 1 ∧ m' = m + 1 ∧ W' = mgO W W2 ∧ q < q' ∧ k < 40 ∧ P'.length ≤ P.length + (q' - q) ∧ P.length ≤ P'.length ∧ a < 256 ∧ b < 256 ∧ zx = nI (a + 256 * b) ∧ mr = nI m ∧ tb hm' 3648 m = (nI 10, nI a, nI b, nI 0, lN 0) ∧ (∀ i, i < m → tb hm' 3648 i = tb hm 3648 i) ∧ (∀ z, W2 = some z → q ≤ z.2 ∧ z.2 < q') ∧ (W2 = none → so = 0 ∧ rgS a b = true ∧ P' = P ++ (clN a ++ 58 :: clN b).map nI ∧ N' = (rgL a b).foldl nadd N)
theorem st_rows (ho : o ≤ 10) (hn : n ≤ 240) (Gv : am_Gv hx0) (KX : cfX hx0 so s vis on na nc nf oX agX cnX fnX fnA) (KM : cfM hm0 so s vis on na nc nf oM agM cnM fnM fnA) (KR : cfR so na nc nf oX oM agX agM cnX cnM fnX fnM fnA) (Z : SX t n o ltx ltm hx0 hm0 m0 Φ hx hm) (hs : ∀ q C P N F k m W, Φ hm q C P N F k m W → C.length ≤ 3 * k ∧ P.length ≤ q + 2 * k) : ∃ hx' hm' zx mr, am_run (d + 8) 99 [some (.ref 301), none, none, none, none, none] hx (some (.int zx)) hx' ∧ am_run (d + 8) 222 [some (.ref 349), none, none, none] hm (some (.int mr)) hm' ∧ SX t n o ltx ltm hx0 hm0 m0 (phR so hm Φ zx mr) hx' hm' := by
  obtain ⟨F1, F2, ⟨y, B, BB⟩ | ⟨q, C, P, N, F, k, m, W, lnx, lpx, lnm, lpm, X, LX, Y, LM, hk, hmk, hm0, hΦ⟩⟩ := Z
  · have K1 := cfX_XF F1 KX
    obtain ⟨h1, v, r1, B1, G1⟩ := bx_range (d := d + 4) B K1.2.2.2.2.2.2.2.1 K1.1
    obtain ⟨h2, r2, B2, G2⟩ := bm_rows (d := d + 6) (v1 := none) (v2 := none) (v3 := none) BB
    exact ⟨h1, h2, v, nI 0, r1, r2, XF_trans F1 G1, MF_trans F2 G2 (Nat.le_refl _), Or.inl ⟨y, B1, B2⟩⟩
  · obtain ⟨s1, s2⟩ := hs _ _ _ _ _ _ _ _ hΦ
    have Gv1 : am_Gv hx := Gv_fr F1.1 (by unfold rX; omega) (by unfold rX; omega) (by unfold rX; omega) Gv
    obtain ⟨hx', hm', zx, mr, rx, rm, Fx, Fm, J⟩ := J_rows (d := d) (hx := hx) (hm := hm) (q := q) (C := C) (P := P) (N := N) (F := F) (k := k) (o := o) (m := m) (ltx := mgO ltx W) (ltm := mgO ltm W) ⟨⟨lnx, lpx, X, LX⟩, ⟨lnm, lpm, Y, LM⟩, Gv1, cfX_XF F1 KX, cfM_MF F2 KM, KR, s1, s2, hmk, hk, ho, X.2.2.1.2.2.1, hn⟩
    refine ⟨hx', hm', zx, mr, rx, rm, XF_trans F1 Fx, MF_trans F2 Fm hm0, ?_⟩
    rcases J with ⟨y, B, BB⟩ | ⟨q', P', N', W2, a, b, lnx', lpx', lnm', lpm', g1, g2, g3, g4, g5, g6, g7, g8, X', LX', Y', LM', g9, g10, g11⟩
    · refine Or.inl ⟨y, B, ?_⟩
      obtain ⟨z1, z2, z3, z4, z5, z6, z7⟩ := BB
      exact ⟨z1, z2, z3, z4, z5, by omega, z7⟩
    · rw [mgO_assoc] at LX' LM'
      exact Or.inr ⟨q', C, P', N', F, k + 1, m + 1, mgO W W2, lnx', lpx', lnm', lpm', X', LX', Y', LM', by omega, by omega, by omega, q, P, N, k, m, W, W2, a, b, hΦ, rfl, rfl, rfl, g1, g2, g3, g4, g5, g6, g7, g8, g9, fun i hi => tb_same Fm hi, g10, g11⟩
end STP

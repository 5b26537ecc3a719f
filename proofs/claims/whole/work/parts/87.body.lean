/-! BOTH PARSERS: E and the end of the text -/
section BOD
variable {so s vis on na nc nf : Nat} {oX oM : Int64} {agX agM cnX cnM fnX fnM : Nat → Int64} {fnA : Nat → Nat} {t : Nat → Nat} {n : Nat} {hx hm : am_H} {W0 : Option (Nat × Nat)}
/-- what both have read -/
def RD2 (so na vis on : Nat) (oM : Int64) (agM cnM fnM : Nat → Int64) (hx hm : am_H) : Prop := ∃ D E L G k m r, k ≤ 40 ∧ m ≤ k ∧ r < m ∧ (Rp (decide (so = 2)) (knO so na vis) (tb hm 3648) m (pNm so agM cnM) (pFm so on oM fnM) (k + 410) r D E L G ∧ NC (tb hm 3648) 0 m G) ∧ PXd hx D (E.map nI) (L.foldl nadd []) (G.foldl gF (nI 0)) (nI k) ∧ am_I hm 349 25 = nI k ∧ am_I hm 349 27 = nI m ∧ am_I hm 356 76 = nI r
theorem J_body (HO : FE so on na nf oM fnM fnA) (hn : n ≤ 240) (Gv : am_Gv hx) (KX : cfX hx so s vis on na nc nf oX agX cnX fnX fnA) (KR : cfR so na nc nf oX oM agX agM cnX cnM fnX fnM fnA) (Z : (∃ y, BX hx t n y ∧ BM hm t n y 0) ∨ ∃ q lnx lpx lnm lpm, PX hx t n (.inl q) [] [] [] (nI 0) (nI 0) (nI 0) lnx lpx ∧ LT lnx lpx (mgO (some (0, 2000)) W0) ∧ MX hm t n (.inl q) (nI 0) (nI 0) 0 lnm lpm ∧ LT lnm lpm W0 ∧ (∀ z, W0 = some z → z.2 ≤ 240) ∧ cfM hm so s vis on na nc nf oM agM cnM fnM fnA) :
    ∃ ft hxa hxb hma hmb mr, am_run 102 77 [some (.ref 301), some (.int (nI 0)), none, none, none, none, none] hx none hxa ∧ am_run 102 107 [some (.ref 301)] hxa (some (.int (foI ft))) hxb ∧ am_run 102 211 [some (.ref 349), none, none, none] hm (some (.int mr)) hma ∧ (∀ Q, am_J 103 192 73 [some (.ref 349), some (.int mr)] [] hma Q ↔ Q (some (.int (foI ft))) hmb) ∧ am_S hxa ∧ am_S hma ∧ XF hx hxb ∧ am_I hxb 302 9 = fpI ft ∧ (∃ c, c < 256 ∧ am_I hxb 302 7 = nI c) ∧ (∀ z, ft = some z → z.1 ≠ 0 ∧ z.1 < 100) ∧ MF hm hma 0 ∧ (∃ m, ME hma hmb m) ∧ am_I hmb 349 22 = foI ft ∧ am_I hmb 349 4 = fpI ft ∧ (ft = none → W0 = none ∧ RD2 so na vis on oM agM cnM fnM hxb hmb) := by
  have bad : ∀ y hxa hma mr, am_run 102 77 [some (.ref 301), some (.int (nI 0)), none, none, none, none, none] hx none hxa → am_run 102 211 [some (.ref 349), none, none, none] hm (some (.int mr)) hma → XF hx hxa → MF hm hma 0 → BX hxa t n y → BM hma t n y 0 → ∃ ft hxa hxb hma hmb mr, am_run 102 77 [some (.ref 301), some (.int (nI 0)), none, none, none, none, none] hx none hxa ∧ am_run 102 107 [some (.ref 301)] hxa (some (.int (foI ft))) hxb ∧ am_run 102 211 [some (.ref 349), none, none, none] hm (some (.int mr)) hma ∧ (∀ Q, am_J 103 192 73 [some (.ref 349), some (.int mr)] [] hma Q ↔ Q (some (.int (foI ft))) hmb) ∧ am_S hxa ∧ am_S hma ∧ XF hx hxb ∧ am_I hxb 302 9 = fpI ft ∧ (∃ c, c < 256 ∧ am_I hxb 302 7 = nI c) ∧ (∀ z, ft = some z → z.1 ≠ 0 ∧ z.1 < 100) ∧ MF hm hma 0 ∧ (∃ m, ME hma hmb m) ∧ am_I hmb 349 22 = foI ft ∧ am_I hmb 349 4 = fpI ft ∧ (ft = none → W0 = none ∧ RD2 so na vis on oM agM cnM fnM hxb hmb) := by
    intro y hxa hma mr r1 r2 F1 F2 B BB
    obtain ⟨C, P, N, F, k, o, ln, lp, X⟩ := B
    obtain ⟨k', o', m', wn, wp, hm', Y⟩ := BB
    obtain ⟨hxb, r3, F3, e3, c3, z3, D3⟩ := x_end (d := 101) (W := none) X (fun q e => by cases e) (fun z e => by cases e)
    obtain ⟨hmb, r4, F4, e4, e5, -, -, -⟩ := m_end (d := 100) (W := none) (r := mr) Y (fun q e => by cases e) (fun z e => by cases e)
    exact ⟨some y, hxa, hxb, hma, hmb, mr, r1, r3, r2, r4, X.1, Y.1, XF_trans F1 F3, e3, c3, z3, F2, ⟨m', F4⟩, e4, e5, fun e => by cases e⟩
  rcases Z with ⟨y, B, BB⟩ | ⟨q, lnx, lpx, lnm, lpm, X, LX, Y, LM, hW0, KM⟩
  · obtain ⟨h1, r1, B1, F1⟩ := bx_level (d := 97) B
    exact bad y h1 hm (nI 0) r1 (fun Q => bm_e (d := 99) BB) F1 MF_refl B1 BB
  · have hq : q ≤ n := X.2.2.1.2.2.1
    obtain ⟨hxa, hma, mr, rx, rm, Fx, Fm, J⟩ := J_E HO hx hm q [] [] [] (nI 0) 0 0 0 (mgO (some (0, 2000)) W0) W0 (by omega) ⟨⟨lnx, lpx, X, LX⟩, ⟨lnm, lpm, Y, LM⟩, Gv, KX, KM, KR, by simp, by simp, by omega, by omega, by omega, hq, hn⟩
    unfold lxL at rx
    unfold lm3 at rm
    rcases J with ⟨y, B, BB⟩ | ⟨q', C', P', N', F', k', m', W, r, lnx', lpx', lnm', lpm', g, e1, X', LX', Y', LM', hW, hR⟩
    · exact bad y hxa hma mr rx rm Fx Fm B BB
    · subst e1
      have hq' : q' ≤ n := X'.2.2.1.2.2.1
      rw [mgO_assoc] at LX'
      have hV : ∀ z, mgO W0 W = some z → z.2 ≤ 240 := by
        intro z hz
        have := mgO_bd (a := 0) (b := 241) (c := q) (e := 241) (fun z hz => ⟨Nat.zero_le _, by have := hW0 z hz; omega⟩) (fun z hz => ⟨(hW z hz).1, by have := (hW z hz).2; omega⟩) (Nat.zero_le _) (Nat.le_refl _) z hz
        omega
      obtain ⟨hxb, r3, F3, e3, c3, z3, D3⟩ := x_end (d := 101) X' (fun _ _ => LX') hV
      obtain ⟨hmb, r4, F4, e4, e5, e6, e7, e8⟩ := m_end (d := 100) (r := nI r) Y' (fun _ _ => LM') hV
      refine ⟨fin t n (.inl q') (mgO W0 W), hxa, hxb, hma, hmb, nI r, rx, r3, rm, r4, X'.1, Y'.1, XF_trans Fx F3, e3, c3, z3, Fm, ⟨m', F4⟩, e4, e5, fun ef => ?_⟩
      have ef2 : mgO W0 W = none := by
        unfold fin at ef
        simp only at ef
        split at ef
        · exact ef
        · cases ef
      obtain ⟨w0, w1⟩ := mgO_eq_none ef2
      obtain ⟨D, E, L, G, R, u1, u2, u3, u4⟩ := hR w1
      refine ⟨w0, D, E, L, G, k', m', r, g.2.2.1, by omega, by omega, ?_, ?_, e6, e7, e8⟩
      · have et : ∀ i, i < m' → tb hmb 3648 i = tb hma 3648 i := fun i hi => by
          unfold tb
          rw [(F4.2.2.2 352 (3648 + i) (by decide) (by decide) (by omega)).1 (by omega), (F4.2.2.2 353 (3648 + i) (by decide) (by decide) (by omega)).1 (by omega), (F4.2.2.2 354 (3648 + i) (by decide) (by decide) (by omega)).1 (by omega), (F4.2.2.2 355 (3648 + i) (by decide) (by decide) (by omega)).1 (by omega), (F4.2.2.2 357 (3648 + i) (by decide) (by decide) (by omega)).2]
        exact ⟨Rp_mono (Nat.le_refl _) et (by omega) R.1, NC_T R.2 et⟩
      · rw [u1, u2, u3, u4, List.nil_append, List.nil_append] at D3
        exact D3
end BOD
/-- the functions' names, also by number and arguments (from 100 on) -/
def fnE (so on na nf : Nat) (oM : Int64) (fnM : Nat → Int64) (fnA : Nat → Nat) (i : Nat) : Int64 := if i < 100 then fnM i else if so = 2 ∧ i - 100 = 4 * on + na then oM else if (i - 100) / 4 < nf ∧ fnA ((i - 100) / 4) = (i - 100) % 4 then fnM ((i - 100) / 4) else lN 0
def RD3 (so na vis on nf : Nat) (oM : Int64) (agM cnM fnM : Nat → Int64) (fnA : Nat → Nat) (hx hm : am_H) : Prop := RD2 so na vis on oM agM cnM (fnE so on na nf oM fnM fnA) hx hm
section FNE
variable {so s vis on na nc nf : Nat} {oX oM : Int64} {agX agM cnX cnM fnX fnM : Nat → Int64} {fnA : Nat → Nat} {t : Nat → Nat} {n : Nat} {h hx hm : am_H} {W0 : Option (Nat × Nat)}
theorem fnE_lo {i : Nat} (hi : i < 100) : fnE so on na nf oM fnM fnA i = fnM i := if_pos hi
theorem fnE_FE (h8 : nf ≤ 8) (A : ∀ i, i < nf → fnA i ≤ 3) (hna : na ≤ 3) (HO : so = 2 → ∀ i, i < nf → i = on → fnM i = oM) : FE so on na nf oM (fnE so on na nf oM fnM fnA) fnA := by
  refine ⟨fun g gv hg ha hne => ?_, fun h2 => ?_⟩
  · have e0 : fnE so on na nf oM fnM fnA g = fnM g := fnE_lo (by omega)
    rw [e0] at hne ⊢
    have h3 := A g hg
    unfold fnE
    rw [if_neg (show ¬ 100 + (4 * g + gv) < 100 by omega)]
    have e1 : 100 + (4 * g + gv) - 100 = 4 * g + gv := by omega
    have e2 : (4 * g + gv) / 4 = g := by omega
    have e3 : (4 * g + gv) % 4 = gv := by omega
    rw [e1, e2, e3, if_neg, if_pos ⟨hg, ha⟩]
    intro c
    exact hne ⟨c.1, HO c.1 g hg (by omega)⟩
  · unfold fnE
    rw [if_neg (show ¬ 100 + (4 * on + na) < 100 by omega), if_pos ⟨h2, by omega⟩]
theorem cfM_E (h8 : nf ≤ 8) (K : cfM h so s vis on na nc nf oM agM cnM fnM fnA) : cfM h so s vis on na nc nf oM agM cnM (fnE so on na nf oM fnM fnA) fnA := by
  obtain ⟨a1, a2, a3, a4, a5, a6, a7, b1, b2, b3, b4, b5, b6, b7, b8, b9⟩ := K
  exact ⟨a1, a2, a3, a4, a5, a6, a7, b1, b2, b3, b4, b5, b6, b7, b8, fun i hi => ⟨(b9 i hi).1.trans (fnE_lo (by omega)).symm, (b9 i hi).2⟩⟩
theorem cfR_E (h8 : nf ≤ 8) (K : cfR so na nc nf oX oM agX agM cnX cnM fnX fnM fnA) : cfR so na nc nf oX oM agX agM cnX cnM fnX (fnE so on na nf oM fnM fnA) fnA := by
  obtain ⟨a1, a2, a3, a4⟩ := K
  exact ⟨a1, a2, fun i hi => ⟨by rw [show fnE so on na nf oM fnM fnA i = fnM i from fnE_lo (by omega)]; exact (a3 i hi).1, (a3 i hi).2⟩, a4⟩
theorem J_bodyE (HO : so = 2 → ∀ i, i < nf → i = on → fnM i = oM) (hn : n ≤ 240) (Gv : am_Gv hx) (KX : cfX hx so s vis on na nc nf oX agX cnX fnX fnA) (KR : cfR so na nc nf oX oM agX agM cnX cnM fnX fnM fnA) (Z : (∃ y, BX hx t n y ∧ BM hm t n y 0) ∨ ∃ q lnx lpx lnm lpm, PX hx t n (.inl q) [] [] [] (nI 0) (nI 0) (nI 0) lnx lpx ∧ LT lnx lpx (mgO (some (0, 2000)) W0) ∧ MX hm t n (.inl q) (nI 0) (nI 0) 0 lnm lpm ∧ LT lnm lpm W0 ∧ (∀ z, W0 = some z → z.2 ≤ 240) ∧ cfM hm so s vis on na nc nf oM agM cnM fnM fnA) :
    ∃ ft hxa hxb hma hmb mr, am_run 102 77 [some (.ref 301), some (.int (nI 0)), none, none, none, none, none] hx none hxa ∧ am_run 102 107 [some (.ref 301)] hxa (some (.int (foI ft))) hxb ∧ am_run 102 211 [some (.ref 349), none, none, none] hm (some (.int mr)) hma ∧ (∀ Q, am_J 103 192 73 [some (.ref 349), some (.int mr)] [] hma Q ↔ Q (some (.int (foI ft))) hmb) ∧ am_S hxa ∧ am_S hma ∧ XF hx hxb ∧ am_I hxb 302 9 = fpI ft ∧ (∃ c, c < 256 ∧ am_I hxb 302 7 = nI c) ∧ (∀ z, ft = some z → z.1 ≠ 0 ∧ z.1 < 100) ∧ MF hm hma 0 ∧ (∃ m, ME hma hmb m) ∧ am_I hmb 349 22 = foI ft ∧ am_I hmb 349 4 = fpI ft ∧ (ft = none → W0 = none ∧ RD3 so na vis on nf oM agM cnM fnM fnA hxb hmb) := by
  have h8 := KX.2.2.2.2.2.1
  have hna := KX.2.2.1
  refine J_body (t := t) (fnE_FE h8 (fun i hi => (KR.2.2.1 i hi).2.2) hna HO) hn Gv KX (cfR_E h8 KR) ?_
  rcases Z with Z | ⟨q, lnx, lpx, lnm, lpm, X, LX, Y, LM, hW, K⟩
  · exact Or.inl Z
  · exact Or.inr ⟨q, lnx, lpx, lnm, lpm, X, LX, Y, LM, hW, cfM_E h8 K⟩
theorem ltM_0 : ltM (lN 0) = [] := by decide
/-- a function that is called is known -/
theorem fnE_ok {g gv : Nat} (hgv : gv ≤ 3) (h : pFm so on oM (fnE so on na nf oM fnM fnA) (4 * g + gv) ≠ []) : (so = 2 ∧ 4 * g + gv = 4 * on + na) ∨ (g < nf ∧ fnA g = gv) := by
  unfold pFm fnE at h
  rw [if_neg (show ¬ 100 + (4 * g + gv) < 100 by omega)] at h
  have e1 : 100 + (4 * g + gv) - 100 = 4 * g + gv := by omega
  have e2 : (4 * g + gv) / 4 = g := by omega
  have e3 : (4 * g + gv) % 4 = gv := by omega
  rw [e1, e2, e3] at h
  by_cases c : so = 2 ∧ 4 * g + gv = 4 * on + na
  · exact Or.inl c
  · rw [if_neg c] at h
    by_cases c2 : g < nf ∧ fnA g = gv
    · exact Or.inr c2
    · rw [if_neg c2] at h; exact absurd ltM_0 h
end FNE

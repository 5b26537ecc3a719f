/-! THE CLASS'S PARSER: what it holds, and its small steps -/
theorem toInt8_idem {w : Int32} : w.toInt8.toInt32.toInt8.toInt32 = w.toInt8.toInt32 := by simp
section S303
variable {h : am_H} {q a : Nat}
theorem o301 (S : am_S h) : am_ob h 301 6 := am_S_ob S (by decide +kernel)
theorem o302 (S : am_S h) : am_ob h 302 3 := am_S_ob S (by decide +kernel)
theorem o303 (S : am_S h) : am_ob h 303 1 := am_S_ob S (by decide +kernel)
theorem o307 (S : am_S h) : am_ob h 307 10 := am_S_ob S (by decide +kernel)
theorem ax304 (S : am_S h) (hq : q < 4) : am_ax h 304 101 q := am_S_ax S (n := 4) (by decide +kernel) hq (by decide)
theorem ax305 (S : am_S h) (hq : q < 160) : am_ax h 305 103 q := am_S_ax S (n := 160) (by decide +kernel) hq (by decide)
theorem ax306 (S : am_S h) (hq : q < 160) : am_ax h 306 101 q := am_S_ax S (n := 160) (by decide +kernel) hq (by decide)
theorem ax308 (S : am_S h) (hq : q < 400) : am_ax h 308 103 q := am_S_ax S (n := 400) (by decide +kernel) hq (by decide)
theorem ax309 (S : am_S h) (hq : q < 256) : am_ax h 309 100 q := am_S_ax S (n := 256) (by decide +kernel) hq (by decide)
theorem ax310 (S : am_S h) (hq : q < 3) : am_ax h 310 101 q := am_S_ax S (n := 3) (by decide +kernel) hq (by decide)
theorem lt_S (S : am_S h) (ha : a < 402) : a < h.1 := am_S_lt S ha
theorem tg305 (S : am_S h) : am_tg h 305 = (103, 160) := by rw [am_S_tg S (by decide) (by decide)]; decide +kernel
theorem tg308 (S : am_S h) : am_tg h 308 = (103, 400) := by rw [am_S_tg S (by decide) (by decide)]; decide +kernel
theorem tg309 (S : am_S h) : am_tg h 309 = (100, 256) := by rw [am_S_tg S (by decide) (by decide)]; decide +kernel
theorem ar305 (S : am_S h) : 100 ≤ (am_tg h 305).1 := by rw [tg305 S]; decide
theorem ar308 (S : am_S h) : 100 ≤ (am_tg h 308).1 := by rw [tg308 S]; decide
theorem ar309 (S : am_S h) : 100 ≤ (am_tg h 309).1 := by rw [tg309 S]; decide
theorem S303r (S : am_S h) : am_R h 303 0 = some 305 ∧ am_R h 303 1 = some 306 ∧ am_R h 303 2 = some 307 ∧ am_R h 303 3 = some 309 ∧ am_R h 303 4 = some 304 ∧ am_R h 307 0 = some 308 := ⟨am_S_rf S (by decide +kernel), am_S_rf S (by decide +kernel), am_S_rf S (by decide +kernel), am_S_rf S (by decide +kernel), am_S_rf S (by decide +kernel), am_S_rf S (by decide +kernel)⟩
end S303
/-- where the lexer stands: at a token, or behind a fault -/
def lxS (h : am_H) (t : Nat → Nat) (n : Nat) : Nat ⊕ (Nat × Nat) → Prop
  | .inl q => LX h t n q ∧ lx_K t n q ≠ 263 ∧ q ≤ n ∧ am_I h 302 8 = nI 0 ∧ am_I h 302 9 = -1 ∧ ∃ c, c < 256 ∧ am_I h 302 7 = nI c
  | .inr x => LB h n x.1 x.2 ∧ x.1 ≠ 0 ∧ x.1 < 100 ∧ x.2 ≤ n ∧ ∃ c, c < 256 ∧ am_I h 302 7 = nI c
def mdR (k : Nat) : Nat ⊕ (Nat × Nat) → Nat ⊕ (Nat × Nat)
  | .inl q => .inr (k, q)
  | .inr x => .inr x
def mdK (t : Nat → Nat) (n : Nat) : Nat ⊕ (Nat × Nat) → Nat
  | .inl q => lx_K t n q
  | .inr _ => 263
def mdA (t : Nat → Nat) (n : Nat) : Nat ⊕ (Nat × Nat) → Nat ⊕ (Nat × Nat)
  | .inl q => if lx_K t n (lx_q t n (lx_E t n q)) = 263 then .inr (1, lx_q t n (lx_E t n q)) else .inl (lx_q t n (lx_E t n q))
  | .inr x => .inr x
def XC (h : am_H) (C : List (Int32 × Int64)) : Prop := am_I h 303 5 = nI C.length ∧ C.length ≤ 160 ∧ ∀ i x, C[i]? = some x → am_I h 305 i = x.1 ∧ am_L h 306 i = x.2 ∧ x.1.toInt8.toInt32 = x.1
def XP (h : am_H) (P : List Int32) : Prop := am_I h 307 1 = nI P.length ∧ P.length ≤ 400 ∧ ∀ i x, P[i]? = some x → am_I h 308 i = x ∧ x.toInt8.toInt32 = x
def XN (h : am_H) (N : List Nat) : Prop := am_I h 303 6 = nI N.length ∧ (∀ i c, N[i]? = some c → am_I h 309 i = nI c) ∧ N.Nodup ∧ (∀ c, c ∈ N → c < 256) ∧ ∀ c, c < 256 → (am_L h 304 (c / 64)).toBitVec.getLsbD (c % 64) = decide (c ∈ N)
/-- the parser's state -/
def PX (h : am_H) (t : Nat → Nat) (n : Nat) (md : Nat ⊕ (Nat × Nat)) (C : List (Int32 × Int64)) (P : List Int32) (N : List Nat) (F k o ln lp : Int32) : Prop :=
  am_S h ∧ xT h t n ∧ lxS h t n md ∧ XC h C ∧ XP h P ∧ XN h N ∧ am_I h 303 8 = F ∧ am_I h 303 7 = k ∧ am_I h 301 10 = o ∧ am_I h 301 11 = ln ∧ am_I h 301 12 = lp
/-- what the parser of an E leaves as it was -/
def XF (h h' : am_H) : Prop := am_fr rX h h' ∧ (∀ k, k ≤ 9 → am_I h' 301 k = am_I h 301 k) ∧ (∀ k, am_L h' 301 k = am_L h 301 k) ∧ (∀ k, am_L h' 310 k = am_L h 310 k)
theorem XF_refl {h : am_H} : XF h h := ⟨fr_refl, fun _ _ => rfl, fun _ => rfl, fun _ => rfl⟩
theorem XF_trans {h g g' : am_H} (F : XF h g) (G : XF g g') : XF h g' := ⟨fr_trans F.1 G.1, fun k hk => (G.2.1 k hk).trans (F.2.1 k hk), fun k => (G.2.2.1 k).trans (F.2.2.1 k), fun k => (G.2.2.2 k).trans (F.2.2.2 k)⟩
section XOP
variable {d : Nat} {h g : am_H} {Q : Option Value → am_H → Prop} {v0 v1 v2 v3 v4 : Option Value} {t : Nat → Nat} {n : Nat} {md : Nat ⊕ (Nat × Nat)} {C : List (Int32 × Int64)} {P : List Int32} {N : List Nat} {F k o ln lp : Int32}
theorem XF_I {a j : Nat} {x : Int32} (F : XF h g) (ha : 302 ≤ a ∧ a ≤ 309 ∨ (a = 301 ∧ 10 ≤ j)) : XF h (am_setI g a j x) := by
  obtain ⟨f1, f2, f3, f4⟩ := F
  refine ⟨fr_I f1 (by unfold rX; omega), fun k hk => ?_, f3, f4⟩
  rw [hI_I]
  by_cases e : 301 = a
  · rw [if_pos e, if_neg (by omega)]; exact f2 k hk
  · rw [if_neg e]; exact f2 k hk
theorem XF_L {a j : Nat} {x : Int64} (F : XF h g) (ha : 302 ≤ a ∧ a ≤ 309) : XF h (am_setL g a j x) := by
  obtain ⟨f1, f2, f3, f4⟩ := F
  refine ⟨fr_L f1 (by unfold rX; omega), f2, fun k => ?_, fun k => ?_⟩
  · rw [rL_a (by omega)]; exact f3 k
  · rw [rL_a (by omega)]; exact f4 k
theorem XF_302 (F : am_fr (fun a => a = 302) h g) : XF h g := ⟨fr_mono (by intro a e; subst e; unfold rX; omega) F, fun k _ => fr_rdI F (by decide), fun k => fr_rdL F (by decide), fun k => fr_rdL F (by decide)⟩
theorem lx_E_le {q : Nat} (hq : q ≤ n) (hk : lx_K t n q ≠ 263) : lx_E t n q ≤ n := by
  unfold lx_E
  unfold lx_K at hk
  by_cases h0 : n ≤ q
  · rw [if_pos h0]; omega
  · rw [if_neg h0] at hk ⊢
    by_cases h1 : isL (t q) = true
    · rw [if_pos h1]; exact scan_le hq
    · rw [if_neg h1] at hk ⊢
      by_cases h2 : isG (t q) = true
      · rw [if_pos h2]
        by_cases h3 : lx_pt t n (lx_G t n q) = true
        · rw [if_pos h3]
          have : ((lx_G t n q < n ∧ t (lx_G t n q) = 46) ∧ lx_G t n q + 1 < n) ∧ isG (t (lx_G t n q + 1)) = true := by simpa only [lx_pt, Bool.and_eq_true, decide_eq_true_eq] using h3
          exact scan_le (Nat.le_of_lt this.1.2)
        · rw [if_neg h3]; exact scan_le hq
      · rw [if_neg h2] at hk ⊢
        by_cases h3 : 65 ≤ t q ∧ t q ≤ 68
        · rw [if_pos h3] at hk ⊢
          by_cases h4 : lx_rf t n q = true
          · have : (((q + 2 < n ∧ 97 ≤ t (q + 1)) ∧ t (q + 1) ≤ 104) ∧ 48 ≤ t (q + 2)) ∧ t (q + 2) ≤ 55 := by simpa only [lx_rf, Bool.and_eq_true, decide_eq_true_eq] using h4
            omega
          · rw [if_neg h4] at hk; exact absurd rfl hk
        · rw [if_neg h3]
          split <;> omega
theorem lx_c_lt {q : Nat} (hK : lx_K t n q = 259) : lx_c t q < 256 := by
  unfold lx_K at hK
  by_cases h0 : n ≤ q
  · rw [if_pos h0] at hK; omega
  · rw [if_neg h0] at hK
    by_cases h1 : isL (t q) = true
    · rw [if_pos h1] at hK; split at hK <;> omega
    · rw [if_neg h1] at hK
      by_cases h2 : isG (t q) = true
      · rw [if_pos h2] at hK
        split at hK <;> split at hK <;> omega
      · rw [if_neg h2] at hK
        by_cases h3 : 65 ≤ t q ∧ t q ≤ 68
        · rw [if_pos h3] at hK
          by_cases h4 : lx_rf t n q = true
          · have : (((q + 2 < n ∧ 97 ≤ t (q + 1)) ∧ t (q + 1) ≤ 104) ∧ 48 ≤ t (q + 2)) ∧ t (q + 2) ≤ 55 := by simpa only [lx_rf, Bool.and_eq_true, decide_eq_true_eq] using h4
            unfold lx_c; omega
          · rw [if_neg h4] at hK; omega
        · rw [if_neg h3] at hK
          split at hK
          · omega
          · split at hK
            · omega
            · by_cases h5 : lx_sg (t q) = true
              · rw [if_pos h5] at hK
                have hm : t q ∈ [37, 40, 41, 42, 43, 44, 45, 47, 58, 60, 61] := of_decide_eq_true h5
                simp only [List.mem_cons, List.not_mem_nil, or_false] at hm
                omega
              · rw [if_neg h5] at hK; omega
theorem lx_K_le {q : Nat} {R : Nat → Prop} (ht : ∀ j, j < n → 1 ≤ t j ∧ t j ≤ 255 ∧ R j) : lx_K t n q ≤ 263 := by
  unfold lx_K
  repeat' split
  all_goals first | omega | skip
  have := (ht q (by omega)).2.1
  omega
theorem PX_302 (Fr : am_fr (fun a => a = 302) h g) {md' : Nat ⊕ (Nat × Nat)} (L : lxS g t n md') {F k o ln lp : Int32} (X : PX h t n md C P N F k o ln lp) : PX g t n md' C P N F k o ln lp := by
  obtain ⟨S, T, -, ⟨c1, c2, c3⟩, ⟨p1, p2, p3⟩, ⟨n1, n2, n3, n4, n5⟩, e1, e2, e3, e4, e5⟩ := X
  refine ⟨fr_S Fr S, xT_fr Fr (by decide) (by decide) T, L, ⟨?_, c2, fun i x hx => ?_⟩, ⟨?_, p2, fun i x hx => ?_⟩, ⟨?_, fun i c hc => ?_, n3, n4, fun c hc => ?_⟩, ?_, ?_, ?_, ?_, ?_⟩ <;> simp only [fr_rdI Fr (show ¬ (303 = 302) by decide), fr_rdI Fr (show ¬ (305 = 302) by decide), fr_rdL Fr (show ¬ (306 = 302) by decide), fr_rdI Fr (show ¬ (307 = 302) by decide), fr_rdI Fr (show ¬ (308 = 302) by decide), fr_rdI Fr (show ¬ (309 = 302) by decide), fr_rdL Fr (show ¬ (304 = 302) by decide), fr_rdI Fr (show ¬ (301 = 302) by decide)]
  · exact c1
  · exact c3 i x hx
  · exact p1
  · exact p3 i x hx
  · exact n1
  · exact n2 i c hc
  · exact n5 c hc
  · exact e1
  · exact e2
  · exact e3
  · exact e4
  · exact e5
/-- advance -/
theorem x_adv (X : PX h t n md C P N F k o ln lp) : ∃ h', am_run (d + 2) 22 [some (.ref 302), v1] h none h' ∧ PX h' t n (mdA t n md) C P N F k o ln lp ∧ XF h h' := by
  have X0 := X
  obtain ⟨S, T, L, -⟩ := X0
  match md, L, X with
  | .inl q, ⟨⟨l1, l2, l3, l4⟩, lk, lq, f8, f9, cc, hcc, f7⟩, X =>
    have hE : lx_E t n q ≤ n := lx_E_le lq lk
    have hk : lx_K t n q < 263 := Nat.lt_of_le_of_ne (lx_K_le T.2.2.2) lk
    obtain ⟨h', R, Fr, A1, A2, A3⟩ := x_advance (d := d) (v1 := v1) S T l1 hE l2 hk f8
    refine ⟨h', R, PX_302 Fr ?_ X, XF_302 Fr⟩
    have hq : lx_q t n (lx_E t n q) ≤ n := scan_le hE
    unfold mdA
    by_cases c : lx_K t n (lx_q t n (lx_E t n q)) = 263
    · simp only [c, ↓reduceIte]
      exact ⟨A2 c, Nat.one_ne_zero, show 1 < 100 by decide, hq, cc, hcc, (A3 (by rw [c]; decide)).trans f7⟩
    · simp only [c, ↓reduceIte]
      obtain ⟨a1, a2, a3⟩ := A1 c
      refine ⟨a1, c, hq, a2.trans f8, a3.trans f9, ?_⟩
      by_cases c9 : lx_K t n (lx_q t n (lx_E t n q)) = 259
      · exact ⟨_, lx_c_lt c9, a1.2.2.2.2.2 c9⟩
      · exact ⟨cc, hcc, (A3 c9).trans f7⟩
  | .inr x, ⟨⟨b1, b2⟩, b3⟩, X =>
    exact ⟨h, fun Q => x_advanceB (d := d + 2) (v1 := v1) S b1, X, XF_refl⟩
/-- refuse -/
theorem x_ref (X : PX h t n md C P N F k o ln lp) {f : Nat} (hf : f ≠ 0) (hf2 : f < 100) : ∃ h', am_run d 25 [some (.ref 302), some (.int (nI f))] h none h' ∧ PX h' t n (mdR f md) C P N F k o ln lp ∧ XF h h' := by
  have X0 := X
  obtain ⟨S, T, L, -⟩ := X0
  match md, L, X with
  | .inl q, ⟨⟨l1, l2, l3, l4⟩, lk, lq, f8, f9, cc, hcc, f7⟩, X =>
    have Fr : am_fr (fun a => a = 302) h (am_setI (am_setI (am_setI h 302 8 (nI f)) 302 9 (nI q)) 302 2 (nI 263)) := fr_I (fr_I (fr_I fr_refl rfl) rfl) rfl
    refine ⟨_, fun Q => x_refuse S f8 l3, PX_302 (md' := .inr (f, q)) Fr ⟨?_, hf, hf2, lq, cc, hcc, by simp only [hI_I, hI_L, hI_D, hI_R, hL_I, hL_L, hL_D, hL_R, hD_I, hD_L, hD_D, hD_R, hR_I, hR_L, hR_D, ↓reduceIte, Nat.reduceEqDiff, f7]⟩ X, XF_302 Fr⟩
    simp only [LB, hI_I, hI_L, hI_D, hI_R, hL_I, hL_L, hL_D, hL_R, hD_I, hD_L, hD_D, hD_R, hR_I, hR_L, hR_D, ↓reduceIte, Nat.reduceEqDiff, l1, l3, true_and]
    exact ⟨⟨q, lq, rfl⟩, _, lx_E_le lq lk, rfl⟩
  | .inr x, ⟨⟨b1, b2, b3⟩, b4, b5, b6, cc, hcc, f7⟩, X =>
    have Fr : am_fr (fun a => a = 302) h (am_setI h 302 2 (nI 263)) := fr_I fr_refl rfl
    refine ⟨_, fun Q => x_refuse' S b2 b4 b5, PX_302 (md' := .inr x) Fr ⟨?_, b4, b5, b6, cc, hcc, by simp only [hI_I, hI_L, hI_D, hI_R, hL_I, hL_L, hL_D, hL_R, hD_I, hD_L, hD_D, hD_R, hR_I, hR_L, hR_D, ↓reduceIte, Nat.reduceEqDiff, f7]⟩ X, XF_302 Fr⟩
    simp only [LB, hI_I, hI_L, hI_D, hI_R, hL_I, hL_L, hL_D, hL_R, hD_I, hD_L, hD_D, hD_R, hR_I, hR_L, hR_D, ↓reduceIte, Nat.reduceEqDiff, b2, true_and]
    exact b3
theorem XC_keep (e1 : am_I g 303 5 = am_I h 303 5) (e2 : ∀ i, am_I g 305 i = am_I h 305 i) (e3 : ∀ i, am_L g 306 i = am_L h 306 i) (X : XC h C) : XC g C := ⟨e1.trans X.1, X.2.1, fun i x hx => ⟨(e2 i).trans (X.2.2 i x hx).1, (e3 i).trans (X.2.2 i x hx).2.1, (X.2.2 i x hx).2.2⟩⟩
theorem XP_keep (e1 : am_I g 307 1 = am_I h 307 1) (e2 : ∀ i, am_I g 308 i = am_I h 308 i) (X : XP h P) : XP g P := ⟨e1.trans X.1, X.2.1, fun i x hx => ⟨(e2 i).trans (X.2.2 i x hx).1, (X.2.2 i x hx).2⟩⟩
theorem XN_keep (e1 : am_I g 303 6 = am_I h 303 6) (e2 : ∀ i, am_I g 309 i = am_I h 309 i) (e3 : ∀ i, am_L g 304 i = am_L h 304 i) (X : XN h N) : XN g N := ⟨e1.trans X.1, fun i c hc => (e2 i).trans (X.2.1 i c hc), X.2.2.1, X.2.2.2.1, fun c hc => by rw [e3]; exact X.2.2.2.2 c hc⟩
theorem PX_of {C' : List (Int32 × Int64)} {P' : List Int32} {N' : List Nat} {F' k' : Int32} (Fr : am_fr (fun a => 303 ≤ a ∧ a ≤ 309) h g) (X : PX h t n md C P N F k o ln lp) (hC : XC g C') (hP : XP g P') (hN : XN g N') (h8 : am_I g 303 8 = F') (h7 : am_I g 303 7 = k') : PX g t n md C' P' N' F' k' o ln lp := by
  obtain ⟨S, T, L, -, -, -, -, -, e3, e4, e5⟩ := X
  refine ⟨fr_S Fr S, xT_fr Fr (by omega) (by omega) T, ?_, hC, hP, hN, h8, h7, ?_, ?_, ?_⟩
  · match md, L with
    | .inl q, L =>
      simp only [lxS, LX] at L ⊢
      simp only [fr_rdI Fr (show ¬ (303 ≤ 302 ∧ 302 ≤ 309) by omega), fr_rdL Fr (show ¬ (303 ≤ 302 ∧ 302 ≤ 309) by omega)]
      exact L
    | .inr x, L =>
      simp only [lxS, LB] at L ⊢
      simp only [fr_rdI Fr (show ¬ (303 ≤ 302 ∧ 302 ≤ 309) by omega), fr_rdL Fr (show ¬ (303 ≤ 302 ∧ 302 ≤ 309) by omega)]
      exact L
  · rw [fr_rdI Fr (by omega)]; exact e3
  · rw [fr_rdI Fr (by omega)]; exact e4
  · rw [fr_rdI Fr (by omega)]; exact e5
theorem XF_303 (Fr : am_fr (fun a => 303 ≤ a ∧ a ≤ 309) h g) : XF h g := ⟨fr_mono (by intro a e; unfold rX; omega) Fr, fun k _ => fr_rdI Fr (by omega), fun k => fr_rdL Fr (by omega), fun k => fr_rdL Fr (by omega)⟩
theorem PX_301 {o' ln' lp' : Int32} (X : PX h t n md C P N F k o ln lp) : PX (am_setI (am_setI (am_setI h 301 10 o') 301 11 ln') 301 12 lp') t n md C P N F k o' ln' lp' := by
  obtain ⟨S, T, L, hC, hP, hN, e1, e2, -, -, -⟩ := X
  refine ⟨S, xT_I (xT_I (xT_I T (by decide) (by decide)) (by decide) (by decide)) (by decide) (by decide), ?_, XC_keep (by simp only [hI_I, hI_L, hI_D, hI_R, hL_I, hL_L, hL_D, hL_R, hD_I, hD_L, hD_D, hD_R, hR_I, hR_L, hR_D, ↓reduceIte, Nat.reduceEqDiff]) (fun i => by simp only [hI_I, hI_L, hI_D, hI_R, hL_I, hL_L, hL_D, hL_R, hD_I, hD_L, hD_D, hD_R, hR_I, hR_L, hR_D, ↓reduceIte, Nat.reduceEqDiff]) (fun i => rfl) hC, XP_keep (by simp only [hI_I, hI_L, hI_D, hI_R, hL_I, hL_L, hL_D, hL_R, hD_I, hD_L, hD_D, hD_R, hR_I, hR_L, hR_D, ↓reduceIte, Nat.reduceEqDiff]) (fun i => by simp only [hI_I, hI_L, hI_D, hI_R, hL_I, hL_L, hL_D, hL_R, hD_I, hD_L, hD_D, hD_R, hR_I, hR_L, hR_D, ↓reduceIte, Nat.reduceEqDiff]) hP, XN_keep (by simp only [hI_I, hI_L, hI_D, hI_R, hL_I, hL_L, hL_D, hL_R, hD_I, hD_L, hD_D, hD_R, hR_I, hR_L, hR_D, ↓reduceIte, Nat.reduceEqDiff]) (fun i => by simp only [hI_I, hI_L, hI_D, hI_R, hL_I, hL_L, hL_D, hL_R, hD_I, hD_L, hD_D, hD_R, hR_I, hR_L, hR_D, ↓reduceIte, Nat.reduceEqDiff]) (fun i => rfl) hN, ?_, ?_, ?_, ?_, ?_⟩
  · match md, L with
    | .inl q, L => simp only [lxS, LX, hI_I, hI_L, hI_D, hI_R, hL_I, hL_L, hL_D, hL_R, hD_I, hD_L, hD_D, hD_R, hR_I, hR_L, hR_D, ↓reduceIte, Nat.reduceEqDiff] at L ⊢; exact L
    | .inr x, L => simp only [lxS, LB, hI_I, hI_L, hI_D, hI_R, hL_I, hL_L, hL_D, hL_R, hD_I, hD_L, hD_D, hD_R, hR_I, hR_L, hR_D, ↓reduceIte, Nat.reduceEqDiff] at L ⊢; exact L
  all_goals simp only [hI_I, hI_L, hI_D, hI_R, hL_I, hL_L, hL_D, hL_R, hD_I, hD_L, hD_D, hD_R, hR_I, hR_L, hR_D, ↓reduceIte, Nat.reduceEqDiff, e1, e2]
theorem PX_o {o' : Int32} (X : PX h t n md C P N F k o ln lp) : PX (am_setI h 301 10 o') t n md C P N F k o' ln lp := by
  have := PX_301 (o' := o') (ln' := ln) (lp' := lp) X
  have e4 := X.2.2.2.2.2.2.2.2.2.1
  have e5 := X.2.2.2.2.2.2.2.2.2.2
  rw [setI_same (x := ln) (by simp only [hI_I, hI_L, hI_D, hI_R, hL_I, hL_L, hL_D, hL_R, hD_I, hD_L, hD_D, hD_R, hR_I, hR_L, hR_D, ↓reduceIte, Nat.reduceEqDiff, e4]), setI_same (x := lp) (by simp only [hI_I, hI_L, hI_D, hI_R, hL_I, hL_L, hL_D, hL_R, hD_I, hD_L, hD_D, hD_R, hR_I, hR_L, hR_D, ↓reduceIte, Nat.reduceEqDiff, e5])] at this
  exact this
theorem PX_l {ln' lp' : Int32} (X : PX h t n md C P N F k o ln lp) : PX (am_setI (am_setI h 301 11 ln') 301 12 lp') t n md C P N F k o ln' lp' := by
  have := PX_301 (o' := o) (ln' := ln') (lp' := lp') X
  rw [setI_same (h := h) X.2.2.2.2.2.2.2.2.1] at this
  exact this
theorem getElem?_snoc {α : Type} {l : List α} {y : α} {i : Nat} {x : α} (hx : (l ++ [y])[i]? = some x) : (i < l.length ∧ l[i]? = some x) ∨ (i = l.length ∧ x = y) := by
  by_cases hi : i < l.length
  · rw [List.getElem?_append_left hi] at hx; exact Or.inl ⟨hi, hx⟩
  · rw [List.getElem?_append_right (by omega)] at hx
    by_cases h0 : i = l.length
    · subst h0; rw [Nat.sub_self] at hx; exact Or.inr ⟨rfl, (Option.some.inj hx).symm⟩
    · obtain ⟨m, hm⟩ : ∃ m, i - l.length = m + 1 := ⟨i - l.length - 1, by omega⟩
      rw [hm] at hx; cases hx
/-- Code.add -/
def xadd (C : List (Int32 × Int64)) (x : Int32 × Int64) : List (Int32 × Int64) := if C.length < 160 then C ++ [x] else C
theorem x_add (X : PX h t n md C P N F k o ln lp) {w : Int32} {v : Int64} : ∃ h', am_run d 11 [some (.ref 303), some (.int w), some (.long v), none] h (some (.int (nI ((xadd C (w.toInt8.toInt32, v)).length - 1)))) h' ∧ PX h' t n md (xadd C (w.toInt8.toInt32, v)) P N F k o ln lp ∧ am_fr (fun a => 303 ≤ a ∧ a ≤ 309) h h' := by
  obtain ⟨S, T, L, hC, hP, hN, e1, e2, -⟩ := id X
  obtain ⟨R0, R1, R2, R3, R4, R5⟩ := S303r S
  have T5 := tg305 S
  obtain ⟨c1, c2, c3⟩ := hC
  by_cases hl : C.length < 160
  · have ex : xadd C (w.toInt8.toInt32, v) = C ++ [(w.toInt8.toInt32, v)] := if_pos hl
    have Fr : am_fr (fun a => 303 ≤ a ∧ a ≤ 309) h (am_setI (am_setL (am_setI h 305 C.length w.toInt8.toInt32) 306 C.length v) 303 5 (nI (C.length + 1))) := fr_I (fr_L (fr_I fr_refl (by omega)) (by omega)) (by omega)
    refine ⟨_, fun Q => ?_, PX_of Fr X ⟨?_, ?_, ?_⟩ (XP_keep (by simp only [hI_I, hI_L, hI_D, hI_R, hL_I, hL_L, hL_D, hL_R, hD_I, hD_L, hD_D, hD_R, hR_I, hR_L, hR_D, ↓reduceIte, Nat.reduceEqDiff]) (fun i => by simp only [hI_I, hI_L, hI_D, hI_R, hL_I, hL_L, hL_D, hL_R, hD_I, hD_L, hD_D, hD_R, hR_I, hR_L, hR_D, ↓reduceIte, Nat.reduceEqDiff]) hP) (XN_keep (by simp only [hI_I, hI_L, hI_D, hI_R, hL_I, hL_L, hL_D, hL_R, hD_I, hD_L, hD_D, hD_R, hR_I, hR_L, hR_D, ↓reduceIte, Nat.reduceEqDiff]) (fun i => by simp only [hI_I, hI_L, hI_D, hI_R, hL_I, hL_L, hL_D, hL_R, hD_I, hD_L, hD_D, hD_R, hR_I, hR_L, hR_D, ↓reduceIte, Nat.reduceEqDiff]) (fun i => by simp only [hI_I, hI_L, hI_D, hI_R, hL_I, hL_L, hL_D, hL_R, hD_I, hD_L, hD_D, hD_R, hR_I, hR_L, hR_D, ↓reduceIte, Nat.reduceEqDiff]) hN) (by simp only [hI_I, hI_L, hI_D, hI_R, hL_I, hL_L, hL_D, hL_R, hD_I, hD_L, hD_D, hD_R, hR_I, hR_L, hR_D, ↓reduceIte, Nat.reduceEqDiff, e1]) (by simp only [hI_I, hI_L, hI_D, hI_R, hL_I, hL_L, hL_D, hL_R, hD_I, hD_L, hD_D, hD_R, hR_I, hR_L, hR_D, ↓reduceIte, Nat.reduceEqDiff, e2]), Fr⟩
    · simp (disch := first | with_reducible assumption | omega | exact Or.inl rfl | exact Or.inr rfl | exact bI_01 | exact c_cat | rfl | with_reducible repeat (first | assumption | omega | apply S_I | apply S_L | apply S_D | apply ob_I | apply ob_L | apply ob_D | apply ob_R | apply ax_I | apply ax_L | apply ax_D | apply ax_R | apply o303 | apply o307 | apply o302 | apply o301 | apply ax304 | apply ax305 | apply ax306 | apply ax308 | apply ax309 | apply ax310 | apply lt_S | apply ar305 | apply ar308 | apply ar309)) only [g11_0, g11_1, g11_4, g11_5, g11_8, g11_9, g11_12, g11_13, g11_16, g11_17, g11_20, g11_21, g11_22, g11_23, g11_24, g11_27, g11_28, g11_31, g11_32, g11_33, g11_34, g11_35, g11_38, g11_39, g11_40, g11_43, g11_44, g11_47, g11_48, g11_49, R0, R1, Option.toList, List.nil_append, List.cons_append, va_rf, hI_I, hI_L, hI_D, hI_R, hL_I, hL_L, hL_D, hL_R, hD_I, hD_L, hD_D, hD_R, hR_I, hR_L, hR_D, ↓reduceIte, Nat.reduceEqDiff, c1, T5, nI_ltI, nI_leI, nI_eq, nI_add, nI_sub, nI_lt0, nI_e0, nI_m1, m1_nI, Nat.reduceEqDiff, Nat.reduceLT, Nat.reduceLeDiff, Nat.reduceAdd, Nat.reduceSub, Nat.reduceMul, ↓reduceIte, eq_self, show ¬ 160 ≤ C.length by omega, ex, List.length_append, List.length_cons, List.length_nil, Nat.add_sub_cancel, toInt8_idem]
    · rw [ex]; simp only [hI_I, hI_L, hI_D, hI_R, hL_I, hL_L, hL_D, hL_R, hD_I, hD_L, hD_D, hD_R, hR_I, hR_L, hR_D, ↓reduceIte, Nat.reduceEqDiff, List.length_append, List.length_cons, List.length_nil]
    · rw [ex, List.length_append]; exact hl
    · rw [ex]
      intro i x hx
      rcases getElem?_snoc hx with ⟨hi, hx⟩ | ⟨rfl, rfl⟩
      · obtain ⟨y1, y2, y3⟩ := c3 i x hx
        simp (disch := omega) only [hI_I, hI_L, hL_I, hL_L, ↓reduceIte, Nat.reduceEqDiff, if_neg (show ¬ i = C.length by omega)]
        exact ⟨y1, y2, y3⟩
      · simp only [hI_I, hI_L, hI_D, hI_R, hL_I, hL_L, hL_D, hL_R, hD_I, hD_L, hD_D, hD_R, hR_I, hR_L, hR_D, ↓reduceIte, Nat.reduceEqDiff, and_self, toInt8_idem]
  · have ex : xadd C (w.toInt8.toInt32, v) = C := if_neg hl
    have hl2 : C.length = 160 := by omega
    rw [ex]
    refine ⟨h, fun Q => ?_, X, fr_refl⟩
    simp (disch := first | with_reducible assumption | omega | exact Or.inl rfl | exact Or.inr rfl | exact bI_01 | exact c_cat | rfl | with_reducible repeat (first | assumption | omega | apply S_I | apply S_L | apply S_D | apply ob_I | apply ob_L | apply ob_D | apply ob_R | apply ax_I | apply ax_L | apply ax_D | apply ax_R | apply o303 | apply o307 | apply o302 | apply o301 | apply ax304 | apply ax305 | apply ax306 | apply ax308 | apply ax309 | apply ax310 | apply lt_S | apply ar305 | apply ar308 | apply ar309)) only [g11_0, g11_1, g11_4, g11_5, g11_8, g11_9, g11_12, g11_13, g11_16, g11_17, g11_20, g11_21, g11_22, g11_23, g11_24, g11_27, g11_28, g11_31, g11_32, g11_33, g11_34, g11_35, g11_38, g11_39, g11_40, g11_43, g11_44, g11_47, g11_48, g11_49, R0, R1, Option.toList, List.nil_append, List.cons_append, va_rf, hI_I, hI_L, hI_D, hI_R, hL_I, hL_L, hL_D, hL_R, hD_I, hD_L, hD_D, hD_R, hR_I, hR_L, hR_D, ↓reduceIte, Nat.reduceEqDiff, c1, T5, nI_ltI, nI_leI, nI_eq, nI_add, nI_sub, nI_lt0, nI_e0, nI_m1, m1_nI, Nat.reduceEqDiff, Nat.reduceLT, Nat.reduceLeDiff, Nat.reduceAdd, Nat.reduceSub, Nat.reduceMul, ↓reduceIte, eq_self, hl2]
/-- Text.add, for what is printed -/
def xpad (P : List Int32) (x : Int32) : List Int32 := if P.length < 400 then P ++ [x.toInt8.toInt32] else P
theorem x_padd (X : PX h t n md C P N F k o ln lp) {w : Int32} : ∃ h', am_run d 134 [some (.ref 307), some (.int w)] h none h' ∧ PX h' t n md C (xpad P w) N F k o ln lp ∧ am_fr (fun a => 303 ≤ a ∧ a ≤ 309) h h' := by
  obtain ⟨S, T, L, hC, hP, hN, e1, e2, -⟩ := id X
  obtain ⟨R0, R1, R2, R3, R4, R5⟩ := S303r S
  have T5 := tg308 S
  obtain ⟨c1, c2, c3⟩ := hP
  by_cases hl : P.length < 400
  · have ex : xpad P w = P ++ [w.toInt8.toInt32] := if_pos hl
    have Fr : am_fr (fun a => 303 ≤ a ∧ a ≤ 309) h (am_setI (am_setI h 308 P.length w.toInt8.toInt32) 307 1 (nI (P.length + 1))) := fr_I (fr_I fr_refl (by omega)) (by omega)
    refine ⟨_, fun Q => ?_, PX_of Fr X (XC_keep (by simp only [hI_I, hI_L, hI_D, hI_R, hL_I, hL_L, hL_D, hL_R, hD_I, hD_L, hD_D, hD_R, hR_I, hR_L, hR_D, ↓reduceIte, Nat.reduceEqDiff]) (fun i => by simp only [hI_I, hI_L, hI_D, hI_R, hL_I, hL_L, hL_D, hL_R, hD_I, hD_L, hD_D, hD_R, hR_I, hR_L, hR_D, ↓reduceIte, Nat.reduceEqDiff]) (fun i => by simp only [hI_I, hI_L, hI_D, hI_R, hL_I, hL_L, hL_D, hL_R, hD_I, hD_L, hD_D, hD_R, hR_I, hR_L, hR_D, ↓reduceIte, Nat.reduceEqDiff]) hC) ⟨?_, ?_, ?_⟩ (XN_keep (by simp only [hI_I, hI_L, hI_D, hI_R, hL_I, hL_L, hL_D, hL_R, hD_I, hD_L, hD_D, hD_R, hR_I, hR_L, hR_D, ↓reduceIte, Nat.reduceEqDiff]) (fun i => by simp only [hI_I, hI_L, hI_D, hI_R, hL_I, hL_L, hL_D, hL_R, hD_I, hD_L, hD_D, hD_R, hR_I, hR_L, hR_D, ↓reduceIte, Nat.reduceEqDiff]) (fun i => by simp only [hI_I, hI_L, hI_D, hI_R, hL_I, hL_L, hL_D, hL_R, hD_I, hD_L, hD_D, hD_R, hR_I, hR_L, hR_D, ↓reduceIte, Nat.reduceEqDiff]) hN) (by simp only [hI_I, hI_L, hI_D, hI_R, hL_I, hL_L, hL_D, hL_R, hD_I, hD_L, hD_D, hD_R, hR_I, hR_L, hR_D, ↓reduceIte, Nat.reduceEqDiff, e1]) (by simp only [hI_I, hI_L, hI_D, hI_R, hL_I, hL_L, hL_D, hL_R, hD_I, hD_L, hD_D, hD_R, hR_I, hR_L, hR_D, ↓reduceIte, Nat.reduceEqDiff, e2]), Fr⟩
    · simp (disch := first | with_reducible assumption | omega | exact Or.inl rfl | exact Or.inr rfl | exact bI_01 | exact c_cat | rfl | with_reducible repeat (first | assumption | omega | apply S_I | apply S_L | apply S_D | apply ob_I | apply ob_L | apply ob_D | apply ob_R | apply ax_I | apply ax_L | apply ax_D | apply ax_R | apply o303 | apply o307 | apply o302 | apply o301 | apply ax304 | apply ax305 | apply ax306 | apply ax308 | apply ax309 | apply ax310 | apply lt_S | apply ar305 | apply ar308 | apply ar309)) only [g134_0, g134_1, g134_4, g134_5, g134_8, g134_9, g134_12, g134_13, g134_16, g134_17, g134_20, g134_21, g134_22, g134_23, g134_24, g134_25, g134_28, g134_29, g134_30, g134_33, R5, Option.toList, List.nil_append, List.cons_append, va_rf, hI_I, hI_L, hI_D, hI_R, hL_I, hL_L, hL_D, hL_R, hD_I, hD_L, hD_D, hD_R, hR_I, hR_L, hR_D, ↓reduceIte, Nat.reduceEqDiff, c1, T5, nI_ltI, nI_leI, nI_eq, nI_add, nI_sub, nI_lt0, nI_e0, nI_m1, m1_nI, Nat.reduceEqDiff, Nat.reduceLT, Nat.reduceLeDiff, Nat.reduceAdd, Nat.reduceSub, Nat.reduceMul, ↓reduceIte, eq_self, show ¬ 400 ≤ P.length by omega, toInt8_idem]
    · rw [ex]; simp only [hI_I, hI_L, hI_D, hI_R, hL_I, hL_L, hL_D, hL_R, hD_I, hD_L, hD_D, hD_R, hR_I, hR_L, hR_D, ↓reduceIte, Nat.reduceEqDiff, List.length_append, List.length_cons, List.length_nil]
    · rw [ex, List.length_append]; exact hl
    · rw [ex]
      intro i x hx
      rcases getElem?_snoc hx with ⟨hi, hx⟩ | ⟨rfl, rfl⟩
      · simp (disch := omega) only [hI_I, ↓reduceIte, Nat.reduceEqDiff, if_neg (show ¬ i = P.length by omega)]
        exact c3 i x hx
      · simp only [hI_I, hI_L, hI_D, hI_R, hL_I, hL_L, hL_D, hL_R, hD_I, hD_L, hD_D, hD_R, hR_I, hR_L, hR_D, ↓reduceIte, Nat.reduceEqDiff, and_self, toInt8_idem]
  · have ex : xpad P w = P := if_neg hl
    have hl2 : P.length = 400 := by omega
    rw [ex]
    refine ⟨h, fun Q => ?_, X, fr_refl⟩
    simp (disch := first | with_reducible assumption | omega | exact Or.inl rfl | exact Or.inr rfl | exact bI_01 | exact c_cat | rfl | with_reducible repeat (first | assumption | omega | apply S_I | apply S_L | apply S_D | apply ob_I | apply ob_L | apply ob_D | apply ob_R | apply ax_I | apply ax_L | apply ax_D | apply ax_R | apply o303 | apply o307 | apply o302 | apply o301 | apply ax304 | apply ax305 | apply ax306 | apply ax308 | apply ax309 | apply ax310 | apply lt_S | apply ar305 | apply ar308 | apply ar309)) only [g134_0, g134_1, g134_4, g134_5, g134_8, g134_9, g134_12, g134_13, g134_16, g134_17, g134_20, g134_21, g134_22, g134_23, g134_24, g134_25, g134_28, g134_29, g134_30, g134_33, R5, Option.toList, List.nil_append, List.cons_append, va_rf, hI_I, hI_L, hI_D, hI_R, hL_I, hL_L, hL_D, hL_R, hD_I, hD_L, hD_D, hD_R, hR_I, hR_L, hR_D, ↓reduceIte, Nat.reduceEqDiff, c1, T5, nI_ltI, nI_leI, nI_eq, nI_add, nI_sub, nI_lt0, nI_e0, nI_m1, m1_nI, Nat.reduceEqDiff, Nat.reduceLT, Nat.reduceLeDiff, Nat.reduceAdd, Nat.reduceSub, Nat.reduceMul, ↓reduceIte, eq_self, hl2]
/-- tellPart -/
def xpart (md : Nat ⊕ (Nat × Nat)) (k : Int32) : (Nat ⊕ (Nat × Nat)) × Int32 := if k < nI 40 then (md, k + nI 1) else (mdR 3 md, k)
theorem x_tellPart (X : PX h t n md C P N F k o ln lp) : ∃ h', am_run (d + 1) 81 [some (.ref 301)] h none h' ∧ PX h' t n (xpart md k).1 C P N F (xpart md k).2 o ln lp ∧ XF h h' := by
  obtain ⟨S, T, L, hC, hP, hN, e1, e2, -⟩ := id X
  by_cases hk : k < nI 40
  · have ex : xpart md k = (md, k + nI 1) := if_pos hk
    rw [ex]
    have Fr : am_fr (fun a => 303 ≤ a ∧ a ≤ 309) h (am_setI h 303 7 (k + nI 1)) := fr_I fr_refl (by omega)
    refine ⟨_, fun Q => ?_, PX_of Fr X (XC_keep (by simp only [hI_I, hI_L, hI_D, hI_R, hL_I, hL_L, hL_D, hL_R, hD_I, hD_L, hD_D, hD_R, hR_I, hR_L, hR_D, ↓reduceIte, Nat.reduceEqDiff]) (fun i => by simp only [hI_I, hI_L, hI_D, hI_R, hL_I, hL_L, hL_D, hL_R, hD_I, hD_L, hD_D, hD_R, hR_I, hR_L, hR_D, ↓reduceIte, Nat.reduceEqDiff]) (fun i => rfl) hC) (XP_keep (by simp only [hI_I, hI_L, hI_D, hI_R, hL_I, hL_L, hL_D, hL_R, hD_I, hD_L, hD_D, hD_R, hR_I, hR_L, hR_D, ↓reduceIte, Nat.reduceEqDiff]) (fun i => by simp only [hI_I, hI_L, hI_D, hI_R, hL_I, hL_L, hL_D, hL_R, hD_I, hD_L, hD_D, hD_R, hR_I, hR_L, hR_D, ↓reduceIte, Nat.reduceEqDiff]) hP) (XN_keep (by simp only [hI_I, hI_L, hI_D, hI_R, hL_I, hL_L, hL_D, hL_R, hD_I, hD_L, hD_D, hD_R, hR_I, hR_L, hR_D, ↓reduceIte, Nat.reduceEqDiff]) (fun i => by simp only [hI_I, hI_L, hI_D, hI_R, hL_I, hL_L, hL_D, hL_R, hD_I, hD_L, hD_D, hD_R, hR_I, hR_L, hR_D, ↓reduceIte, Nat.reduceEqDiff]) (fun i => rfl) hN) (by simp only [hI_I, hI_L, hI_D, hI_R, hL_I, hL_L, hL_D, hL_R, hD_I, hD_L, hD_D, hD_R, hR_I, hR_L, hR_D, ↓reduceIte, Nat.reduceEqDiff, e1]) (by simp only [hI_I, hI_L, hI_D, hI_R, hL_I, hL_L, hL_D, hL_R, hD_I, hD_L, hD_D, hD_R, hR_I, hR_L, hR_D, ↓reduceIte, Nat.reduceEqDiff]), XF_303 Fr⟩
    simp (disch := first | with_reducible assumption | omega | exact Or.inl rfl | exact Or.inr rfl | exact bI_01 | exact c_cat | rfl | with_reducible repeat (first | assumption | omega | apply S_I | apply S_L | apply S_D | apply ob_I | apply ob_L | apply ob_D | apply ob_R | apply ax_I | apply ax_L | apply ax_D | apply ax_R | apply o303 | apply o307 | apply o302 | apply o301 | apply ax304 | apply ax305 | apply ax306 | apply ax308 | apply ax309 | apply ax310 | apply lt_S | apply ar305 | apply ar308 | apply ar309)) only [g81_0, g81_1, g81_4, g81_7, g81_9, g81_12, g81_13, g81_16, g81_17, g81_20, g81_23, g81_24, g81_27, g81_28, g81_31, g81_32, g81_33, g81_36, Option.toList, List.nil_append, List.cons_append, va_rf, e2, hk, ↓reduceIte]
  · have ex : xpart md k = (mdR 3 md, k) := if_neg hk
    rw [ex]
    obtain ⟨h', R, X', F'⟩ := x_ref (d := d) X (f := 3) (by decide) (by decide)
    refine ⟨h', fun Q => ?_, X', F'⟩
    simp (disch := first | with_reducible assumption | omega | exact Or.inl rfl | exact Or.inr rfl | exact bI_01 | exact c_cat | rfl | with_reducible repeat (first | assumption | omega | apply S_I | apply S_L | apply S_D | apply ob_I | apply ob_L | apply ob_D | apply ob_R | apply ax_I | apply ax_L | apply ax_D | apply ax_R | apply o303 | apply o307 | apply o302 | apply o301 | apply ax304 | apply ax305 | apply ax306 | apply ax308 | apply ax309 | apply ax310 | apply lt_S | apply ar305 | apply ar308 | apply ar309)) only [g81_0, g81_1, g81_4, g81_7, g81_9, g81_12, g81_13, g81_16, g81_17, g81_20, g81_23, g81_24, g81_27, g81_28, g81_31, g81_32, g81_33, g81_36, Option.toList, List.nil_append, List.cons_append, va_rf, e2, hk, ↓reduceIte, R _]
/-- tellOpen -/
def xopen (md : Nat ⊕ (Nat × Nat)) (o : Int32) : (Nat ⊕ (Nat × Nat)) × Int32 := if o < nI 10 then (md, o + nI 1) else (mdR 3 md, o)
theorem x_tellOpen (X : PX h t n md C P N F k o ln lp) : ∃ h', am_run (d + 1) 82 [some (.ref 301)] h none h' ∧ PX h' t n (xopen md o).1 C P N F k (xopen md o).2 ln lp ∧ XF h h' := by
  obtain ⟨S, T, L, hC, hP, hN, e1, e2, e3, -⟩ := id X
  by_cases hk : o < nI 10
  · have ex : xopen md o = (md, o + nI 1) := if_pos hk
    rw [ex]
    refine ⟨_, fun Q => ?_, PX_o X, XF_I XF_refl (by omega)⟩
    simp (disch := first | with_reducible assumption | omega | exact Or.inl rfl | exact Or.inr rfl | exact bI_01 | exact c_cat | rfl | with_reducible repeat (first | assumption | omega | apply S_I | apply S_L | apply S_D | apply ob_I | apply ob_L | apply ob_D | apply ob_R | apply ax_I | apply ax_L | apply ax_D | apply ax_R | apply o303 | apply o307 | apply o302 | apply o301 | apply ax304 | apply ax305 | apply ax306 | apply ax308 | apply ax309 | apply ax310 | apply lt_S | apply ar305 | apply ar308 | apply ar309)) only [g82_0, g82_1, g82_4, g82_6, g82_9, g82_10, g82_13, g82_14, g82_17, g82_20, g82_21, g82_22, g82_25, g82_26, g82_27, g82_30, Option.toList, List.nil_append, List.cons_append, va_rf, e3, hk, ↓reduceIte]
  · have ex : xopen md o = (mdR 3 md, o) := if_neg hk
    rw [ex]
    obtain ⟨h', R, X', F'⟩ := x_ref (d := d) X (f := 3) (by decide) (by decide)
    refine ⟨h', fun Q => ?_, X', F'⟩
    simp (disch := first | with_reducible assumption | omega | exact Or.inl rfl | exact Or.inr rfl | exact bI_01 | exact c_cat | rfl | with_reducible repeat (first | assumption | omega | apply S_I | apply S_L | apply S_D | apply ob_I | apply ob_L | apply ob_D | apply ob_R | apply ax_I | apply ax_L | apply ax_D | apply ax_R | apply o303 | apply o307 | apply o302 | apply o301 | apply ax304 | apply ax305 | apply ax306 | apply ax308 | apply ax309 | apply ax310 | apply lt_S | apply ar305 | apply ar308 | apply ar309)) only [g82_0, g82_1, g82_4, g82_6, g82_9, g82_10, g82_13, g82_14, g82_17, g82_20, g82_21, g82_22, g82_25, g82_26, g82_27, g82_30, Option.toList, List.nil_append, List.cons_append, va_rf, e3, hk, ↓reduceIte, R _]
/-- tellStep -/
theorem x_tellStep (X : PX h t n md C P N F k o ln lp) : ∃ h', am_run (d + 2) 80 [some (.ref 301)] h none h' ∧ PX h' t n (xpart md k).1 (xadd C (nI 0, lN 0)) P N F (xpart md k).2 o ln lp ∧ XF h h' := by
  obtain ⟨h1, R1, X1, F1⟩ := x_tellPart (d := d) X
  obtain ⟨h2, R2, X2, F2⟩ := x_add (d := d + 1) X1 (w := nI 0) (v := lN 0)
  have S := X.1
  have S1 := X1.1
  rw [show (nI 0).toInt8.toInt32 = nI 0 by decide] at X2 R2
  refine ⟨h2, fun Q => ?_, X2, XF_trans F1 (XF_303 F2)⟩
  simp (disch := first | with_reducible assumption | omega | exact Or.inl rfl | exact Or.inr rfl | exact bI_01 | exact c_cat | rfl | with_reducible repeat (first | assumption | omega | apply S_I | apply S_L | apply S_D | apply ob_I | apply ob_L | apply ob_D | apply ob_R | apply ax_I | apply ax_L | apply ax_D | apply ax_R | apply o303 | apply o307 | apply o302 | apply o301 | apply ax304 | apply ax305 | apply ax306 | apply ax308 | apply ax309 | apply ax310 | apply lt_S | apply ar305 | apply ar308 | apply ar309)) only [g80_0, g80_1, g80_4, g80_5, g80_8, g80_9, g80_10, g80_13, g80_14, Option.toList, List.nil_append, List.cons_append, va_rf, R1 _, R2 _]
/-- later -/
def xlat (ln lp : Int32) (f p : Int32) : Int32 × Int32 := if lp = -1 ∨ p < lp then (f, p) else (ln, lp)
theorem x_later (X : PX h t n md C P N F k o ln lp) {f p : Int32} : ∃ h', am_run d 88 [some (.ref 301), some (.int f), some (.int p)] h none h' ∧ PX h' t n md C P N F k o (xlat ln lp f p).1 (xlat ln lp f p).2 ∧ XF h h' := by
  obtain ⟨S, T, L, hC, hP, hN, e1, e2, e3, e4, e5⟩ := id X
  by_cases h1 : lp = -1
  · have ex : xlat ln lp f p = (f, p) := if_pos (Or.inl h1)
    rw [ex]
    refine ⟨_, fun Q => ?_, PX_l X, XF_I (XF_I XF_refl (by omega)) (by omega)⟩
    simp (disch := first | with_reducible assumption | omega | exact Or.inl rfl | exact Or.inr rfl | exact bI_01 | exact c_cat | rfl | with_reducible repeat (first | assumption | omega | apply S_I | apply S_L | apply S_D | apply ob_I | apply ob_L | apply ob_D | apply ob_R | apply ax_I | apply ax_L | apply ax_D | apply ax_R | apply o303 | apply o307 | apply o302 | apply o301 | apply ax304 | apply ax305 | apply ax306 | apply ax308 | apply ax309 | apply ax310 | apply lt_S | apply ar305 | apply ar308 | apply ar309)) only [g88_0, g88_1, g88_4, g88_5, g88_8, g88_9, g88_10, g88_13, g88_16, g88_17, g88_18, g88_21, g88_22, g88_23, g88_26, e5, h1, ↓reduceIte]
  · by_cases h2 : p < lp
    · have ex : xlat ln lp f p = (f, p) := if_pos (Or.inr h2)
      rw [ex]
      refine ⟨_, fun Q => ?_, PX_l X, XF_I (XF_I XF_refl (by omega)) (by omega)⟩
      simp (disch := first | with_reducible assumption | omega | exact Or.inl rfl | exact Or.inr rfl | exact bI_01 | exact c_cat | rfl | with_reducible repeat (first | assumption | omega | apply S_I | apply S_L | apply S_D | apply ob_I | apply ob_L | apply ob_D | apply ob_R | apply ax_I | apply ax_L | apply ax_D | apply ax_R | apply o303 | apply o307 | apply o302 | apply o301 | apply ax304 | apply ax305 | apply ax306 | apply ax308 | apply ax309 | apply ax310 | apply lt_S | apply ar305 | apply ar308 | apply ar309)) only [g88_0, g88_1, g88_4, g88_5, g88_8, g88_9, g88_10, g88_13, g88_16, g88_17, g88_18, g88_21, g88_22, g88_23, g88_26, e5, h1, h2, ↓reduceIte, Int32.not_le.mpr h2]
    · have ex : xlat ln lp f p = (ln, lp) := if_neg (fun q => q.elim h1 h2)
      rw [ex]
      refine ⟨h, fun Q => ?_, X, XF_refl⟩
      simp (disch := first | with_reducible assumption | omega | exact Or.inl rfl | exact Or.inr rfl | exact bI_01 | exact c_cat | rfl | with_reducible repeat (first | assumption | omega | apply S_I | apply S_L | apply S_D | apply ob_I | apply ob_L | apply ob_D | apply ob_R | apply ax_I | apply ax_L | apply ax_D | apply ax_R | apply o303 | apply o307 | apply o302 | apply o301 | apply ax304 | apply ax305 | apply ax306 | apply ax308 | apply ax309 | apply ax310 | apply lt_S | apply ar305 | apply ar308 | apply ar309)) only [g88_0, g88_1, g88_4, g88_5, g88_8, g88_9, g88_10, g88_13, g88_16, g88_17, g88_18, g88_21, g88_22, g88_23, g88_26, e5, h1, ↓reduceIte, Int32.not_lt.mp h2]
end XOP

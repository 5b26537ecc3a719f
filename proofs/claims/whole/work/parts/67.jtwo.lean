/-! BOTH PARSERS: levels (by wip/whole/gen_two.py) -/
def JR (t : Nat → Nat) (n so s vis on na nc nf : Nat) (oX oM : Int64) (agX agM cnX cnM fnX fnM : Nat → Int64) (fnA : Nat → Nat) (lx lm : am_Lo) (mx mm D f : Nat) : Prop := ∀ hx hm q C P N F k o m ltx ltm, 11 ≤ f + o → JS t n so s vis on na nc nf oX oM agX agM cnX cnM fnX fnM fnA hx hm q C P N F k o m ltx ltm → ∃ hx' hm' mr, am_run D mx lx hx none hx' ∧ am_run D mm lm hm (some (.int mr)) hm' ∧ JP t n so on na vis oM agM cnM fnM hx hm hx' hm' q C P N F k o m ltx ltm mr
def lxA : am_Lo := [some (.ref 301)]
def lxL (j : Nat) : am_Lo := [some (.ref 301), some (.int (nI j)), none, none, none, none, none]
def lm1 : am_Lo := [some (.ref 349), none]
def lm3 : am_Lo := [some (.ref 349), none, none, none]
theorem JR_D {D D' f mx mm : Nat} {lx lm : am_Lo} {t : Nat → Nat} {n so s vis on na nc nf : Nat} {oX oM : Int64} {agX agM cnX cnM fnX fnM : Nat → Int64} {fnA : Nat → Nat} (h : JR t n so s vis on na nc nf oX oM agX agM cnX cnM fnX fnM fnA lx lm mx mm D f) (hD : D ≤ D') : JR t n so s vis on na nc nf oX oM agX agM cnX cnM fnX fnM fnA lx lm mx mm D' f := by
  intro hx hm q C P N F k o m ltx ltm hf J
  obtain ⟨hx', hm', mr, r1, r2, r3⟩ := h hx hm q C P N F k o m ltx ltm hf J
  exact ⟨hx', hm', mr, am_runD r1 hD, am_runD r2 hD, r3⟩
section JTW
variable {so s vis on na nc nf : Nat} {oX oM : Int64} {agX agM cnX cnM fnX fnM : Nat → Int64} {fnA : Nat → Nat} {t : Nat → Nat} {n : Nat} {D f : Nat}
theorem J_l3 (h : JR t n so s vis on na nc nf oX oM agX agM cnX cnM fnX fnM fnA lxA lm1 78 214 D f) : JR t n so s vis on na nc nf oX oM agX agM cnX cnM fnX fnM fnA (lxL 3) lm1 77 214 (D + 1) f := by
  intro hx hm q C P N F k o m ltx ltm hf J
  obtain ⟨hx', hm', mr, r1, r2, r3⟩ := h hx hm q C P N F k o m ltx ltm hf J
  have S : am_S hx := by
    obtain ⟨⟨lnx, lpx, X, -⟩, -⟩ := J
    exact X.1
  refine ⟨hx', hm', mr, fun Q => ?_, am_runD r2 (by omega), r3⟩
  unfold lxL
  unfold lxA at r1
  simp (disch := first | with_reducible assumption | omega | exact Or.inl rfl | exact Or.inr rfl | exact bI_01 | exact c_cat | exact vt_ref | exact vt_null | rfl | with_reducible repeat (first | assumption | omega | apply S_I | apply S_L | apply S_D | apply ob_I | apply ob_L | apply ob_D | apply ob_R | apply ax_I | apply ax_L | apply ax_D | apply ax_R | apply o303 | apply o307 | apply o302 | apply o301 | apply ax304 | apply ax305 | apply ax306 | apply ax308 | apply ax309 | apply ax310 | apply lt_S | apply ar305 | apply ar308 | apply ar309)) only [g77_0, g77_1, g77_2, g77_5, g77_6, g77_9, nI_ltI, nI_leI, nI_eq, nI_add, nI_sub, nI_lt0, nI_e0, nI_m1, m1_nI, Nat.reduceEqDiff, Nat.reduceLT, Nat.reduceLeDiff, Nat.reduceAdd, Nat.reduceSub, Nat.reduceMul, ↓reduceIte, eq_self, Option.toList, List.nil_append, List.cons_append, va_rf, r1 _, Nat.lt_irrefl]
theorem lx_sgn {q : Nat} (hK : lx_K t n q ∈ [37, 42, 43, 45, 47, 60, 61, 256, 257]) : tx t q (lx_E t n q - q) = sgN (msgn (lx_K t n q)) ∧ (∀ i, i < lx_E t n q - q → t (q + i) < 128) := by
  have hne : lx_K t n q ≠ 262 := fun e => by rw [e] at hK; exact absurd hK (by decide)
  have h0 : ¬ n ≤ q := by have := lx_K_lt hne; omega
  have hl : isL (t q) = false := by
    cases h1 : isL (t q) with
    | false => rfl
    | true =>
      exfalso
      unfold lx_K at hK
      rw [if_neg h0, if_pos h1] at hK
      split at hK <;> exact absurd hK (by decide)
  have hg : isG (t q) = false := by
    cases h1 : isG (t q) with
    | false => rfl
    | true =>
      exfalso
      unfold lx_K at hK
      rw [if_neg h0, if_neg (by rw [hl]; decide), if_pos h1] at hK
      split at hK <;> split at hK <;> exact absurd hK (by decide)
  have hA : ¬ (65 ≤ t q ∧ t q ≤ 68) := fun h1 => by
    unfold lx_K at hK
    rw [if_neg h0, if_neg (by rw [hl]; decide), if_neg (by rw [hg]; decide), if_pos h1] at hK
    split at hK <;> exact absurd hK (by decide)
  by_cases h61 : t q = 60 ∧ q + 1 < n ∧ t (q + 1) = 61
  · have e1 : lx_K t n q = 256 := by simp only [lx_K, h0, hl, hg, hA, h61, and_self, ↓reduceIte, Bool.false_eq_true]; rfl
    have e2 : lx_E t n q = q + 2 := by simp only [lx_E, h0, hl, hg, hA, h61, and_self, ↓reduceIte, Bool.false_eq_true, true_or]; rfl
    rw [e1, e2, show q + 2 - q = 2 by omega]
    refine ⟨?_, fun i hi => ?_⟩
    · rw [tx_succ, tx_succ, h61.1, h61.2.2]; rfl
    · rcases (show i = 0 ∨ i = 1 by omega) with rfl | rfl
      · rw [Nat.add_zero, h61.1]; decide
      · rw [h61.2.2]; decide
  · by_cases h62 : t q = 60 ∧ q + 1 < n ∧ t (q + 1) = 62
    · have e1 : lx_K t n q = 257 := by simp only [lx_K, h0, hl, hg, hA, h62, and_self, ↓reduceIte, Bool.false_eq_true, Nat.reduceEqDiff, and_false]; rfl
      have e2 : lx_E t n q = q + 2 := by simp only [lx_E, h0, hl, hg, hA, h62, and_self, ↓reduceIte, Bool.false_eq_true, or_true]; rfl
      rw [e1, e2, show q + 2 - q = 2 by omega]
      refine ⟨?_, fun i hi => ?_⟩
      · rw [tx_succ, tx_succ, h62.1, h62.2.2]; rfl
      · rcases (show i = 0 ∨ i = 1 by omega) with rfl | rfl
        · rw [Nat.add_zero, h62.1]; decide
        · rw [h62.2.2]; decide
    · have h63 : ¬ (t q = 60 ∧ q + 1 < n ∧ (t (q + 1) = 61 ∨ t (q + 1) = 62)) := fun x => x.2.2.elim (fun y => h61 ⟨x.1, x.2.1, y⟩) (fun y => h62 ⟨x.1, x.2.1, y⟩)
      have e1 : lx_K t n q = if lx_sg (t q) = true then t q else 263 := by simp only [lx_K, h0, hl, hg, hA, h61, h62, ↓reduceIte, Bool.false_eq_true]
      have e2 : lx_E t n q = q + 1 := by simp only [lx_E, h0, hl, hg, hA, h63, ↓reduceIte, Bool.false_eq_true]
      have hs : lx_sg (t q) = true := by
        cases h5 : lx_sg (t q) with
        | true => rfl
        | false =>
          rw [e1, h5] at hK
          simp only [Bool.false_eq_true, ↓reduceIte] at hK
          exact absurd hK (by decide)
      rw [hs, if_pos rfl] at e1
      have hm : t q ∈ [37, 40, 41, 42, 43, 44, 45, 47, 58, 60, 61] := of_decide_eq_true hs
      simp only [List.mem_cons, List.not_mem_nil, or_false] at hm
      rw [e1, e2, show q + 1 - q = 1 by omega]
      refine ⟨?_, fun i hi => ?_⟩
      · rw [tx_succ]
        have : msgn (t q) = t q := by unfold msgn; rw [if_neg (by omega), if_neg (by omega)]
        rw [this]
        unfold sgN
        rw [if_neg (by omega), if_neg (by omega)]; rfl
      · obtain rfl : i = 0 := by omega
        rw [Nat.add_zero]; omega
theorem mgO_bd {W W3 : Option (Nat × Nat)} {a b c e : Nat} (h1 : ∀ z, W = some z → a ≤ z.2 ∧ z.2 < b) (h2 : ∀ z, W3 = some z → c ≤ z.2 ∧ z.2 < e) (h3 : a ≤ c) (h4 : b ≤ e) : ∀ z, mgO W W3 = some z → a ≤ z.2 ∧ z.2 < e := by
  intro z hz
  cases W3 with
  | none =>
    have := h1 z hz
    omega
  | some y =>
    have hy := h2 y rfl
    cases W with
    | none =>
      have hz : some (y.1, y.2) = some z := hz
      cases hz
      exact ⟨by show a ≤ y.2; omega, hy.2⟩
    | some x =>
      have hx := h1 x rfl
      have hz : (if y.2 < x.2 then some (y.1, y.2) else some x) = some z := hz
      split at hz
      · cases hz; exact ⟨by show a ≤ y.2; omega, hy.2⟩
      · cases hz; exact ⟨hx.1, by omega⟩
theorem bx_rk3 {d : Nat} (_ : 1 ≤ d) {h : am_H} {y : Nat × Nat} (B : BX h t n y) : ∃ h', am_run (d + 3) 77 [some (.ref 301), some (.int (nI 3)), none, none, none, none, none] h none h' ∧ BX h' t n y ∧ XF h h' := bx_l3 (d := d + 1) B
theorem bm_sub214 {d : Nat} {h : am_H} {Q : Option Value → am_H → Prop} {y : Nat × Nat} {m : Nat} (B : BM h t n y m) : am_J (d + 3) 214 0 [some (.ref 349), none] [] h Q ↔ Q (some (.int (nI 0))) h := bm_atom B
/-- one turn of level 2 on both sides -/
theorem J_turn2 {e : Nat} (he : 1 ≤ e) (Sub : JR t n so s vis on na nc nf oX oM agX agM cnX cnM fnX fnM fnA (lxL 3) lm1 77 214 (e + 3) f) {hx hm : am_H} {q : Nat} {C : List (Int32 × Int64)} {P : List Int32} {N : List Nat} {F : Int32} {k o m : Nat} {ltx ltm : Option (Nat × Nat)} (hf : 11 ≤ f + o) (J : JS t n so s vis on na nc nf oX oM agX agM cnX cnM fnX fnM fnA hx hm q C P N F k o m ltx ltm) {hx1 hm1 : am_H} {q1 : Nat} {C1 : List (Int32 × Int64)} {P1 : List Int32} {N1 : List Nat} {F1 : Int32} {k1 m1 : Nat} {W : Option (Nat × Nat)} {r : Nat} {lnx lpx lnm lpm : Int32} (Fx1 : XF hx hx1) (Fm1 : MF hm hm1 m) (g1 : q < q1 ∧ k < k1 ∧ k1 ≤ 40 ∧ m ≤ m1 ∧ m1 ≤ m + (k1 - k) ∧ r < m1 ∧ C1.length ≤ C.length + 3 * (k1 - k) ∧ P1.length ≤ P.length + (q1 - q) + 2 * (k1 - k) ∧ C.length ≤ C1.length ∧ P.length ≤ P1.length) (X1 : PX hx1 t n (.inl q1) C1 P1 N1 F1 (nI k1) (nI o) lnx lpx) (LX1 : LT lnx lpx (mgO ltx W)) (Y1 : MX hm1 t n (.inl q1) (nI k1) (nI o) m1 lnm lpm) (LM1 : LT lnm lpm (mgO ltm W)) (hW : ∀ z, W = some z → q ≤ z.2 ∧ z.2 < q1) (hR : W = none → ∃ D E L G, (Rp (decide (so = 2)) (knO so na vis) (tb hm1 3648) m1 (pNm so agM cnM) (pFm so on oM fnM) (k1 - k + 41 * (10 - o)) r D E L G ∧ NC (tb hm1 3648) m m1 G) ∧ C1 = C ++ D ∧ P1 = P ++ E.map nI ∧ N1 = L.foldl nadd N ∧ F1 = G.foldl gF F) (hK : lx_K t n q1 = 42 ∨ lx_K t n q1 = 47 ∨ lx_K t n q1 = 37) {most : Int32} {turn : Nat} (ht : nI turn < most) {v6 v2 v3 : Option Value} :
    ∃ hx2 hm2 mr2 w6 w2 w3, (∀ Q, am_J (e + 4) 77 51 [some (.ref 301), some (.int (nI 2)), some (.int (nI C.length)), some (.int (nI P.length)), some (.int most), some (.int (nI turn)), v6] [] hx1 Q ↔ am_J (e + 4) 77 51 [some (.ref 301), some (.int (nI 2)), some (.int (nI C.length)), some (.int (nI P.length)), some (.int most), some (.int (nI (turn + 1))), w6] [] hx2 Q) ∧ (∀ Q, am_J (e + 4) 213 5 [some (.ref 349), some (.int (nI r)), v2, v3] [] hm1 Q ↔ am_J (e + 4) 213 5 [some (.ref 349), some (.int mr2), w2, w3] [] hm2 Q) ∧ XF hx hx2 ∧ MF hm hm2 m ∧
      ((∃ y, BX hx2 t n y ∧ BM hm2 t n y m) ∨ ∃ q' C' P' N' F' k' m' W' r' lnx lpx lnm lpm, (q < q' ∧ k1 < k' ∧ k' ≤ 40 ∧ m ≤ m' ∧ m' ≤ m + (k' - k) ∧ r' < m' ∧ C'.length ≤ C.length + 3 * (k' - k) ∧ P'.length ≤ P.length + (q' - q) + 2 * (k' - k) ∧ C.length ≤ C'.length ∧ P.length ≤ P'.length) ∧ mr2 = nI r' ∧ PX hx2 t n (.inl q') C' P' N' F' (nI k') (nI o) lnx lpx ∧ LT lnx lpx (mgO ltx W') ∧ MX hm2 t n (.inl q') (nI k') (nI o) m' lnm lpm ∧ LT lnm lpm (mgO ltm W') ∧ (∀ z, W' = some z → q ≤ z.2 ∧ z.2 < q') ∧ (W' = none → ∃ D E L G, (Rp (decide (so = 2)) (knO so na vis) (tb hm2 3648) m' (pNm so agM cnM) (pFm so on oM fnM) (k' - k + 41 * (10 - o)) r' D E L G ∧ NC (tb hm2 3648) m m' G) ∧ C' = C ++ D ∧ P' = P ++ E.map nI ∧ N' = L.foldl nadd N ∧ F' = G.foldl gF F)) := by
  obtain ⟨-, -, Gv, KX, KM, KR, hC, hP, hmk, hk, ho, hq, hn⟩ := J
  obtain ⟨b1, b2, b3, b4, b5, b6, b7, b8, b9, b10⟩ := g1
  have KX1 := cfX_XF Fx1 KX
  have KM1 := cfM_MF Fm1 KM
  have hq1 : q1 < n := lx_K_lt (by rcases hK with hK | hK | hK <;> rw [hK] <;> decide)
  have hop : lx_K t n q1 ∈ [37, 42, 43, 45, 47, 60, 61, 256, 257] := by rcases hK with hK | hK | hK <;> rw [hK] <;> decide
  have hrk : rkI (lx_K t n q1) = nI 2 := by rcases hK with hK | hK | hK <;> rw [hK] <;> decide
  have hsg : msgn (lx_K t n q1) ∈ [43, 45, 42, 47, 37, 60, 76, 61, 78] := by rcases hK with hK | hK | hK <;> rw [hK] <;> decide
  have hop2 : opN (msgn (lx_K t n q1)) < 128 := by rcases hK with hK | hK | hK <;> rw [hK] <;> decide
  have hEt : tx t q1 (lx_E t n q1 - q1) = sgN (msgn (lx_K t n q1)) ∧ (∀ i, i < lx_E t n q1 - q1 → t (q1 + i) < 128) := lx_sgn hop
  have hEle := lx_E_le X1.2.2.1.2.2.1 X1.2.2.1.2.1
  have hEg := lx_E_gt (t := t) hq1
  have m5 : mtok (lx_K t n q1) = 5 := by rcases hK with hK | hK | hK <;> rw [hK] <;> decide
  -- the class up to the operand
  obtain ⟨h2, P2, W2, F2, X2, eP2⟩ := x_iter1 (d := e) (v6 := v6) X1 b3 hrk hop b9 b10 ht
  have Fx2 := XF_trans Fx1 F2
  have Gv2 : am_Gv h2 := Gv_fr Fx2.1 (by unfold rX; omega) (by unfold rX; omega) (by unfold rX; omega) Gv
  have S2 := X2.1
  -- the model up to the operand
  obtain ⟨SM, GM, TM, ⟨⟨l1, l2, l3, l4⟩, lk, lq, f22, f4⟩, -⟩ := id Y1
  have ls := l4 m5
  obtain ⟨m2, p2, Y2, G2⟩ := m_part (d := e + 2) Y1 (p := nI q1) (fun q' e => by cases e; rfl)
  rw [nI_add] at Y2
  have SM2 := Y2.1
  have Fm2 := MF_trans Fm1 G2 (by omega)
  obtain ⟨m3, p3, Y3, G3⟩ := m_nx (d := e) (v1 := none) Y2
  have SM3 := Y3.1
  have Fm3 := MF_trans Fm2 G3 (by omega)
  have s42 := fun Q => m_sign (d := e + 3) (Q := Q) Y1 (v := 42) (by decide)
  have s47 := fun Q => m_sign (d := e + 3) (Q := Q) Y1 (v := 47) (by decide)
  have s37 := fun Q => m_sign (d := e + 3) (Q := Q) Y1 (v := 37) (by decide)
  have WM : ∀ Q, am_J (e + 4) 213 5 [some (.ref 349), some (.int (nI r)), v2, v3] [] hm1 Q ↔ am_J (e + 4) 213 49 [some (.ref 349), some (.int (nI r)), some (.int (nI (msgn (lx_K t n q1)))), v3] [] m3 Q := by
    intro Q
    rw [g213_5]
    rcases hK with hK | hK | hK
    · simp only [show mdK t n (.inl q1) = 42 from hK] at s42 s47 s37
      rw [hK] at ls ⊢
      simp (disch := first | with_reducible assumption | omega | exact Or.inl rfl | exact Or.inr rfl | exact bI_01 | exact c_cat | exact vt_ref | exact vt_null | rfl | with_reducible repeat (first | assumption | omega | apply S_I | apply S_L | apply S_D | apply ob_I | apply ob_L | apply ob_D | apply ob_R | apply ax_I | apply ax_L | apply ax_D | apply ax_R | apply o303 | apply o307 | apply o302 | apply o301 | apply ax304 | apply ax305 | apply ax306 | apply ax308 | apply ax309 | apply ax310 | apply lt_S | apply ar305 | apply ar308 | apply ar309)) only [g213_6, g213_8, g213_11, g213_14, g213_15, g213_17, g213_20, g213_23, g213_24, g213_26, g213_29, g213_32, g213_33, g213_36, g213_37, g213_38, g213_39, g213_42, g213_45, g213_46, s42, s47, s37, Option.toList, List.nil_append, List.cons_append, va_rf, nI_ltI, nI_leI, nI_eq, nI_add, nI_sub, nI_lt0, nI_e0, nI_m1, m1_nI, Nat.reduceEqDiff, Nat.reduceLT, Nat.reduceLeDiff, Nat.reduceAdd, Nat.reduceSub, Nat.reduceMul, ↓reduceIte, eq_self, bI, mcode, decide_true, decide_false, Nat.reduceEqDiff, Bool.false_eq_true, ls, msgn, l3, p2 _, p3 _]
    · simp only [show mdK t n (.inl q1) = 47 from hK] at s42 s47 s37
      rw [hK] at ls ⊢
      simp (disch := first | with_reducible assumption | omega | exact Or.inl rfl | exact Or.inr rfl | exact bI_01 | exact c_cat | exact vt_ref | exact vt_null | rfl | with_reducible repeat (first | assumption | omega | apply S_I | apply S_L | apply S_D | apply ob_I | apply ob_L | apply ob_D | apply ob_R | apply ax_I | apply ax_L | apply ax_D | apply ax_R | apply o303 | apply o307 | apply o302 | apply o301 | apply ax304 | apply ax305 | apply ax306 | apply ax308 | apply ax309 | apply ax310 | apply lt_S | apply ar305 | apply ar308 | apply ar309)) only [g213_6, g213_8, g213_11, g213_14, g213_15, g213_17, g213_20, g213_23, g213_24, g213_26, g213_29, g213_32, g213_33, g213_36, g213_37, g213_38, g213_39, g213_42, g213_45, g213_46, s42, s47, s37, Option.toList, List.nil_append, List.cons_append, va_rf, nI_ltI, nI_leI, nI_eq, nI_add, nI_sub, nI_lt0, nI_e0, nI_m1, m1_nI, Nat.reduceEqDiff, Nat.reduceLT, Nat.reduceLeDiff, Nat.reduceAdd, Nat.reduceSub, Nat.reduceMul, ↓reduceIte, eq_self, bI, mcode, decide_true, decide_false, Nat.reduceEqDiff, Bool.false_eq_true, ls, msgn, l3, p2 _, p3 _]
    · simp only [show mdK t n (.inl q1) = 37 from hK] at s42 s47 s37
      rw [hK] at ls ⊢
      simp (disch := first | with_reducible assumption | omega | exact Or.inl rfl | exact Or.inr rfl | exact bI_01 | exact c_cat | exact vt_ref | exact vt_null | rfl | with_reducible repeat (first | assumption | omega | apply S_I | apply S_L | apply S_D | apply ob_I | apply ob_L | apply ob_D | apply ob_R | apply ax_I | apply ax_L | apply ax_D | apply ax_R | apply o303 | apply o307 | apply o302 | apply o301 | apply ax304 | apply ax305 | apply ax306 | apply ax308 | apply ax309 | apply ax310 | apply lt_S | apply ar305 | apply ar308 | apply ar309)) only [g213_6, g213_8, g213_11, g213_14, g213_15, g213_17, g213_20, g213_23, g213_24, g213_26, g213_29, g213_32, g213_33, g213_36, g213_37, g213_38, g213_39, g213_42, g213_45, g213_46, s42, s47, s37, Option.toList, List.nil_append, List.cons_append, va_rf, nI_ltI, nI_leI, nI_eq, nI_add, nI_sub, nI_lt0, nI_e0, nI_m1, m1_nI, Nat.reduceEqDiff, Nat.reduceLT, Nat.reduceLeDiff, Nat.reduceAdd, Nat.reduceSub, Nat.reduceMul, ↓reduceIte, eq_self, bI, mcode, decide_true, decide_false, Nat.reduceEqDiff, Bool.false_eq_true, ls, msgn, l3, p2 _, p3 _]
  -- a fault ahead of the operand
  have bad : ∀ y, BX h2 t n y → BM m3 t n y m → ∃ hx2 hm2 mr2 w6 w2 w3, (∀ Q, am_J (e + 4) 77 51 [some (.ref 301), some (.int (nI 2)), some (.int (nI C.length)), some (.int (nI P.length)), some (.int most), some (.int (nI turn)), v6] [] hx1 Q ↔ am_J (e + 4) 77 51 [some (.ref 301), some (.int (nI 2)), some (.int (nI C.length)), some (.int (nI P.length)), some (.int most), some (.int (nI (turn + 1))), w6] [] hx2 Q) ∧ (∀ Q, am_J (e + 4) 213 5 [some (.ref 349), some (.int (nI r)), v2, v3] [] hm1 Q ↔ am_J (e + 4) 213 5 [some (.ref 349), some (.int mr2), w2, w3] [] hm2 Q) ∧ XF hx hx2 ∧ MF hm hm2 m ∧ (∃ y, BX hx2 t n y ∧ BM hm2 t n y m) := by
    intro y B BB
    obtain ⟨h3, r3, B3, F3⟩ := bx_rk3 (d := e) he B
    obtain ⟨C3, P3, N3, F3', k3, o3, ln3, lp3, X3⟩ := id B3
    obtain ⟨h4, W4, F4, X4⟩ := x_iter2 (d := e + 3) (v1 := some (.int (nI 2))) (v2 := some (.int (nI C.length))) (v3 := some (.int (nI P.length))) (j := 2) X3 hop2 (most := most) (turn := turn)
    obtain ⟨m4, w4, p4, -, -, B4, G4⟩ := bm_node (d := e + 3) (v5 := none) BB (kd := nI 6) (x := nI (msgn (lx_K t n q1))) (y' := nI r) (z := nI 0)
    have SM4 := (bm_S B4).1
    refine ⟨h4, m4, nI w4, some (.int (nI (opN (msgn (lx_K t n q1))))), some (.int (nI (msgn (lx_K t n q1)))), some (.int (nI 0)), fun Q => ?_, fun Q => ?_, XF_trans Fx2 (XF_trans F3 F4), MF_trans Fm3 G4 (Nat.le_refl _), y, BX_of X4, B4⟩
    · rw [W2, ← W4]
      simp (disch := first | with_reducible assumption | omega | exact Or.inl rfl | exact Or.inr rfl | exact bI_01 | exact c_cat | exact vt_ref | exact vt_null | rfl | with_reducible repeat (first | assumption | omega | apply S_I | apply S_L | apply S_D | apply ob_I | apply ob_L | apply ob_D | apply ob_R | apply ax_I | apply ax_L | apply ax_D | apply ax_R | apply o303 | apply o307 | apply o302 | apply o301 | apply ax304 | apply ax305 | apply ax306 | apply ax308 | apply ax309 | apply ax310 | apply lt_S | apply ar305 | apply ar308 | apply ar309)) only [g77_127, g77_128, g77_129, g77_130, g77_131, Option.toList, List.nil_append, List.cons_append, va_rf, nI_ltI, nI_leI, nI_eq, nI_add, nI_sub, nI_lt0, nI_e0, nI_m1, m1_nI, Nat.reduceEqDiff, Nat.reduceLT, Nat.reduceLeDiff, Nat.reduceAdd, Nat.reduceSub, Nat.reduceMul, ↓reduceIte, eq_self, r3 _]
    · rw [WM]
      simp (disch := first | with_reducible assumption | omega | exact Or.inl rfl | exact Or.inr rfl | exact bI_01 | exact c_cat | exact vt_ref | exact vt_null | rfl | with_reducible repeat (first | assumption | omega | apply S_I | apply S_L | apply S_D | apply ob_I | apply ob_L | apply ob_D | apply ob_R | apply ax_I | apply ax_L | apply ax_D | apply ax_R | apply o303 | apply o307 | apply o302 | apply o301 | apply ax304 | apply ax305 | apply ax306 | apply ax308 | apply ax309 | apply ax310 | apply lt_S | apply ar305 | apply ar308 | apply ar309)) only [g213_49, g213_50, g213_53, g213_54, g213_55, g213_57, g213_58, g213_59, g213_60, g213_63, g213_64, Option.toList, List.nil_append, List.cons_append, va_rf, bm_sub214 (d := e) BB, p4 _]
  by_cases c40 : k1 < 40
  · rw [if_pos c40, if_pos c40] at X2
    rw [mpart_good c40] at Y2 Y3
    match hA : mdA t n (.inl q1) with
    | .inr y =>
      rw [hA] at X2 Y3
      obtain ⟨a1, a2, a3, a4, a5, a6, a7, a8, a9, a10, a11⟩ := bad y (BX_of X2) (BM_of Y3 (by omega))
      exact ⟨a1, a2, a3, a4, a5, a6, a7, a8, a9, a10, Or.inl a11⟩
    | .inl q2 =>
      rw [hA] at X2 Y3
      obtain ⟨g4, g5, g6⟩ := mdA_gt hq1 hA
      have hq2 : q2 ≤ n := X2.2.2.1.2.2.1
      have eC2 : xins (C1.take C.length) (C1.drop C.length) = C1.take C.length ++ ST :: C1.drop C.length := if_pos (by rw [List.take_append_drop]; omega)
      have eP2' := eP2 c40
      have eP3 : xpin (P1.take P.length) (P1.drop P.length) (nI 40) = P1.take P.length ++ nI 40 :: P1.drop P.length := by
        unfold xpin; rw [if_pos (by rw [List.take_append_drop]; omega), by8_nI 40 (by decide)]
      have lC2 : (xins (C1.take C.length) (C1.drop C.length)).length = C1.length + 1 := by
        rw [eC2]; simp; omega
      have lP3 : (xpin (P1.take P.length) (P1.drop P.length) (nI 40)).length = P1.length + 1 := by
        rw [eP3]; simp; omega
      have lP2 := xcop_len (t := t) (n := n) (lx_E t n q1 - q1) q1 (xpin (P1.take P.length) (P1.drop P.length) (nI 40))
      have lP2' := xcop_ge (t := t) (n := n) (lx_E t n q1 - q1) q1 (xpin (P1.take P.length) (P1.drop P.length) (nI 40))
      rw [← eP2'] at lP2 lP2'
      obtain ⟨hx3, hm3, mr3, rx3, rm3, Fx3, Fm4, J3⟩ := Sub h2 m3 q2 _ P2 N1 F1 (k1 + 1) o m1 (mgO ltx W) (mgO ltm W) hf ⟨⟨lnx, lpx, X2, LX1⟩, ⟨lnm, lpm, Y3, LM1⟩, Gv2, cfX_XF F2 KX1, cfM_MF (MF_trans G2 G3 (Nat.le_refl _)) KM1, KR, by omega, by omega, by omega, by omega, ho, hq2, hn⟩
      have Fx3' := XF_trans Fx2 Fx3
      have Fm4' := MF_trans Fm3 Fm4 b4
      unfold lxL at rx3
      unfold lm1 at rm3
      have wr : ∀ h4 (m4 : am_H), XF hx3 h4 → True := fun _ _ _ => trivial
      rcases J3 with ⟨y, B3, BB3⟩ | ⟨q3, C3, P3, N3, F3, k3, m4, W3, r3, lnx3, lpx3, lnm3, lpm3, ⟨c1, c2, c3, c4, c5, c6, c7, c8, c9, c10⟩, e3, X3, LX3, Y4, LM3, hW3, hR3⟩
      · obtain ⟨C3, P3, N3, F3', k3, o3, ln3, lp3, X3⟩ := id B3
        obtain ⟨h4, W4, F4, X4⟩ := x_iter2 (d := e + 3) (v1 := some (.int (nI 2))) (v2 := some (.int (nI C.length))) (v3 := some (.int (nI P.length))) (j := 2) X3 hop2 (most := most) (turn := turn)
        have BB3' : BM hm3 t n y m := by
          obtain ⟨z1, z2, z3, z4, z5, z6, z7⟩ := BB3
          exact ⟨z1, z2, z3, z4, z5, by omega, z7⟩
        obtain ⟨m5, w5, p5, -, -, B5, G5⟩ := bm_node (d := e + 3) (v5 := none) BB3' (kd := nI 6) (x := nI (msgn (lx_K t n q1))) (y' := nI r) (z := mr3)
        have SMh := (bm_S BB3').1
        refine ⟨h4, m5, nI w5, some (.int (nI (opN (msgn (lx_K t n q1))))), some (.int (nI (msgn (lx_K t n q1)))), some (.int mr3), fun Q => ?_, fun Q => ?_, XF_trans Fx3' F4, MF_trans Fm4' G5 (Nat.le_refl _), Or.inl ⟨y, BX_of X4, B5⟩⟩
        · rw [W2, ← W4]
          simp (disch := first | with_reducible assumption | omega | exact Or.inl rfl | exact Or.inr rfl | exact bI_01 | exact c_cat | exact vt_ref | exact vt_null | rfl | with_reducible repeat (first | assumption | omega | apply S_I | apply S_L | apply S_D | apply ob_I | apply ob_L | apply ob_D | apply ob_R | apply ax_I | apply ax_L | apply ax_D | apply ax_R | apply o303 | apply o307 | apply o302 | apply o301 | apply ax304 | apply ax305 | apply ax306 | apply ax308 | apply ax309 | apply ax310 | apply lt_S | apply ar305 | apply ar308 | apply ar309)) only [g77_127, g77_128, g77_129, g77_130, g77_131, Option.toList, List.nil_append, List.cons_append, va_rf, nI_ltI, nI_leI, nI_eq, nI_add, nI_sub, nI_lt0, nI_e0, nI_m1, m1_nI, Nat.reduceEqDiff, Nat.reduceLT, Nat.reduceLeDiff, Nat.reduceAdd, Nat.reduceSub, Nat.reduceMul, ↓reduceIte, eq_self, rx3 _]
        · rw [WM]
          simp (disch := first | with_reducible assumption | omega | exact Or.inl rfl | exact Or.inr rfl | exact bI_01 | exact c_cat | exact vt_ref | exact vt_null | rfl | with_reducible repeat (first | assumption | omega | apply S_I | apply S_L | apply S_D | apply ob_I | apply ob_L | apply ob_D | apply ob_R | apply ax_I | apply ax_L | apply ax_D | apply ax_R | apply o303 | apply o307 | apply o302 | apply o301 | apply ax304 | apply ax305 | apply ax306 | apply ax308 | apply ax309 | apply ax310 | apply lt_S | apply ar305 | apply ar308 | apply ar309)) only [g213_49, g213_50, g213_53, g213_54, g213_55, g213_57, g213_58, g213_59, g213_60, g213_63, g213_64, Option.toList, List.nil_append, List.cons_append, va_rf, rm3 _, p5 _]
      · subst e3
        obtain ⟨h4, W4, F4, X4⟩ := x_iter2 (d := e + 3) (v1 := some (.int (nI 2))) (v2 := some (.int (nI C.length))) (v3 := some (.int (nI P.length))) (j := 2) X3 hop2 (most := most) (turn := turn)
        obtain ⟨m6, p6, Y6, G6, tb6⟩ := m_nodeG (d := e + 3) (v5 := none) Y4 (by omega) (kd := nI 6) (x := nI (msgn (lx_K t n q1))) (y := nI r) (z := nI r3)
        have SMh := Y4.1
        have d1 := xadd_len (C := C3) (x := (nI (opN (msgn (lx_K t n q1))), lN 0))
        have d2 := xadd_ge (C := C3) (x := (nI (opN (msgn (lx_K t n q1))), lN 0))
        have d3 := xpad_len (P := P3) (w := nI 41)
        have d4 := xpad_ge (P := P3) (w := nI 41)
        refine ⟨h4, m6, nI m4, some (.int (nI (opN (msgn (lx_K t n q1))))), some (.int (nI (msgn (lx_K t n q1)))), some (.int (nI r3)), fun Q => ?_, fun Q => ?_, XF_trans Fx3' F4, MF_trans Fm4' G6 (by omega), Or.inr ⟨q3, _, _, N3, F3, k3, m4 + 1, mgO W W3, m4, lnx3, lpx3, lnm3, lpm3, ⟨by omega, by omega, c3, by omega, by omega, by omega, by omega, by omega, by omega, by omega⟩, rfl, X4, ?_, Y6, ?_, (fun z ez => ?_), fun ez => ?_⟩⟩
        · rw [W2, ← W4]
          simp (disch := first | with_reducible assumption | omega | exact Or.inl rfl | exact Or.inr rfl | exact bI_01 | exact c_cat | exact vt_ref | exact vt_null | rfl | with_reducible repeat (first | assumption | omega | apply S_I | apply S_L | apply S_D | apply ob_I | apply ob_L | apply ob_D | apply ob_R | apply ax_I | apply ax_L | apply ax_D | apply ax_R | apply o303 | apply o307 | apply o302 | apply o301 | apply ax304 | apply ax305 | apply ax306 | apply ax308 | apply ax309 | apply ax310 | apply lt_S | apply ar305 | apply ar308 | apply ar309)) only [g77_127, g77_128, g77_129, g77_130, g77_131, Option.toList, List.nil_append, List.cons_append, va_rf, nI_ltI, nI_leI, nI_eq, nI_add, nI_sub, nI_lt0, nI_e0, nI_m1, m1_nI, Nat.reduceEqDiff, Nat.reduceLT, Nat.reduceLeDiff, Nat.reduceAdd, Nat.reduceSub, Nat.reduceMul, ↓reduceIte, eq_self, rx3 _]
        · rw [WM]
          simp (disch := first | with_reducible assumption | omega | exact Or.inl rfl | exact Or.inr rfl | exact bI_01 | exact c_cat | exact vt_ref | exact vt_null | rfl | with_reducible repeat (first | assumption | omega | apply S_I | apply S_L | apply S_D | apply ob_I | apply ob_L | apply ob_D | apply ob_R | apply ax_I | apply ax_L | apply ax_D | apply ax_R | apply o303 | apply o307 | apply o302 | apply o301 | apply ax304 | apply ax305 | apply ax306 | apply ax308 | apply ax309 | apply ax310 | apply lt_S | apply ar305 | apply ar308 | apply ar309)) only [g213_49, g213_50, g213_53, g213_54, g213_55, g213_57, g213_58, g213_59, g213_60, g213_63, g213_64, Option.toList, List.nil_append, List.cons_append, va_rf, rm3 _, p6 _]
        · rw [← mgO_assoc]; exact LX3
        · rw [← mgO_assoc]; exact LM3
        · exact mgO_bd hW hW3 (by omega) (by omega) z ez
        · obtain ⟨w1, w3⟩ := mgO_eq_none ez
          obtain ⟨D1, E1, L1, G1, R1, u1, u2, u3, u4⟩ := hR w1
          obtain ⟨D2, E2, L2, G2', R2, v1', v2', v3', v4'⟩ := hR3 w3
          have tk1 : C1.take C.length = C := by rw [u1]; exact List.take_left
          have dk1 : C1.drop C.length = D1 := by rw [u1]; exact List.drop_left
          have tk2 : P1.take P.length = P := by rw [u2]; exact List.take_left
          have dk2 : P1.drop P.length = E1.map nI := by rw [u2]; exact List.drop_left
          refine ⟨ST :: D1 ++ D2 ++ [(nI (opN (msgn (lx_K t n q1))), lN 0)], 40 :: E1 ++ sgN (msgn (lx_K t n q1)) ++ E2 ++ [41], L1 ++ L2, G1 ++ G2', ?_, ?_, ?_, ?_, ?_⟩
          · have T1 : ∀ i, i < m1 → tb m6 3648 i = tb hm1 3648 i := fun i hi => by
              rw [tb_same G6 (by omega), tb_same Fm4 (by omega), tb_same G3 (by omega), tb_same G2 (by omega)]
            refine ⟨?_, NC_end (NC_app (NC_T R1.2 T1) (NC_T R2.2 (fun i hi => tb_same G6 hi))) tb6 (by decide)⟩
            obtain ⟨fw, hfw⟩ : ∃ fw, k3 - k + 41 * (10 - o) = fw + 1 := ⟨k3 - k + 41 * (10 - o) - 1, by omega⟩
            rw [hfw]
            apply Rp_mk
            refine ⟨by omega, Or.inr (Or.inr (Or.inr (Or.inr (Or.inr (Or.inl ⟨msgn (lx_K t n q1), r, r3, D1, E1, L1, G1, D2, E2, L2, G2', hsg, by omega, c6, tb6, ?_, ?_, rfl, rfl, rfl, rfl⟩)))))⟩
            · exact Rp_mono (M := m1) (by omega) T1 (by omega) R1.1
            · exact Rp_mono (M := m4) (by omega) (fun i hi => tb_same G6 hi) (by omega) R2.1
          · rw [xadd_eq (by omega), v1', eC2, tk1, dk1]; simp
          · have hq3 : q3 ≤ n := X3.2.2.1.2.2.1
            have lP3' := lP3
            rw [eP3, tk2, dk2] at lP3'
            rw [xpad_eq (by omega) (by decide), v2', eP2', eP3, tk2, dk2, xcop_eq _ _ _ (by omega) (by rw [lP3']; omega) hEt.2, hEt.1]; simp
          · rw [v3', u3, List.foldl_append]
          · rw [v4', u4, List.foldl_append]
  · obtain rfl : k1 = 40 := by omega
    rw [if_neg c40, if_neg c40] at X2
    rw [mpart_bad] at Y2 Y3
    obtain ⟨a1, a2, a3, a4, a5, a6, a7, a8, a9, a10, a11⟩ := bad (3, q1) (BX_of X2) (BM_of Y3 (by omega))
    exact ⟨a1, a2, a3, a4, a5, a6, a7, a8, a9, a10, Or.inl a11⟩
theorem bx_rk2 {d : Nat} (_ : 1 ≤ d) {h : am_H} {y : Nat × Nat} (B : BX h t n y) : ∃ h', am_run (d + 3) 77 [some (.ref 301), some (.int (nI 2)), none, none, none, none, none] h none h' ∧ BX h' t n y ∧ XF h h' := bx_lev (e := d + 1) (by decide) (fun _ B => bx_l3 (d := d) B) B
theorem bm_sub213 {d : Nat} {h : am_H} {Q : Option Value → am_H → Prop} {y : Nat × Nat} {m : Nat} (B : BM h t n y m) : am_J (d + 3) 213 0 [some (.ref 349), none, none, none] [] h Q ↔ Q (some (.int (nI 0))) h := bm_prod (d := d + 2) B
/-- one turn of level 1 on both sides -/
theorem J_turn1 {e : Nat} (he : 1 ≤ e) (Sub : JR t n so s vis on na nc nf oX oM agX agM cnX cnM fnX fnM fnA (lxL 2) lm3 77 213 (e + 3) f) {hx hm : am_H} {q : Nat} {C : List (Int32 × Int64)} {P : List Int32} {N : List Nat} {F : Int32} {k o m : Nat} {ltx ltm : Option (Nat × Nat)} (hf : 11 ≤ f + o) (J : JS t n so s vis on na nc nf oX oM agX agM cnX cnM fnX fnM fnA hx hm q C P N F k o m ltx ltm) {hx1 hm1 : am_H} {q1 : Nat} {C1 : List (Int32 × Int64)} {P1 : List Int32} {N1 : List Nat} {F1 : Int32} {k1 m1 : Nat} {W : Option (Nat × Nat)} {r : Nat} {lnx lpx lnm lpm : Int32} (Fx1 : XF hx hx1) (Fm1 : MF hm hm1 m) (g1 : q < q1 ∧ k < k1 ∧ k1 ≤ 40 ∧ m ≤ m1 ∧ m1 ≤ m + (k1 - k) ∧ r < m1 ∧ C1.length ≤ C.length + 3 * (k1 - k) ∧ P1.length ≤ P.length + (q1 - q) + 2 * (k1 - k) ∧ C.length ≤ C1.length ∧ P.length ≤ P1.length) (X1 : PX hx1 t n (.inl q1) C1 P1 N1 F1 (nI k1) (nI o) lnx lpx) (LX1 : LT lnx lpx (mgO ltx W)) (Y1 : MX hm1 t n (.inl q1) (nI k1) (nI o) m1 lnm lpm) (LM1 : LT lnm lpm (mgO ltm W)) (hW : ∀ z, W = some z → q ≤ z.2 ∧ z.2 < q1) (hR : W = none → ∃ D E L G, (Rp (decide (so = 2)) (knO so na vis) (tb hm1 3648) m1 (pNm so agM cnM) (pFm so on oM fnM) (k1 - k + 41 * (10 - o)) r D E L G ∧ NC (tb hm1 3648) m m1 G) ∧ C1 = C ++ D ∧ P1 = P ++ E.map nI ∧ N1 = L.foldl nadd N ∧ F1 = G.foldl gF F) (hK : lx_K t n q1 = 43 ∨ lx_K t n q1 = 45) {most : Int32} {turn : Nat} (ht : nI turn < most) {v6 v2 v3 : Option Value} :
    ∃ hx2 hm2 mr2 w6 w2 w3, (∀ Q, am_J (e + 4) 77 51 [some (.ref 301), some (.int (nI 1)), some (.int (nI C.length)), some (.int (nI P.length)), some (.int most), some (.int (nI turn)), v6] [] hx1 Q ↔ am_J (e + 4) 77 51 [some (.ref 301), some (.int (nI 1)), some (.int (nI C.length)), some (.int (nI P.length)), some (.int most), some (.int (nI (turn + 1))), w6] [] hx2 Q) ∧ (∀ Q, am_J (e + 4) 212 5 [some (.ref 349), some (.int (nI r)), v2, v3] [] hm1 Q ↔ am_J (e + 4) 212 5 [some (.ref 349), some (.int mr2), w2, w3] [] hm2 Q) ∧ XF hx hx2 ∧ MF hm hm2 m ∧
      ((∃ y, BX hx2 t n y ∧ BM hm2 t n y m) ∨ ∃ q' C' P' N' F' k' m' W' r' lnx lpx lnm lpm, (q < q' ∧ k1 < k' ∧ k' ≤ 40 ∧ m ≤ m' ∧ m' ≤ m + (k' - k) ∧ r' < m' ∧ C'.length ≤ C.length + 3 * (k' - k) ∧ P'.length ≤ P.length + (q' - q) + 2 * (k' - k) ∧ C.length ≤ C'.length ∧ P.length ≤ P'.length) ∧ mr2 = nI r' ∧ PX hx2 t n (.inl q') C' P' N' F' (nI k') (nI o) lnx lpx ∧ LT lnx lpx (mgO ltx W') ∧ MX hm2 t n (.inl q') (nI k') (nI o) m' lnm lpm ∧ LT lnm lpm (mgO ltm W') ∧ (∀ z, W' = some z → q ≤ z.2 ∧ z.2 < q') ∧ (W' = none → ∃ D E L G, (Rp (decide (so = 2)) (knO so na vis) (tb hm2 3648) m' (pNm so agM cnM) (pFm so on oM fnM) (k' - k + 41 * (10 - o)) r' D E L G ∧ NC (tb hm2 3648) m m' G) ∧ C' = C ++ D ∧ P' = P ++ E.map nI ∧ N' = L.foldl nadd N ∧ F' = G.foldl gF F)) := by
  obtain ⟨-, -, Gv, KX, KM, KR, hC, hP, hmk, hk, ho, hq, hn⟩ := J
  obtain ⟨b1, b2, b3, b4, b5, b6, b7, b8, b9, b10⟩ := g1
  have KX1 := cfX_XF Fx1 KX
  have KM1 := cfM_MF Fm1 KM
  have hq1 : q1 < n := lx_K_lt (by rcases hK with hK | hK <;> rw [hK] <;> decide)
  have hop : lx_K t n q1 ∈ [37, 42, 43, 45, 47, 60, 61, 256, 257] := by rcases hK with hK | hK <;> rw [hK] <;> decide
  have hrk : rkI (lx_K t n q1) = nI 1 := by rcases hK with hK | hK <;> rw [hK] <;> decide
  have hsg : msgn (lx_K t n q1) ∈ [43, 45, 42, 47, 37, 60, 76, 61, 78] := by rcases hK with hK | hK <;> rw [hK] <;> decide
  have hop2 : opN (msgn (lx_K t n q1)) < 128 := by rcases hK with hK | hK <;> rw [hK] <;> decide
  have hEt : tx t q1 (lx_E t n q1 - q1) = sgN (msgn (lx_K t n q1)) ∧ (∀ i, i < lx_E t n q1 - q1 → t (q1 + i) < 128) := lx_sgn hop
  have hEle := lx_E_le X1.2.2.1.2.2.1 X1.2.2.1.2.1
  have hEg := lx_E_gt (t := t) hq1
  have m5 : mtok (lx_K t n q1) = 5 := by rcases hK with hK | hK <;> rw [hK] <;> decide
  -- the class up to the operand
  obtain ⟨h2, P2, W2, F2, X2, eP2⟩ := x_iter1 (d := e) (v6 := v6) X1 b3 hrk hop b9 b10 ht
  have Fx2 := XF_trans Fx1 F2
  have Gv2 : am_Gv h2 := Gv_fr Fx2.1 (by unfold rX; omega) (by unfold rX; omega) (by unfold rX; omega) Gv
  have S2 := X2.1
  -- the model up to the operand
  obtain ⟨SM, GM, TM, ⟨⟨l1, l2, l3, l4⟩, lk, lq, f22, f4⟩, -⟩ := id Y1
  have ls := l4 m5
  obtain ⟨m2, p2, Y2, G2⟩ := m_part (d := e + 2) Y1 (p := nI q1) (fun q' e => by cases e; rfl)
  rw [nI_add] at Y2
  have SM2 := Y2.1
  have Fm2 := MF_trans Fm1 G2 (by omega)
  obtain ⟨m3, p3, Y3, G3⟩ := m_nx (d := e) (v1 := none) Y2
  have SM3 := Y3.1
  have Fm3 := MF_trans Fm2 G3 (by omega)
  have s43 := fun Q => m_sign (d := e + 3) (Q := Q) Y1 (v := 43) (by decide)
  have s45 := fun Q => m_sign (d := e + 3) (Q := Q) Y1 (v := 45) (by decide)
  have WM : ∀ Q, am_J (e + 4) 212 5 [some (.ref 349), some (.int (nI r)), v2, v3] [] hm1 Q ↔ am_J (e + 4) 212 40 [some (.ref 349), some (.int (nI r)), some (.int (nI (msgn (lx_K t n q1)))), v3] [] m3 Q := by
    intro Q
    rw [g212_5]
    rcases hK with hK | hK
    · simp only [show mdK t n (.inl q1) = 43 from hK] at s43 s45
      rw [hK] at ls ⊢
      simp (disch := first | with_reducible assumption | omega | exact Or.inl rfl | exact Or.inr rfl | exact bI_01 | exact c_cat | exact vt_ref | exact vt_null | rfl | with_reducible repeat (first | assumption | omega | apply S_I | apply S_L | apply S_D | apply ob_I | apply ob_L | apply ob_D | apply ob_R | apply ax_I | apply ax_L | apply ax_D | apply ax_R | apply o303 | apply o307 | apply o302 | apply o301 | apply ax304 | apply ax305 | apply ax306 | apply ax308 | apply ax309 | apply ax310 | apply lt_S | apply ar305 | apply ar308 | apply ar309)) only [g212_6, g212_8, g212_11, g212_14, g212_15, g212_17, g212_20, g212_23, g212_24, g212_27, g212_28, g212_29, g212_30, g212_33, g212_36, g212_37, s43, s45, Option.toList, List.nil_append, List.cons_append, va_rf, nI_ltI, nI_leI, nI_eq, nI_add, nI_sub, nI_lt0, nI_e0, nI_m1, m1_nI, Nat.reduceEqDiff, Nat.reduceLT, Nat.reduceLeDiff, Nat.reduceAdd, Nat.reduceSub, Nat.reduceMul, ↓reduceIte, eq_self, bI, mcode, decide_true, decide_false, Nat.reduceEqDiff, Bool.false_eq_true, ls, msgn, l3, p2 _, p3 _]
    · simp only [show mdK t n (.inl q1) = 45 from hK] at s43 s45
      rw [hK] at ls ⊢
      simp (disch := first | with_reducible assumption | omega | exact Or.inl rfl | exact Or.inr rfl | exact bI_01 | exact c_cat | exact vt_ref | exact vt_null | rfl | with_reducible repeat (first | assumption | omega | apply S_I | apply S_L | apply S_D | apply ob_I | apply ob_L | apply ob_D | apply ob_R | apply ax_I | apply ax_L | apply ax_D | apply ax_R | apply o303 | apply o307 | apply o302 | apply o301 | apply ax304 | apply ax305 | apply ax306 | apply ax308 | apply ax309 | apply ax310 | apply lt_S | apply ar305 | apply ar308 | apply ar309)) only [g212_6, g212_8, g212_11, g212_14, g212_15, g212_17, g212_20, g212_23, g212_24, g212_27, g212_28, g212_29, g212_30, g212_33, g212_36, g212_37, s43, s45, Option.toList, List.nil_append, List.cons_append, va_rf, nI_ltI, nI_leI, nI_eq, nI_add, nI_sub, nI_lt0, nI_e0, nI_m1, m1_nI, Nat.reduceEqDiff, Nat.reduceLT, Nat.reduceLeDiff, Nat.reduceAdd, Nat.reduceSub, Nat.reduceMul, ↓reduceIte, eq_self, bI, mcode, decide_true, decide_false, Nat.reduceEqDiff, Bool.false_eq_true, ls, msgn, l3, p2 _, p3 _]
  -- a fault ahead of the operand
  have bad : ∀ y, BX h2 t n y → BM m3 t n y m → ∃ hx2 hm2 mr2 w6 w2 w3, (∀ Q, am_J (e + 4) 77 51 [some (.ref 301), some (.int (nI 1)), some (.int (nI C.length)), some (.int (nI P.length)), some (.int most), some (.int (nI turn)), v6] [] hx1 Q ↔ am_J (e + 4) 77 51 [some (.ref 301), some (.int (nI 1)), some (.int (nI C.length)), some (.int (nI P.length)), some (.int most), some (.int (nI (turn + 1))), w6] [] hx2 Q) ∧ (∀ Q, am_J (e + 4) 212 5 [some (.ref 349), some (.int (nI r)), v2, v3] [] hm1 Q ↔ am_J (e + 4) 212 5 [some (.ref 349), some (.int mr2), w2, w3] [] hm2 Q) ∧ XF hx hx2 ∧ MF hm hm2 m ∧ (∃ y, BX hx2 t n y ∧ BM hm2 t n y m) := by
    intro y B BB
    obtain ⟨h3, r3, B3, F3⟩ := bx_rk2 (d := e) he B
    obtain ⟨C3, P3, N3, F3', k3, o3, ln3, lp3, X3⟩ := id B3
    obtain ⟨h4, W4, F4, X4⟩ := x_iter2 (d := e + 3) (v1 := some (.int (nI 1))) (v2 := some (.int (nI C.length))) (v3 := some (.int (nI P.length))) (j := 1) X3 hop2 (most := most) (turn := turn)
    obtain ⟨m4, w4, p4, -, -, B4, G4⟩ := bm_node (d := e + 3) (v5 := none) BB (kd := nI 6) (x := nI (msgn (lx_K t n q1))) (y' := nI r) (z := nI 0)
    have SM4 := (bm_S B4).1
    refine ⟨h4, m4, nI w4, some (.int (nI (opN (msgn (lx_K t n q1))))), some (.int (nI (msgn (lx_K t n q1)))), some (.int (nI 0)), fun Q => ?_, fun Q => ?_, XF_trans Fx2 (XF_trans F3 F4), MF_trans Fm3 G4 (Nat.le_refl _), y, BX_of X4, B4⟩
    · rw [W2, ← W4]
      simp (disch := first | with_reducible assumption | omega | exact Or.inl rfl | exact Or.inr rfl | exact bI_01 | exact c_cat | exact vt_ref | exact vt_null | rfl | with_reducible repeat (first | assumption | omega | apply S_I | apply S_L | apply S_D | apply ob_I | apply ob_L | apply ob_D | apply ob_R | apply ax_I | apply ax_L | apply ax_D | apply ax_R | apply o303 | apply o307 | apply o302 | apply o301 | apply ax304 | apply ax305 | apply ax306 | apply ax308 | apply ax309 | apply ax310 | apply lt_S | apply ar305 | apply ar308 | apply ar309)) only [g77_127, g77_128, g77_129, g77_130, g77_131, Option.toList, List.nil_append, List.cons_append, va_rf, nI_ltI, nI_leI, nI_eq, nI_add, nI_sub, nI_lt0, nI_e0, nI_m1, m1_nI, Nat.reduceEqDiff, Nat.reduceLT, Nat.reduceLeDiff, Nat.reduceAdd, Nat.reduceSub, Nat.reduceMul, ↓reduceIte, eq_self, r3 _]
    · rw [WM]
      simp (disch := first | with_reducible assumption | omega | exact Or.inl rfl | exact Or.inr rfl | exact bI_01 | exact c_cat | exact vt_ref | exact vt_null | rfl | with_reducible repeat (first | assumption | omega | apply S_I | apply S_L | apply S_D | apply ob_I | apply ob_L | apply ob_D | apply ob_R | apply ax_I | apply ax_L | apply ax_D | apply ax_R | apply o303 | apply o307 | apply o302 | apply o301 | apply ax304 | apply ax305 | apply ax306 | apply ax308 | apply ax309 | apply ax310 | apply lt_S | apply ar305 | apply ar308 | apply ar309)) only [g212_40, g212_41, g212_44, g212_45, g212_46, g212_48, g212_49, g212_50, g212_51, g212_54, g212_55, Option.toList, List.nil_append, List.cons_append, va_rf, bm_sub213 (d := e) BB, p4 _]
  by_cases c40 : k1 < 40
  · rw [if_pos c40, if_pos c40] at X2
    rw [mpart_good c40] at Y2 Y3
    match hA : mdA t n (.inl q1) with
    | .inr y =>
      rw [hA] at X2 Y3
      obtain ⟨a1, a2, a3, a4, a5, a6, a7, a8, a9, a10, a11⟩ := bad y (BX_of X2) (BM_of Y3 (by omega))
      exact ⟨a1, a2, a3, a4, a5, a6, a7, a8, a9, a10, Or.inl a11⟩
    | .inl q2 =>
      rw [hA] at X2 Y3
      obtain ⟨g4, g5, g6⟩ := mdA_gt hq1 hA
      have hq2 : q2 ≤ n := X2.2.2.1.2.2.1
      have eC2 : xins (C1.take C.length) (C1.drop C.length) = C1.take C.length ++ ST :: C1.drop C.length := if_pos (by rw [List.take_append_drop]; omega)
      have eP2' := eP2 c40
      have eP3 : xpin (P1.take P.length) (P1.drop P.length) (nI 40) = P1.take P.length ++ nI 40 :: P1.drop P.length := by
        unfold xpin; rw [if_pos (by rw [List.take_append_drop]; omega), by8_nI 40 (by decide)]
      have lC2 : (xins (C1.take C.length) (C1.drop C.length)).length = C1.length + 1 := by
        rw [eC2]; simp; omega
      have lP3 : (xpin (P1.take P.length) (P1.drop P.length) (nI 40)).length = P1.length + 1 := by
        rw [eP3]; simp; omega
      have lP2 := xcop_len (t := t) (n := n) (lx_E t n q1 - q1) q1 (xpin (P1.take P.length) (P1.drop P.length) (nI 40))
      have lP2' := xcop_ge (t := t) (n := n) (lx_E t n q1 - q1) q1 (xpin (P1.take P.length) (P1.drop P.length) (nI 40))
      rw [← eP2'] at lP2 lP2'
      obtain ⟨hx3, hm3, mr3, rx3, rm3, Fx3, Fm4, J3⟩ := Sub h2 m3 q2 _ P2 N1 F1 (k1 + 1) o m1 (mgO ltx W) (mgO ltm W) hf ⟨⟨lnx, lpx, X2, LX1⟩, ⟨lnm, lpm, Y3, LM1⟩, Gv2, cfX_XF F2 KX1, cfM_MF (MF_trans G2 G3 (Nat.le_refl _)) KM1, KR, by omega, by omega, by omega, by omega, ho, hq2, hn⟩
      have Fx3' := XF_trans Fx2 Fx3
      have Fm4' := MF_trans Fm3 Fm4 b4
      unfold lxL at rx3
      unfold lm3 at rm3
      have wr : ∀ h4 (m4 : am_H), XF hx3 h4 → True := fun _ _ _ => trivial
      rcases J3 with ⟨y, B3, BB3⟩ | ⟨q3, C3, P3, N3, F3, k3, m4, W3, r3, lnx3, lpx3, lnm3, lpm3, ⟨c1, c2, c3, c4, c5, c6, c7, c8, c9, c10⟩, e3, X3, LX3, Y4, LM3, hW3, hR3⟩
      · obtain ⟨C3, P3, N3, F3', k3, o3, ln3, lp3, X3⟩ := id B3
        obtain ⟨h4, W4, F4, X4⟩ := x_iter2 (d := e + 3) (v1 := some (.int (nI 1))) (v2 := some (.int (nI C.length))) (v3 := some (.int (nI P.length))) (j := 1) X3 hop2 (most := most) (turn := turn)
        have BB3' : BM hm3 t n y m := by
          obtain ⟨z1, z2, z3, z4, z5, z6, z7⟩ := BB3
          exact ⟨z1, z2, z3, z4, z5, by omega, z7⟩
        obtain ⟨m5, w5, p5, -, -, B5, G5⟩ := bm_node (d := e + 3) (v5 := none) BB3' (kd := nI 6) (x := nI (msgn (lx_K t n q1))) (y' := nI r) (z := mr3)
        have SMh := (bm_S BB3').1
        refine ⟨h4, m5, nI w5, some (.int (nI (opN (msgn (lx_K t n q1))))), some (.int (nI (msgn (lx_K t n q1)))), some (.int mr3), fun Q => ?_, fun Q => ?_, XF_trans Fx3' F4, MF_trans Fm4' G5 (Nat.le_refl _), Or.inl ⟨y, BX_of X4, B5⟩⟩
        · rw [W2, ← W4]
          simp (disch := first | with_reducible assumption | omega | exact Or.inl rfl | exact Or.inr rfl | exact bI_01 | exact c_cat | exact vt_ref | exact vt_null | rfl | with_reducible repeat (first | assumption | omega | apply S_I | apply S_L | apply S_D | apply ob_I | apply ob_L | apply ob_D | apply ob_R | apply ax_I | apply ax_L | apply ax_D | apply ax_R | apply o303 | apply o307 | apply o302 | apply o301 | apply ax304 | apply ax305 | apply ax306 | apply ax308 | apply ax309 | apply ax310 | apply lt_S | apply ar305 | apply ar308 | apply ar309)) only [g77_127, g77_128, g77_129, g77_130, g77_131, Option.toList, List.nil_append, List.cons_append, va_rf, nI_ltI, nI_leI, nI_eq, nI_add, nI_sub, nI_lt0, nI_e0, nI_m1, m1_nI, Nat.reduceEqDiff, Nat.reduceLT, Nat.reduceLeDiff, Nat.reduceAdd, Nat.reduceSub, Nat.reduceMul, ↓reduceIte, eq_self, rx3 _]
        · rw [WM]
          simp (disch := first | with_reducible assumption | omega | exact Or.inl rfl | exact Or.inr rfl | exact bI_01 | exact c_cat | exact vt_ref | exact vt_null | rfl | with_reducible repeat (first | assumption | omega | apply S_I | apply S_L | apply S_D | apply ob_I | apply ob_L | apply ob_D | apply ob_R | apply ax_I | apply ax_L | apply ax_D | apply ax_R | apply o303 | apply o307 | apply o302 | apply o301 | apply ax304 | apply ax305 | apply ax306 | apply ax308 | apply ax309 | apply ax310 | apply lt_S | apply ar305 | apply ar308 | apply ar309)) only [g212_40, g212_41, g212_44, g212_45, g212_46, g212_48, g212_49, g212_50, g212_51, g212_54, g212_55, Option.toList, List.nil_append, List.cons_append, va_rf, rm3 _, p5 _]
      · subst e3
        obtain ⟨h4, W4, F4, X4⟩ := x_iter2 (d := e + 3) (v1 := some (.int (nI 1))) (v2 := some (.int (nI C.length))) (v3 := some (.int (nI P.length))) (j := 1) X3 hop2 (most := most) (turn := turn)
        obtain ⟨m6, p6, Y6, G6, tb6⟩ := m_nodeG (d := e + 3) (v5 := none) Y4 (by omega) (kd := nI 6) (x := nI (msgn (lx_K t n q1))) (y := nI r) (z := nI r3)
        have SMh := Y4.1
        have d1 := xadd_len (C := C3) (x := (nI (opN (msgn (lx_K t n q1))), lN 0))
        have d2 := xadd_ge (C := C3) (x := (nI (opN (msgn (lx_K t n q1))), lN 0))
        have d3 := xpad_len (P := P3) (w := nI 41)
        have d4 := xpad_ge (P := P3) (w := nI 41)
        refine ⟨h4, m6, nI m4, some (.int (nI (opN (msgn (lx_K t n q1))))), some (.int (nI (msgn (lx_K t n q1)))), some (.int (nI r3)), fun Q => ?_, fun Q => ?_, XF_trans Fx3' F4, MF_trans Fm4' G6 (by omega), Or.inr ⟨q3, _, _, N3, F3, k3, m4 + 1, mgO W W3, m4, lnx3, lpx3, lnm3, lpm3, ⟨by omega, by omega, c3, by omega, by omega, by omega, by omega, by omega, by omega, by omega⟩, rfl, X4, ?_, Y6, ?_, (fun z ez => ?_), fun ez => ?_⟩⟩
        · rw [W2, ← W4]
          simp (disch := first | with_reducible assumption | omega | exact Or.inl rfl | exact Or.inr rfl | exact bI_01 | exact c_cat | exact vt_ref | exact vt_null | rfl | with_reducible repeat (first | assumption | omega | apply S_I | apply S_L | apply S_D | apply ob_I | apply ob_L | apply ob_D | apply ob_R | apply ax_I | apply ax_L | apply ax_D | apply ax_R | apply o303 | apply o307 | apply o302 | apply o301 | apply ax304 | apply ax305 | apply ax306 | apply ax308 | apply ax309 | apply ax310 | apply lt_S | apply ar305 | apply ar308 | apply ar309)) only [g77_127, g77_128, g77_129, g77_130, g77_131, Option.toList, List.nil_append, List.cons_append, va_rf, nI_ltI, nI_leI, nI_eq, nI_add, nI_sub, nI_lt0, nI_e0, nI_m1, m1_nI, Nat.reduceEqDiff, Nat.reduceLT, Nat.reduceLeDiff, Nat.reduceAdd, Nat.reduceSub, Nat.reduceMul, ↓reduceIte, eq_self, rx3 _]
        · rw [WM]
          simp (disch := first | with_reducible assumption | omega | exact Or.inl rfl | exact Or.inr rfl | exact bI_01 | exact c_cat | exact vt_ref | exact vt_null | rfl | with_reducible repeat (first | assumption | omega | apply S_I | apply S_L | apply S_D | apply ob_I | apply ob_L | apply ob_D | apply ob_R | apply ax_I | apply ax_L | apply ax_D | apply ax_R | apply o303 | apply o307 | apply o302 | apply o301 | apply ax304 | apply ax305 | apply ax306 | apply ax308 | apply ax309 | apply ax310 | apply lt_S | apply ar305 | apply ar308 | apply ar309)) only [g212_40, g212_41, g212_44, g212_45, g212_46, g212_48, g212_49, g212_50, g212_51, g212_54, g212_55, Option.toList, List.nil_append, List.cons_append, va_rf, rm3 _, p6 _]
        · rw [← mgO_assoc]; exact LX3
        · rw [← mgO_assoc]; exact LM3
        · exact mgO_bd hW hW3 (by omega) (by omega) z ez
        · obtain ⟨w1, w3⟩ := mgO_eq_none ez
          obtain ⟨D1, E1, L1, G1, R1, u1, u2, u3, u4⟩ := hR w1
          obtain ⟨D2, E2, L2, G2', R2, v1', v2', v3', v4'⟩ := hR3 w3
          have tk1 : C1.take C.length = C := by rw [u1]; exact List.take_left
          have dk1 : C1.drop C.length = D1 := by rw [u1]; exact List.drop_left
          have tk2 : P1.take P.length = P := by rw [u2]; exact List.take_left
          have dk2 : P1.drop P.length = E1.map nI := by rw [u2]; exact List.drop_left
          refine ⟨ST :: D1 ++ D2 ++ [(nI (opN (msgn (lx_K t n q1))), lN 0)], 40 :: E1 ++ sgN (msgn (lx_K t n q1)) ++ E2 ++ [41], L1 ++ L2, G1 ++ G2', ?_, ?_, ?_, ?_, ?_⟩
          · have T1 : ∀ i, i < m1 → tb m6 3648 i = tb hm1 3648 i := fun i hi => by
              rw [tb_same G6 (by omega), tb_same Fm4 (by omega), tb_same G3 (by omega), tb_same G2 (by omega)]
            refine ⟨?_, NC_end (NC_app (NC_T R1.2 T1) (NC_T R2.2 (fun i hi => tb_same G6 hi))) tb6 (by decide)⟩
            obtain ⟨fw, hfw⟩ : ∃ fw, k3 - k + 41 * (10 - o) = fw + 1 := ⟨k3 - k + 41 * (10 - o) - 1, by omega⟩
            rw [hfw]
            apply Rp_mk
            refine ⟨by omega, Or.inr (Or.inr (Or.inr (Or.inr (Or.inr (Or.inl ⟨msgn (lx_K t n q1), r, r3, D1, E1, L1, G1, D2, E2, L2, G2', hsg, by omega, c6, tb6, ?_, ?_, rfl, rfl, rfl, rfl⟩)))))⟩
            · exact Rp_mono (M := m1) (by omega) T1 (by omega) R1.1
            · exact Rp_mono (M := m4) (by omega) (fun i hi => tb_same G6 hi) (by omega) R2.1
          · rw [xadd_eq (by omega), v1', eC2, tk1, dk1]; simp
          · have hq3 : q3 ≤ n := X3.2.2.1.2.2.1
            have lP3' := lP3
            rw [eP3, tk2, dk2] at lP3'
            rw [xpad_eq (by omega) (by decide), v2', eP2', eP3, tk2, dk2, xcop_eq _ _ _ (by omega) (by rw [lP3']; omega) hEt.2, hEt.1]; simp
          · rw [v3', u3, List.foldl_append]
          · rw [v4', u4, List.foldl_append]
  · obtain rfl : k1 = 40 := by omega
    rw [if_neg c40, if_neg c40] at X2
    rw [mpart_bad] at Y2 Y3
    obtain ⟨a1, a2, a3, a4, a5, a6, a7, a8, a9, a10, a11⟩ := bad (3, q1) (BX_of X2) (BM_of Y3 (by omega))
    exact ⟨a1, a2, a3, a4, a5, a6, a7, a8, a9, a10, Or.inl a11⟩
theorem bx_rk1 {d : Nat} (hd : 1 ≤ d) {h : am_H} {y : Nat × Nat} (B : BX h t n y) : ∃ h', am_run (d + 3) 77 [some (.ref 301), some (.int (nI 1)), none, none, none, none, none] h none h' ∧ BX h' t n y ∧ XF h h' := by
  obtain ⟨d, rfl⟩ : ∃ e, d = e + 1 := ⟨d - 1, by omega⟩
  exact bx_lev (e := d + 2) (by decide) (fun _ B => bx_lev (e := d + 1) (by decide) (fun _ B => bx_l3 (d := d) B) B) B
theorem bm_sub212 {d : Nat} {h : am_H} {Q : Option Value → am_H → Prop} {y : Nat × Nat} {m : Nat} (B : BM h t n y m) : am_J (d + 3) 212 0 [some (.ref 349), none, none, none] [] h Q ↔ Q (some (.int (nI 0))) h := bm_sum (d := d + 1) B
/-- one turn of level 0 on both sides -/
theorem J_turn0 {e : Nat} (he : 1 ≤ e) (Sub : JR t n so s vis on na nc nf oX oM agX agM cnX cnM fnX fnM fnA (lxL 1) lm3 77 212 (e + 3) f) {hx hm : am_H} {q : Nat} {C : List (Int32 × Int64)} {P : List Int32} {N : List Nat} {F : Int32} {k o m : Nat} {ltx ltm : Option (Nat × Nat)} (hf : 11 ≤ f + o) (J : JS t n so s vis on na nc nf oX oM agX agM cnX cnM fnX fnM fnA hx hm q C P N F k o m ltx ltm) {hx1 hm1 : am_H} {q1 : Nat} {C1 : List (Int32 × Int64)} {P1 : List Int32} {N1 : List Nat} {F1 : Int32} {k1 m1 : Nat} {W : Option (Nat × Nat)} {r : Nat} {lnx lpx lnm lpm : Int32} (Fx1 : XF hx hx1) (Fm1 : MF hm hm1 m) (g1 : q < q1 ∧ k < k1 ∧ k1 ≤ 40 ∧ m ≤ m1 ∧ m1 ≤ m + (k1 - k) ∧ r < m1 ∧ C1.length ≤ C.length + 3 * (k1 - k) ∧ P1.length ≤ P.length + (q1 - q) + 2 * (k1 - k) ∧ C.length ≤ C1.length ∧ P.length ≤ P1.length) (X1 : PX hx1 t n (.inl q1) C1 P1 N1 F1 (nI k1) (nI o) lnx lpx) (LX1 : LT lnx lpx (mgO ltx W)) (Y1 : MX hm1 t n (.inl q1) (nI k1) (nI o) m1 lnm lpm) (LM1 : LT lnm lpm (mgO ltm W)) (hW : ∀ z, W = some z → q ≤ z.2 ∧ z.2 < q1) (hR : W = none → ∃ D E L G, (Rp (decide (so = 2)) (knO so na vis) (tb hm1 3648) m1 (pNm so agM cnM) (pFm so on oM fnM) (k1 - k + 41 * (10 - o)) r D E L G ∧ NC (tb hm1 3648) m m1 G) ∧ C1 = C ++ D ∧ P1 = P ++ E.map nI ∧ N1 = L.foldl nadd N ∧ F1 = G.foldl gF F) (hK : lx_K t n q1 = 60 ∨ lx_K t n q1 = 256 ∨ lx_K t n q1 = 61 ∨ lx_K t n q1 = 257) {most : Int32} {turn : Nat} (ht : nI turn < most) {v6 v2 v3 : Option Value} :
    ∃ hx2 hm2 mr2 w6 w2 w3, (∀ Q, am_J (e + 4) 77 51 [some (.ref 301), some (.int (nI 0)), some (.int (nI C.length)), some (.int (nI P.length)), some (.int most), some (.int (nI turn)), v6] [] hx1 Q ↔ am_J (e + 4) 77 51 [some (.ref 301), some (.int (nI 0)), some (.int (nI C.length)), some (.int (nI P.length)), some (.int most), some (.int (nI (turn + 1))), w6] [] hx2 Q) ∧ (∀ Q, am_J (e + 4) 211 5 [some (.ref 349), some (.int (nI r)), v2, v3] [] hm1 Q ↔ am_J (e + 4) 211 73 [some (.ref 349), some (.int mr2), w2, w3] [] hm2 Q) ∧ XF hx hx2 ∧ MF hm hm2 m ∧
      ((∃ y, BX hx2 t n y ∧ BM hm2 t n y m) ∨ ∃ q' C' P' N' F' k' m' W' r' lnx lpx lnm lpm, (q < q' ∧ k1 < k' ∧ k' ≤ 40 ∧ m ≤ m' ∧ m' ≤ m + (k' - k) ∧ r' < m' ∧ C'.length ≤ C.length + 3 * (k' - k) ∧ P'.length ≤ P.length + (q' - q) + 2 * (k' - k) ∧ C.length ≤ C'.length ∧ P.length ≤ P'.length) ∧ mr2 = nI r' ∧ PX hx2 t n (.inl q') C' P' N' F' (nI k') (nI o) lnx lpx ∧ LT lnx lpx (mgO ltx W') ∧ MX hm2 t n (.inl q') (nI k') (nI o) m' lnm lpm ∧ LT lnm lpm (mgO ltm W') ∧ (∀ z, W' = some z → q ≤ z.2 ∧ z.2 < q') ∧ (W' = none → ∃ D E L G, (Rp (decide (so = 2)) (knO so na vis) (tb hm2 3648) m' (pNm so agM cnM) (pFm so on oM fnM) (k' - k + 41 * (10 - o)) r' D E L G ∧ NC (tb hm2 3648) m m' G) ∧ C' = C ++ D ∧ P' = P ++ E.map nI ∧ N' = L.foldl nadd N ∧ F' = G.foldl gF F)) := by
  obtain ⟨-, -, Gv, KX, KM, KR, hC, hP, hmk, hk, ho, hq, hn⟩ := J
  obtain ⟨b1, b2, b3, b4, b5, b6, b7, b8, b9, b10⟩ := g1
  have KX1 := cfX_XF Fx1 KX
  have KM1 := cfM_MF Fm1 KM
  have hq1 : q1 < n := lx_K_lt (by rcases hK with hK | hK | hK | hK <;> rw [hK] <;> decide)
  have hop : lx_K t n q1 ∈ [37, 42, 43, 45, 47, 60, 61, 256, 257] := by rcases hK with hK | hK | hK | hK <;> rw [hK] <;> decide
  have hrk : rkI (lx_K t n q1) = nI 0 := by rcases hK with hK | hK | hK | hK <;> rw [hK] <;> decide
  have hsg : msgn (lx_K t n q1) ∈ [43, 45, 42, 47, 37, 60, 76, 61, 78] := by rcases hK with hK | hK | hK | hK <;> rw [hK] <;> decide
  have hop2 : opN (msgn (lx_K t n q1)) < 128 := by rcases hK with hK | hK | hK | hK <;> rw [hK] <;> decide
  have hEt : tx t q1 (lx_E t n q1 - q1) = sgN (msgn (lx_K t n q1)) ∧ (∀ i, i < lx_E t n q1 - q1 → t (q1 + i) < 128) := lx_sgn hop
  have hEle := lx_E_le X1.2.2.1.2.2.1 X1.2.2.1.2.1
  have hEg := lx_E_gt (t := t) hq1
  have m5 : mtok (lx_K t n q1) = 5 := by rcases hK with hK | hK | hK | hK <;> rw [hK] <;> decide
  -- the class up to the operand
  obtain ⟨h2, P2, W2, F2, X2, eP2⟩ := x_iter1 (d := e) (v6 := v6) X1 b3 hrk hop b9 b10 ht
  have Fx2 := XF_trans Fx1 F2
  have Gv2 : am_Gv h2 := Gv_fr Fx2.1 (by unfold rX; omega) (by unfold rX; omega) (by unfold rX; omega) Gv
  have S2 := X2.1
  -- the model up to the operand
  obtain ⟨SM, GM, TM, ⟨⟨l1, l2, l3, l4⟩, lk, lq, f22, f4⟩, -⟩ := id Y1
  have ls := l4 m5
  obtain ⟨m2, p2, Y2, G2⟩ := m_part (d := e + 2) Y1 (p := nI q1) (fun q' e => by cases e; rfl)
  rw [nI_add] at Y2
  have SM2 := Y2.1
  have Fm2 := MF_trans Fm1 G2 (by omega)
  obtain ⟨m3, p3, Y3, G3⟩ := m_nx (d := e) (v1 := none) Y2
  have SM3 := Y3.1
  have Fm3 := MF_trans Fm2 G3 (by omega)
  have s60 := fun Q => m_sign (d := e + 3) (Q := Q) Y1 (v := 60) (by decide)
  have s76 := fun Q => m_sign (d := e + 3) (Q := Q) Y1 (v := 76) (by decide)
  have s61 := fun Q => m_sign (d := e + 3) (Q := Q) Y1 (v := 61) (by decide)
  have s78 := fun Q => m_sign (d := e + 3) (Q := Q) Y1 (v := 78) (by decide)
  have WM : ∀ Q, am_J (e + 4) 211 5 [some (.ref 349), some (.int (nI r)), v2, v3] [] hm1 Q ↔ am_J (e + 4) 211 58 [some (.ref 349), some (.int (nI r)), some (.int (nI (msgn (lx_K t n q1)))), v3] [] m3 Q := by
    intro Q
    rw [g211_5]
    rcases hK with hK | hK | hK | hK
    · simp only [show mdK t n (.inl q1) = 60 from hK] at s60 s76 s61 s78
      rw [hK] at ls ⊢
      simp (disch := first | with_reducible assumption | omega | exact Or.inl rfl | exact Or.inr rfl | exact bI_01 | exact c_cat | exact vt_ref | exact vt_null | rfl | with_reducible repeat (first | assumption | omega | apply S_I | apply S_L | apply S_D | apply ob_I | apply ob_L | apply ob_D | apply ob_R | apply ax_I | apply ax_L | apply ax_D | apply ax_R | apply o303 | apply o307 | apply o302 | apply o301 | apply ax304 | apply ax305 | apply ax306 | apply ax308 | apply ax309 | apply ax310 | apply lt_S | apply ar305 | apply ar308 | apply ar309)) only [g211_6, g211_8, g211_11, g211_14, g211_15, g211_17, g211_20, g211_23, g211_24, g211_26, g211_29, g211_32, g211_33, g211_35, g211_38, g211_41, g211_42, g211_45, g211_46, g211_47, g211_48, g211_51, g211_54, g211_55, s60, s76, s61, s78, Option.toList, List.nil_append, List.cons_append, va_rf, nI_ltI, nI_leI, nI_eq, nI_add, nI_sub, nI_lt0, nI_e0, nI_m1, m1_nI, Nat.reduceEqDiff, Nat.reduceLT, Nat.reduceLeDiff, Nat.reduceAdd, Nat.reduceSub, Nat.reduceMul, ↓reduceIte, eq_self, bI, mcode, decide_true, decide_false, Nat.reduceEqDiff, Bool.false_eq_true, ls, msgn, l3, p2 _, p3 _]
    · simp only [show mdK t n (.inl q1) = 256 from hK] at s60 s76 s61 s78
      rw [hK] at ls ⊢
      simp (disch := first | with_reducible assumption | omega | exact Or.inl rfl | exact Or.inr rfl | exact bI_01 | exact c_cat | exact vt_ref | exact vt_null | rfl | with_reducible repeat (first | assumption | omega | apply S_I | apply S_L | apply S_D | apply ob_I | apply ob_L | apply ob_D | apply ob_R | apply ax_I | apply ax_L | apply ax_D | apply ax_R | apply o303 | apply o307 | apply o302 | apply o301 | apply ax304 | apply ax305 | apply ax306 | apply ax308 | apply ax309 | apply ax310 | apply lt_S | apply ar305 | apply ar308 | apply ar309)) only [g211_6, g211_8, g211_11, g211_14, g211_15, g211_17, g211_20, g211_23, g211_24, g211_26, g211_29, g211_32, g211_33, g211_35, g211_38, g211_41, g211_42, g211_45, g211_46, g211_47, g211_48, g211_51, g211_54, g211_55, s60, s76, s61, s78, Option.toList, List.nil_append, List.cons_append, va_rf, nI_ltI, nI_leI, nI_eq, nI_add, nI_sub, nI_lt0, nI_e0, nI_m1, m1_nI, Nat.reduceEqDiff, Nat.reduceLT, Nat.reduceLeDiff, Nat.reduceAdd, Nat.reduceSub, Nat.reduceMul, ↓reduceIte, eq_self, bI, mcode, decide_true, decide_false, Nat.reduceEqDiff, Bool.false_eq_true, ls, msgn, l3, p2 _, p3 _]
    · simp only [show mdK t n (.inl q1) = 61 from hK] at s60 s76 s61 s78
      rw [hK] at ls ⊢
      simp (disch := first | with_reducible assumption | omega | exact Or.inl rfl | exact Or.inr rfl | exact bI_01 | exact c_cat | exact vt_ref | exact vt_null | rfl | with_reducible repeat (first | assumption | omega | apply S_I | apply S_L | apply S_D | apply ob_I | apply ob_L | apply ob_D | apply ob_R | apply ax_I | apply ax_L | apply ax_D | apply ax_R | apply o303 | apply o307 | apply o302 | apply o301 | apply ax304 | apply ax305 | apply ax306 | apply ax308 | apply ax309 | apply ax310 | apply lt_S | apply ar305 | apply ar308 | apply ar309)) only [g211_6, g211_8, g211_11, g211_14, g211_15, g211_17, g211_20, g211_23, g211_24, g211_26, g211_29, g211_32, g211_33, g211_35, g211_38, g211_41, g211_42, g211_45, g211_46, g211_47, g211_48, g211_51, g211_54, g211_55, s60, s76, s61, s78, Option.toList, List.nil_append, List.cons_append, va_rf, nI_ltI, nI_leI, nI_eq, nI_add, nI_sub, nI_lt0, nI_e0, nI_m1, m1_nI, Nat.reduceEqDiff, Nat.reduceLT, Nat.reduceLeDiff, Nat.reduceAdd, Nat.reduceSub, Nat.reduceMul, ↓reduceIte, eq_self, bI, mcode, decide_true, decide_false, Nat.reduceEqDiff, Bool.false_eq_true, ls, msgn, l3, p2 _, p3 _]
    · simp only [show mdK t n (.inl q1) = 257 from hK] at s60 s76 s61 s78
      rw [hK] at ls ⊢
      simp (disch := first | with_reducible assumption | omega | exact Or.inl rfl | exact Or.inr rfl | exact bI_01 | exact c_cat | exact vt_ref | exact vt_null | rfl | with_reducible repeat (first | assumption | omega | apply S_I | apply S_L | apply S_D | apply ob_I | apply ob_L | apply ob_D | apply ob_R | apply ax_I | apply ax_L | apply ax_D | apply ax_R | apply o303 | apply o307 | apply o302 | apply o301 | apply ax304 | apply ax305 | apply ax306 | apply ax308 | apply ax309 | apply ax310 | apply lt_S | apply ar305 | apply ar308 | apply ar309)) only [g211_6, g211_8, g211_11, g211_14, g211_15, g211_17, g211_20, g211_23, g211_24, g211_26, g211_29, g211_32, g211_33, g211_35, g211_38, g211_41, g211_42, g211_45, g211_46, g211_47, g211_48, g211_51, g211_54, g211_55, s60, s76, s61, s78, Option.toList, List.nil_append, List.cons_append, va_rf, nI_ltI, nI_leI, nI_eq, nI_add, nI_sub, nI_lt0, nI_e0, nI_m1, m1_nI, Nat.reduceEqDiff, Nat.reduceLT, Nat.reduceLeDiff, Nat.reduceAdd, Nat.reduceSub, Nat.reduceMul, ↓reduceIte, eq_self, bI, mcode, decide_true, decide_false, Nat.reduceEqDiff, Bool.false_eq_true, ls, msgn, l3, p2 _, p3 _]
  -- a fault ahead of the operand
  have bad : ∀ y, BX h2 t n y → BM m3 t n y m → ∃ hx2 hm2 mr2 w6 w2 w3, (∀ Q, am_J (e + 4) 77 51 [some (.ref 301), some (.int (nI 0)), some (.int (nI C.length)), some (.int (nI P.length)), some (.int most), some (.int (nI turn)), v6] [] hx1 Q ↔ am_J (e + 4) 77 51 [some (.ref 301), some (.int (nI 0)), some (.int (nI C.length)), some (.int (nI P.length)), some (.int most), some (.int (nI (turn + 1))), w6] [] hx2 Q) ∧ (∀ Q, am_J (e + 4) 211 5 [some (.ref 349), some (.int (nI r)), v2, v3] [] hm1 Q ↔ am_J (e + 4) 211 73 [some (.ref 349), some (.int mr2), w2, w3] [] hm2 Q) ∧ XF hx hx2 ∧ MF hm hm2 m ∧ (∃ y, BX hx2 t n y ∧ BM hm2 t n y m) := by
    intro y B BB
    obtain ⟨h3, r3, B3, F3⟩ := bx_rk1 (d := e) he B
    obtain ⟨C3, P3, N3, F3', k3, o3, ln3, lp3, X3⟩ := id B3
    obtain ⟨h4, W4, F4, X4⟩ := x_iter2 (d := e + 3) (v1 := some (.int (nI 0))) (v2 := some (.int (nI C.length))) (v3 := some (.int (nI P.length))) (j := 0) X3 hop2 (most := most) (turn := turn)
    obtain ⟨m4, w4, p4, -, -, B4, G4⟩ := bm_node (d := e + 3) (v5 := none) BB (kd := nI 6) (x := nI (msgn (lx_K t n q1))) (y' := nI r) (z := nI 0)
    have SM4 := (bm_S B4).1
    refine ⟨h4, m4, nI w4, some (.int (nI (opN (msgn (lx_K t n q1))))), some (.int (nI (msgn (lx_K t n q1)))), some (.int (nI 0)), fun Q => ?_, fun Q => ?_, XF_trans Fx2 (XF_trans F3 F4), MF_trans Fm3 G4 (Nat.le_refl _), y, BX_of X4, B4⟩
    · rw [W2, ← W4]
      simp (disch := first | with_reducible assumption | omega | exact Or.inl rfl | exact Or.inr rfl | exact bI_01 | exact c_cat | exact vt_ref | exact vt_null | rfl | with_reducible repeat (first | assumption | omega | apply S_I | apply S_L | apply S_D | apply ob_I | apply ob_L | apply ob_D | apply ob_R | apply ax_I | apply ax_L | apply ax_D | apply ax_R | apply o303 | apply o307 | apply o302 | apply o301 | apply ax304 | apply ax305 | apply ax306 | apply ax308 | apply ax309 | apply ax310 | apply lt_S | apply ar305 | apply ar308 | apply ar309)) only [g77_127, g77_128, g77_129, g77_130, g77_131, Option.toList, List.nil_append, List.cons_append, va_rf, nI_ltI, nI_leI, nI_eq, nI_add, nI_sub, nI_lt0, nI_e0, nI_m1, m1_nI, Nat.reduceEqDiff, Nat.reduceLT, Nat.reduceLeDiff, Nat.reduceAdd, Nat.reduceSub, Nat.reduceMul, ↓reduceIte, eq_self, r3 _]
    · rw [WM]
      simp (disch := first | with_reducible assumption | omega | exact Or.inl rfl | exact Or.inr rfl | exact bI_01 | exact c_cat | exact vt_ref | exact vt_null | rfl | with_reducible repeat (first | assumption | omega | apply S_I | apply S_L | apply S_D | apply ob_I | apply ob_L | apply ob_D | apply ob_R | apply ax_I | apply ax_L | apply ax_D | apply ax_R | apply o303 | apply o307 | apply o302 | apply o301 | apply ax304 | apply ax305 | apply ax306 | apply ax308 | apply ax309 | apply ax310 | apply lt_S | apply ar305 | apply ar308 | apply ar309)) only [g211_58, g211_59, g211_62, g211_63, g211_64, g211_66, g211_67, g211_68, g211_69, g211_72, Option.toList, List.nil_append, List.cons_append, va_rf, bm_sub212 (d := e) BB, p4 _]
  by_cases c40 : k1 < 40
  · rw [if_pos c40, if_pos c40] at X2
    rw [mpart_good c40] at Y2 Y3
    match hA : mdA t n (.inl q1) with
    | .inr y =>
      rw [hA] at X2 Y3
      obtain ⟨a1, a2, a3, a4, a5, a6, a7, a8, a9, a10, a11⟩ := bad y (BX_of X2) (BM_of Y3 (by omega))
      exact ⟨a1, a2, a3, a4, a5, a6, a7, a8, a9, a10, Or.inl a11⟩
    | .inl q2 =>
      rw [hA] at X2 Y3
      obtain ⟨g4, g5, g6⟩ := mdA_gt hq1 hA
      have hq2 : q2 ≤ n := X2.2.2.1.2.2.1
      have eC2 : xins (C1.take C.length) (C1.drop C.length) = C1.take C.length ++ ST :: C1.drop C.length := if_pos (by rw [List.take_append_drop]; omega)
      have eP2' := eP2 c40
      have eP3 : xpin (P1.take P.length) (P1.drop P.length) (nI 40) = P1.take P.length ++ nI 40 :: P1.drop P.length := by
        unfold xpin; rw [if_pos (by rw [List.take_append_drop]; omega), by8_nI 40 (by decide)]
      have lC2 : (xins (C1.take C.length) (C1.drop C.length)).length = C1.length + 1 := by
        rw [eC2]; simp; omega
      have lP3 : (xpin (P1.take P.length) (P1.drop P.length) (nI 40)).length = P1.length + 1 := by
        rw [eP3]; simp; omega
      have lP2 := xcop_len (t := t) (n := n) (lx_E t n q1 - q1) q1 (xpin (P1.take P.length) (P1.drop P.length) (nI 40))
      have lP2' := xcop_ge (t := t) (n := n) (lx_E t n q1 - q1) q1 (xpin (P1.take P.length) (P1.drop P.length) (nI 40))
      rw [← eP2'] at lP2 lP2'
      obtain ⟨hx3, hm3, mr3, rx3, rm3, Fx3, Fm4, J3⟩ := Sub h2 m3 q2 _ P2 N1 F1 (k1 + 1) o m1 (mgO ltx W) (mgO ltm W) hf ⟨⟨lnx, lpx, X2, LX1⟩, ⟨lnm, lpm, Y3, LM1⟩, Gv2, cfX_XF F2 KX1, cfM_MF (MF_trans G2 G3 (Nat.le_refl _)) KM1, KR, by omega, by omega, by omega, by omega, ho, hq2, hn⟩
      have Fx3' := XF_trans Fx2 Fx3
      have Fm4' := MF_trans Fm3 Fm4 b4
      unfold lxL at rx3
      unfold lm3 at rm3
      have wr : ∀ h4 (m4 : am_H), XF hx3 h4 → True := fun _ _ _ => trivial
      rcases J3 with ⟨y, B3, BB3⟩ | ⟨q3, C3, P3, N3, F3, k3, m4, W3, r3, lnx3, lpx3, lnm3, lpm3, ⟨c1, c2, c3, c4, c5, c6, c7, c8, c9, c10⟩, e3, X3, LX3, Y4, LM3, hW3, hR3⟩
      · obtain ⟨C3, P3, N3, F3', k3, o3, ln3, lp3, X3⟩ := id B3
        obtain ⟨h4, W4, F4, X4⟩ := x_iter2 (d := e + 3) (v1 := some (.int (nI 0))) (v2 := some (.int (nI C.length))) (v3 := some (.int (nI P.length))) (j := 0) X3 hop2 (most := most) (turn := turn)
        have BB3' : BM hm3 t n y m := by
          obtain ⟨z1, z2, z3, z4, z5, z6, z7⟩ := BB3
          exact ⟨z1, z2, z3, z4, z5, by omega, z7⟩
        obtain ⟨m5, w5, p5, -, -, B5, G5⟩ := bm_node (d := e + 3) (v5 := none) BB3' (kd := nI 6) (x := nI (msgn (lx_K t n q1))) (y' := nI r) (z := mr3)
        have SMh := (bm_S BB3').1
        refine ⟨h4, m5, nI w5, some (.int (nI (opN (msgn (lx_K t n q1))))), some (.int (nI (msgn (lx_K t n q1)))), some (.int mr3), fun Q => ?_, fun Q => ?_, XF_trans Fx3' F4, MF_trans Fm4' G5 (Nat.le_refl _), Or.inl ⟨y, BX_of X4, B5⟩⟩
        · rw [W2, ← W4]
          simp (disch := first | with_reducible assumption | omega | exact Or.inl rfl | exact Or.inr rfl | exact bI_01 | exact c_cat | exact vt_ref | exact vt_null | rfl | with_reducible repeat (first | assumption | omega | apply S_I | apply S_L | apply S_D | apply ob_I | apply ob_L | apply ob_D | apply ob_R | apply ax_I | apply ax_L | apply ax_D | apply ax_R | apply o303 | apply o307 | apply o302 | apply o301 | apply ax304 | apply ax305 | apply ax306 | apply ax308 | apply ax309 | apply ax310 | apply lt_S | apply ar305 | apply ar308 | apply ar309)) only [g77_127, g77_128, g77_129, g77_130, g77_131, Option.toList, List.nil_append, List.cons_append, va_rf, nI_ltI, nI_leI, nI_eq, nI_add, nI_sub, nI_lt0, nI_e0, nI_m1, m1_nI, Nat.reduceEqDiff, Nat.reduceLT, Nat.reduceLeDiff, Nat.reduceAdd, Nat.reduceSub, Nat.reduceMul, ↓reduceIte, eq_self, rx3 _]
        · rw [WM]
          simp (disch := first | with_reducible assumption | omega | exact Or.inl rfl | exact Or.inr rfl | exact bI_01 | exact c_cat | exact vt_ref | exact vt_null | rfl | with_reducible repeat (first | assumption | omega | apply S_I | apply S_L | apply S_D | apply ob_I | apply ob_L | apply ob_D | apply ob_R | apply ax_I | apply ax_L | apply ax_D | apply ax_R | apply o303 | apply o307 | apply o302 | apply o301 | apply ax304 | apply ax305 | apply ax306 | apply ax308 | apply ax309 | apply ax310 | apply lt_S | apply ar305 | apply ar308 | apply ar309)) only [g211_58, g211_59, g211_62, g211_63, g211_64, g211_66, g211_67, g211_68, g211_69, g211_72, Option.toList, List.nil_append, List.cons_append, va_rf, rm3 _, p5 _]
      · subst e3
        obtain ⟨h4, W4, F4, X4⟩ := x_iter2 (d := e + 3) (v1 := some (.int (nI 0))) (v2 := some (.int (nI C.length))) (v3 := some (.int (nI P.length))) (j := 0) X3 hop2 (most := most) (turn := turn)
        obtain ⟨m6, p6, Y6, G6, tb6⟩ := m_nodeG (d := e + 3) (v5 := none) Y4 (by omega) (kd := nI 6) (x := nI (msgn (lx_K t n q1))) (y := nI r) (z := nI r3)
        have SMh := Y4.1
        have d1 := xadd_len (C := C3) (x := (nI (opN (msgn (lx_K t n q1))), lN 0))
        have d2 := xadd_ge (C := C3) (x := (nI (opN (msgn (lx_K t n q1))), lN 0))
        have d3 := xpad_len (P := P3) (w := nI 41)
        have d4 := xpad_ge (P := P3) (w := nI 41)
        refine ⟨h4, m6, nI m4, some (.int (nI (opN (msgn (lx_K t n q1))))), some (.int (nI (msgn (lx_K t n q1)))), some (.int (nI r3)), fun Q => ?_, fun Q => ?_, XF_trans Fx3' F4, MF_trans Fm4' G6 (by omega), Or.inr ⟨q3, _, _, N3, F3, k3, m4 + 1, mgO W W3, m4, lnx3, lpx3, lnm3, lpm3, ⟨by omega, by omega, c3, by omega, by omega, by omega, by omega, by omega, by omega, by omega⟩, rfl, X4, ?_, Y6, ?_, (fun z ez => ?_), fun ez => ?_⟩⟩
        · rw [W2, ← W4]
          simp (disch := first | with_reducible assumption | omega | exact Or.inl rfl | exact Or.inr rfl | exact bI_01 | exact c_cat | exact vt_ref | exact vt_null | rfl | with_reducible repeat (first | assumption | omega | apply S_I | apply S_L | apply S_D | apply ob_I | apply ob_L | apply ob_D | apply ob_R | apply ax_I | apply ax_L | apply ax_D | apply ax_R | apply o303 | apply o307 | apply o302 | apply o301 | apply ax304 | apply ax305 | apply ax306 | apply ax308 | apply ax309 | apply ax310 | apply lt_S | apply ar305 | apply ar308 | apply ar309)) only [g77_127, g77_128, g77_129, g77_130, g77_131, Option.toList, List.nil_append, List.cons_append, va_rf, nI_ltI, nI_leI, nI_eq, nI_add, nI_sub, nI_lt0, nI_e0, nI_m1, m1_nI, Nat.reduceEqDiff, Nat.reduceLT, Nat.reduceLeDiff, Nat.reduceAdd, Nat.reduceSub, Nat.reduceMul, ↓reduceIte, eq_self, rx3 _]
        · rw [WM]
          simp (disch := first | with_reducible assumption | omega | exact Or.inl rfl | exact Or.inr rfl | exact bI_01 | exact c_cat | exact vt_ref | exact vt_null | rfl | with_reducible repeat (first | assumption | omega | apply S_I | apply S_L | apply S_D | apply ob_I | apply ob_L | apply ob_D | apply ob_R | apply ax_I | apply ax_L | apply ax_D | apply ax_R | apply o303 | apply o307 | apply o302 | apply o301 | apply ax304 | apply ax305 | apply ax306 | apply ax308 | apply ax309 | apply ax310 | apply lt_S | apply ar305 | apply ar308 | apply ar309)) only [g211_58, g211_59, g211_62, g211_63, g211_64, g211_66, g211_67, g211_68, g211_69, g211_72, Option.toList, List.nil_append, List.cons_append, va_rf, rm3 _, p6 _]
        · rw [← mgO_assoc]; exact LX3
        · rw [← mgO_assoc]; exact LM3
        · exact mgO_bd hW hW3 (by omega) (by omega) z ez
        · obtain ⟨w1, w3⟩ := mgO_eq_none ez
          obtain ⟨D1, E1, L1, G1, R1, u1, u2, u3, u4⟩ := hR w1
          obtain ⟨D2, E2, L2, G2', R2, v1', v2', v3', v4'⟩ := hR3 w3
          have tk1 : C1.take C.length = C := by rw [u1]; exact List.take_left
          have dk1 : C1.drop C.length = D1 := by rw [u1]; exact List.drop_left
          have tk2 : P1.take P.length = P := by rw [u2]; exact List.take_left
          have dk2 : P1.drop P.length = E1.map nI := by rw [u2]; exact List.drop_left
          refine ⟨ST :: D1 ++ D2 ++ [(nI (opN (msgn (lx_K t n q1))), lN 0)], 40 :: E1 ++ sgN (msgn (lx_K t n q1)) ++ E2 ++ [41], L1 ++ L2, G1 ++ G2', ?_, ?_, ?_, ?_, ?_⟩
          · have T1 : ∀ i, i < m1 → tb m6 3648 i = tb hm1 3648 i := fun i hi => by
              rw [tb_same G6 (by omega), tb_same Fm4 (by omega), tb_same G3 (by omega), tb_same G2 (by omega)]
            refine ⟨?_, NC_end (NC_app (NC_T R1.2 T1) (NC_T R2.2 (fun i hi => tb_same G6 hi))) tb6 (by decide)⟩
            obtain ⟨fw, hfw⟩ : ∃ fw, k3 - k + 41 * (10 - o) = fw + 1 := ⟨k3 - k + 41 * (10 - o) - 1, by omega⟩
            rw [hfw]
            apply Rp_mk
            refine ⟨by omega, Or.inr (Or.inr (Or.inr (Or.inr (Or.inr (Or.inl ⟨msgn (lx_K t n q1), r, r3, D1, E1, L1, G1, D2, E2, L2, G2', hsg, by omega, c6, tb6, ?_, ?_, rfl, rfl, rfl, rfl⟩)))))⟩
            · exact Rp_mono (M := m1) (by omega) T1 (by omega) R1.1
            · exact Rp_mono (M := m4) (by omega) (fun i hi => tb_same G6 hi) (by omega) R2.1
          · rw [xadd_eq (by omega), v1', eC2, tk1, dk1]; simp
          · have hq3 : q3 ≤ n := X3.2.2.1.2.2.1
            have lP3' := lP3
            rw [eP3, tk2, dk2] at lP3'
            rw [xpad_eq (by omega) (by decide), v2', eP2', eP3, tk2, dk2, xcop_eq _ _ _ (by omega) (by rw [lP3']; omega) hEt.2, hEt.1]; simp
          · rw [v3', u3, List.foldl_append]
          · rw [v4', u4, List.foldl_append]
  · obtain rfl : k1 = 40 := by omega
    rw [if_neg c40, if_neg c40] at X2
    rw [mpart_bad] at Y2 Y3
    obtain ⟨a1, a2, a3, a4, a5, a6, a7, a8, a9, a10, a11⟩ := bad (3, q1) (BX_of X2) (BM_of Y3 (by omega))
    exact ⟨a1, a2, a3, a4, a5, a6, a7, a8, a9, a10, Or.inl a11⟩
end JTW

/-! BOTH PARSERS: what both come to behind an E; the leaves -/
def gF (F : Int32) (g : Nat × Nat) : Int32 := F ||| (nI 1 <<< (nI g.1 &&& 31))
/-- how names are printed -/
def pNm (so : Nat) (agM cnM : Nat → Int64) (k : Nat) : List Nat := if so = 2 then ltM (agM k) else ltM (cnM k)
def pFm (so on : Nat) (oM : Int64) (fnM : Nat → Int64) (z : Nat) : List Nat := ltM (fnM (100 + z))
/-- fnM from 100 on: the name of a function by number and arguments (4 * g + gv) -/
def FE (so on na nf : Nat) (oM : Int64) (fnM : Nat → Int64) (fnA : Nat → Nat) : Prop := (∀ g gv, g < nf → fnA g = gv → ¬ (so = 2 ∧ fnM g = oM) → fnM (100 + (4 * g + gv)) = fnM g) ∧ (so = 2 → fnM (100 + (4 * on + na)) = oM)
/-- names that are seen; from 1000 on: and no cells -/
def knO (so na vis : Nat) : Nat := if so = 2 then na else if so = 1 then 1000 + vis else vis
theorem knO_X {h : am_H} {so s vis on na nc nf : Nat} {oX : Int64} {agX cnX fnX : Nat → Int64} {fnA : Nat → Nat} (K : cfX h so s vis on na nc nf oX agX cnX fnX fnA) (h0 : so = 0) : knO so na vis < 1000 := by
  have h1 := K.2.2.2.1
  have h2 := K.2.2.2.2.1
  unfold knO
  rw [if_neg (by omega), if_neg (by omega)]
  omega
/-- every call of a function among the nodes from a on, below b, is one of G -/
def NC (T : ntT) (a b : Nat) (G : List (Nat × Nat)) : Prop := ∀ i, a ≤ i → i < b → (T i).1 = nI 8 ∨ (T i).1 = nI 9 → ∃ z, z ∈ G ∧ (T i).2.2.2.2 = lN z.1
section NCS
variable {T T' : ntT} {a b c k : Nat} {G G' : List (Nat × Nat)} {x y z w' : Int32} {w : Int64}
theorem NC_app (h1 : NC T a b G) (h2 : NC T b c G') : NC T a c (G ++ G') := fun i hi hc hk => by
  by_cases q : i < b
  · obtain ⟨z, h3, h4⟩ := h1 i hi q hk
    exact ⟨z, List.mem_append.mpr (Or.inl h3), h4⟩
  · obtain ⟨z, h3, h4⟩ := h2 i (by omega) hc hk
    exact ⟨z, List.mem_append.mpr (Or.inr h3), h4⟩
theorem NC_sub (h : NC T a b G) (hG : ∀ z, z ∈ G → z ∈ G') : NC T a b G' := fun i h1 h2 h3 => by
  obtain ⟨z, h4, h5⟩ := h i h1 h2 h3
  exact ⟨z, hG z h4, h5⟩
theorem NC_T (h : NC T a b G) (hT : ∀ i, i < b → T' i = T i) : NC T' a b G := fun i h1 h2 h3 => by
  rw [hT i h2] at h3 ⊢
  exact h i h1 h2 h3
theorem NC_kd (h : T a = (nI k, x, y, z, w)) (hk : k < 100 ∧ k ≠ 8 ∧ k ≠ 9) : NC T a (a + 1) G := fun i h1 h2 h3 => by
  obtain rfl : i = a := by omega
  rw [h] at h3
  rcases h3 with h3 | h3
  · exact absurd ((nI_eq (by omega) (by omega)).mp h3) (by omega)
  · exact absurd ((nI_eq (by omega) (by omega)).mp h3) (by omega)
theorem NC_end (h1 : NC T a b G) (h : T b = (nI k, x, y, z, w)) (hk : k < 100 ∧ k ≠ 8 ∧ k ≠ 9) : NC T a (b + 1) G := by
  have := NC_app h1 (NC_kd (G := []) h hk)
  rwa [List.append_nil] at this
theorem NC_call {g : Nat × Nat} (h1 : NC T a b G) (h : T b = (x, y, z, w', lN g.1)) (hg : g ∈ G) : NC T a (b + 1) G := fun i h1' h2 h3 => by
  by_cases c : i < b
  · exact h1 i h1' c h3
  · obtain rfl : i = b := by omega
    exact ⟨g, hg, by rw [h]⟩
theorem NC_nil : NC T a a G := fun i h1 h2 => by omega
end NCS
/-- where both stand behind an E, good (q, C, P, N, F, k, o, m, ltx, ltm: before it) -/
def JG (t : Nat → Nat) (n so on na vis : Nat) (oM : Int64) (agM cnM fnM : Nat → Int64) (hx' hm' : am_H) (q : Nat) (C : List (Int32 × Int64)) (P : List Int32) (N : List Nat) (F : Int32) (k o m : Nat) (ltx ltm : Option (Nat × Nat)) (mr : Int32) : Prop :=
  ∃ q' C' P' N' F' k' m' W r lnx lpx lnm lpm, (q < q' ∧ k < k' ∧ k' ≤ 40 ∧ m ≤ m' ∧ m' ≤ m + (k' - k) ∧ r < m' ∧ C'.length ≤ C.length + 3 * (k' - k) ∧ P'.length ≤ P.length + (q' - q) + 2 * (k' - k) ∧ C.length ≤ C'.length ∧ P.length ≤ P'.length) ∧ mr = nI r ∧
    PX hx' t n (.inl q') C' P' N' F' (nI k') (nI o) lnx lpx ∧ LT lnx lpx (mgO ltx W) ∧ MX hm' t n (.inl q') (nI k') (nI o) m' lnm lpm ∧ LT lnm lpm (mgO ltm W) ∧ (∀ z, W = some z → q ≤ z.2 ∧ z.2 < q') ∧
    (W = none → ∃ D E L G, (Rp (decide (so = 2)) (knO so na vis) (tb hm' 3648) m' (pNm so agM cnM) (pFm so on oM fnM) (k' - k + 41 * (10 - o)) r D E L G ∧ NC (tb hm' 3648) m m' G) ∧ C' = C ++ D ∧ P' = P ++ E.map nI ∧ N' = L.foldl nadd N ∧ F' = G.foldl gF F)
def JP (t : Nat → Nat) (n so on na vis : Nat) (oM : Int64) (agM cnM fnM : Nat → Int64) (hx hm hx' hm' : am_H) (q : Nat) (C : List (Int32 × Int64)) (P : List Int32) (N : List Nat) (F : Int32) (k o m : Nat) (ltx ltm : Option (Nat × Nat)) (mr : Int32) : Prop :=
  XF hx hx' ∧ MF hm hm' m ∧ ((∃ y, BX hx' t n y ∧ BM hm' t n y m) ∨ JG t n so on na vis oM agM cnM fnM hx' hm' q C P N F k o m ltx ltm mr)
/-- where both stand at a token -/
def JS (t : Nat → Nat) (n so s vis on na nc nf : Nat) (oX oM : Int64) (agX agM cnX cnM fnX fnM : Nat → Int64) (fnA : Nat → Nat) (hx hm : am_H) (q : Nat) (C : List (Int32 × Int64)) (P : List Int32) (N : List Nat) (F : Int32) (k o m : Nat) (ltx ltm : Option (Nat × Nat)) : Prop :=
  (∃ lnx lpx, PX hx t n (.inl q) C P N F (nI k) (nI o) lnx lpx ∧ LT lnx lpx ltx) ∧ (∃ lnm lpm, MX hm t n (.inl q) (nI k) (nI o) m lnm lpm ∧ LT lnm lpm ltm) ∧ am_Gv hx ∧ cfX hx so s vis on na nc nf oX agX cnX fnX fnA ∧ cfM hm so s vis on na nc nf oM agM cnM fnM fnA ∧ cfR so na nc nf oX oM agX agM cnX cnM fnX fnM fnA ∧ C.length ≤ 3 * k ∧ P.length ≤ q + 2 * k ∧ m ≤ k ∧ k ≤ 40 ∧ o ≤ 10 ∧ q ≤ n ∧ n ≤ 240
section JLF
variable {d : Nat} {hx hm : am_H} {so s vis on na nc nf : Nat} {oX oM : Int64} {agX agM cnX cnM fnX fnM : Nat → Int64} {fnA : Nat → Nat}
variable {t : Nat → Nat} {n q : Nat} {C : List (Int32 × Int64)} {P : List Int32} {N : List Nat} {F : Int32} {k o m : Nat} {ltx ltm : Option (Nat × Nat)}
theorem nI_lt40 {k : Nat} (h : k < 40) : (nI k < nI 40) = True := eq_true (nI_lt h (by decide))
theorem xpart_good {k : Nat} (h : k < 40) : xpart (.inl q) (nI k) = (.inl q, nI (k + 1)) := by
  unfold xpart; rw [if_pos (nI_lt h (by decide)), nI_add]
theorem xpart_bad : xpart (.inl q) (nI 40) = (.inr (3, q), nI 40) := by
  unfold xpart; rw [if_neg (by decide)]; rfl
theorem mpart_good {k : Nat} (h : k < 40) : mpart (.inl q) (nI k) = .inl q := by
  unfold mpart; rw [if_neg (fun e => by have := (nI_eq (by omega) (by decide)).mp e; omega)]
theorem mpart_bad : mpart (.inl q) (nI 40) = .inr (3, q) := by
  unfold mpart; rw [if_pos rfl]; rfl
theorem xopen_good {o : Nat} (h : o < 10) : xopen (.inl q) (nI o) = (.inl q, nI (o + 1)) := by
  unfold xopen; rw [if_pos (nI_lt h (by decide)), nI_add]
theorem xopen_bad : xopen (.inl q) (nI 10) = (.inr (3, q), nI 10) := by
  unfold xopen; rw [if_neg (by decide)]; rfl
theorem mopen_good {o : Nat} (h : o < 10) : mopen (.inl q) (nI o) = .inl q := by
  unfold mopen; rw [if_neg (fun e => by have := (nI_eq (by omega) (by decide)).mp e; omega)]
theorem mopen_bad : mopen (.inl q) (nI 10) = .inr (3, q) := by
  unfold mopen; rw [if_pos rfl]; rfl
/-- the model's number -/
theorem m_numLoop (hK : lx_K t n q = 260 ∨ lx_K t n q = 261) {h : am_H} {Q : Option Value → am_H → Prop} (S : am_S h) (T : mT h t n) (E1 : am_I h 349 17 = nI (lx_E t n q)) : ∀ r i, lx_E t n q - i = r → q ≤ i → i ≤ lx_E t n q → (am_J d 216 21 [some (.ref 349), some (.long (lN (if i ≤ lx_G t n q then lx_w 10 48 t q (i - q) else lx_w 10 48 t q (lx_G t n q - q) * 10 ^ (i - (lx_G t n q + 1)) + lx_w 10 48 t (lx_G t n q + 1) (i - (lx_G t n q + 1))))), none, some (.int (nI (i - (lx_G t n q + 1)))), some (.int (bI (decide (lx_G t n q < i)))), some (.int (nI i))] [] h Q ↔ am_J d 216 86 [some (.ref 349), some (.long (lN (lx_v t n q))), none, some (.int (nI (lx_b t n q))), some (.int (bI (decide (lx_G t n q < lx_E t n q)))), some (.int (nI (lx_E t n q)))] [] h Q) := by
  have h240 := T.2.1
  obtain ⟨a1, a2, a3, a4, a5, a6, a7⟩ := lx_numG hK
  have hE : lx_E t n q ≤ n := (num_text hK).2.2.2.1
  intro r
  induction r with
  | zero =>
    intro i hr hq hi
    obtain rfl : i = lx_E t n q := by omega
    rw [g216_21]
    simp (disch := first | with_reducible assumption | omega | exact Or.inl rfl | exact Or.inr rfl | exact bI_01 | exact c_cat | exact vt_ref | exact vt_null | rfl | with_reducible repeat (first | assumption | omega | apply S_I | apply S_L | apply S_D | apply ob_I | apply ob_L | apply ob_D | apply ob_R | apply ax_I | apply ax_L | apply ax_D | apply ax_R | apply o303 | apply o307 | apply o302 | apply o301 | apply ax304 | apply ax305 | apply ax306 | apply ax308 | apply ax309 | apply ax310 | apply lt_S | apply ar305 | apply ar308 | apply ar309)) only [g216_23, g216_24, g216_27, E1, nI_ltI, nI_leI, nI_eq, nI_add, nI_sub, nI_lt0, nI_e0, nI_m1, m1_nI, Nat.reduceEqDiff, Nat.reduceLT, Nat.reduceLeDiff, Nat.reduceAdd, Nat.reduceSub, Nat.reduceMul, ↓reduceIte, eq_self, Nat.le_refl]
    rcases hK with c | c
    · obtain ⟨b1, b2, b3, b4⟩ := a6 c
      rw [b1, b2, b3, if_pos (Nat.le_refl _), show lx_G t n q - (lx_G t n q + 1) = 0 by omega]
    · obtain ⟨c1, c2, c3, c4, c5, c6, c7, c8, c9⟩ := a7 c
      rw [c8, c7, if_neg (by omega)]
  | succ r ih =>
    intro i hr hq hi
    obtain ⟨t1, t2, t3⟩ := T.2.2 i (by omega)
    rw [← ih (i + 1) (by omega) (by omega) (by omega), g216_21]
    rcases Nat.lt_trichotomy i (lx_G t n q) with c | c | c
    · obtain ⟨d1, d2⟩ := a4 i hq c
      have ew : 10 * lx_w 10 48 t q (i - q) + t i - 48 = lx_w 10 48 t q (i + 1 - q) := by
        rw [show i + 1 - q = (i - q) + 1 by omega]
        show _ = lx_w 10 48 t q (i - q) * 10 + (t (q + (i - q)) - 48)
        rw [show q + (i - q) = i by omega]; omega
      rw [if_pos (show i ≤ lx_G t n q by omega), if_pos (show i + 1 ≤ lx_G t n q by omega), decide_eq_false (show ¬ lx_G t n q < i by omega), decide_eq_false (show ¬ lx_G t n q < i + 1 by omega), show i - (lx_G t n q + 1) = 0 by omega, show i + 1 - (lx_G t n q + 1) = 0 by omega, ← ew]
      simp (disch := first | with_reducible assumption | omega | exact Or.inl rfl | exact Or.inr rfl | exact bI_01 | exact c_cat | exact vt_ref | exact vt_null | rfl | with_reducible repeat (first | assumption | omega | apply S_I | apply S_L | apply S_D | apply ob_I | apply ob_L | apply ob_D | apply ob_R | apply ax_I | apply ax_L | apply ax_D | apply ax_R | apply o303 | apply o307 | apply o302 | apply o301 | apply ax304 | apply ax305 | apply ax306 | apply ax308 | apply ax309 | apply ax310 | apply lt_S | apply ar305 | apply ar308 | apply ar309)) only [g216_23, g216_24, g216_27, g216_30, g216_31, g216_34, g216_36, g216_37, g216_39, g216_42, g216_43, g216_45, g216_48, g216_51, g216_52, g216_53, g216_54, g216_57, g216_59, g216_60, g216_61, g216_62, g216_65, g216_66, g216_67, g216_68, g216_70, g216_73, g216_74, g216_77, g216_78, g216_79, g216_80, g216_83, E1, nI_ltI, nI_leI, nI_eq, nI_add, nI_sub, nI_lt0, nI_e0, nI_m1, m1_nI, Nat.reduceEqDiff, Nat.reduceLT, Nat.reduceLeDiff, Nat.reduceAdd, Nat.reduceSub, Nat.reduceMul, ↓reduceIte, eq_self, show ¬ lx_E t n q ≤ i by omega, t3, show ¬ t i = 46 by omega, nI_l, lN_mul, lN_add, lN_sub, bI_f, Nat.add_zero]
    · have h6 : t i = 46 := by
        rcases hK with e | e
        · have := (a6 e).1; omega
        · rw [c]; exact (a7 e).2.1
      rw [if_pos (show i ≤ lx_G t n q by omega), if_neg (show ¬ i + 1 ≤ lx_G t n q by omega), decide_eq_false (show ¬ lx_G t n q < i by omega), decide_eq_true (show lx_G t n q < i + 1 by omega), show i - (lx_G t n q + 1) = 0 by omega, show i + 1 - (lx_G t n q + 1) = 0 by omega, c]
      rw [c] at h6 t3
      rw [Nat.pow_zero, Nat.mul_one, show lx_w 10 48 t (lx_G t n q + 1) 0 = 0 from rfl, Nat.add_zero]
      simp (disch := first | with_reducible assumption | omega | exact Or.inl rfl | exact Or.inr rfl | exact bI_01 | exact c_cat | exact vt_ref | exact vt_null | rfl | with_reducible repeat (first | assumption | omega | apply S_I | apply S_L | apply S_D | apply ob_I | apply ob_L | apply ob_D | apply ob_R | apply ax_I | apply ax_L | apply ax_D | apply ax_R | apply o303 | apply o307 | apply o302 | apply o301 | apply ax304 | apply ax305 | apply ax306 | apply ax308 | apply ax309 | apply ax310 | apply lt_S | apply ar305 | apply ar308 | apply ar309)) only [g216_23, g216_24, g216_27, g216_30, g216_31, g216_34, g216_36, g216_37, g216_39, g216_42, g216_43, g216_45, g216_48, g216_51, g216_52, g216_53, g216_54, g216_57, g216_59, g216_60, g216_61, g216_62, g216_65, g216_66, g216_67, g216_68, g216_70, g216_73, g216_74, g216_77, g216_78, g216_79, g216_80, g216_83, E1, nI_ltI, nI_leI, nI_eq, nI_add, nI_sub, nI_lt0, nI_e0, nI_m1, m1_nI, Nat.reduceEqDiff, Nat.reduceLT, Nat.reduceLeDiff, Nat.reduceAdd, Nat.reduceSub, Nat.reduceMul, ↓reduceIte, eq_self, show ¬ lx_E t n q ≤ lx_G t n q by omega, t3, h6, bI_t]
    · have hd : 48 ≤ t i ∧ t i ≤ 57 := by
        rcases hK with e | e
        · have := (a6 e).1; omega
        · exact (a7 e).2.2.2.2.2.1 i (by omega) (by omega)
      rw [if_neg (show ¬ i ≤ lx_G t n q by omega), if_neg (show ¬ i + 1 ≤ lx_G t n q by omega), decide_eq_true (show lx_G t n q < i by omega), decide_eq_true (show lx_G t n q < i + 1 by omega)]
      have ew : 10 * (lx_w 10 48 t q (lx_G t n q - q) * 10 ^ (i - (lx_G t n q + 1)) + lx_w 10 48 t (lx_G t n q + 1) (i - (lx_G t n q + 1))) + t i - 48 = lx_w 10 48 t q (lx_G t n q - q) * 10 ^ (i + 1 - (lx_G t n q + 1)) + lx_w 10 48 t (lx_G t n q + 1) (i + 1 - (lx_G t n q + 1)) := by
        rw [show i + 1 - (lx_G t n q + 1) = (i - (lx_G t n q + 1)) + 1 by omega, Nat.pow_succ, ← Nat.mul_assoc]
        show _ = _ + (lx_w 10 48 t (lx_G t n q + 1) (i - (lx_G t n q + 1)) * 10 + (t (lx_G t n q + 1 + (i - (lx_G t n q + 1))) - 48))
        rw [show lx_G t n q + 1 + (i - (lx_G t n q + 1)) = i by omega]
        omega
      rw [← ew]
      simp (disch := first | with_reducible assumption | omega | exact Or.inl rfl | exact Or.inr rfl | exact bI_01 | exact c_cat | exact vt_ref | exact vt_null | rfl | with_reducible repeat (first | assumption | omega | apply S_I | apply S_L | apply S_D | apply ob_I | apply ob_L | apply ob_D | apply ob_R | apply ax_I | apply ax_L | apply ax_D | apply ax_R | apply o303 | apply o307 | apply o302 | apply o301 | apply ax304 | apply ax305 | apply ax306 | apply ax308 | apply ax309 | apply ax310 | apply lt_S | apply ar305 | apply ar308 | apply ar309)) only [g216_23, g216_24, g216_27, g216_30, g216_31, g216_34, g216_36, g216_37, g216_39, g216_42, g216_43, g216_45, g216_48, g216_51, g216_52, g216_53, g216_54, g216_57, g216_59, g216_60, g216_61, g216_62, g216_65, g216_66, g216_67, g216_68, g216_70, g216_73, g216_74, g216_77, g216_78, g216_79, g216_80, g216_83, E1, nI_ltI, nI_leI, nI_eq, nI_add, nI_sub, nI_lt0, nI_e0, nI_m1, m1_nI, Nat.reduceEqDiff, Nat.reduceLT, Nat.reduceLeDiff, Nat.reduceAdd, Nat.reduceSub, Nat.reduceMul, ↓reduceIte, eq_self, show ¬ lx_E t n q ≤ i by omega, t3, show ¬ t i = 46 by omega, nI_l, lN_mul, lN_add, lN_sub, bI_t, show i - (lx_G t n q + 1) + 1 = i + 1 - (lx_G t n q + 1) by omega]
end JLF

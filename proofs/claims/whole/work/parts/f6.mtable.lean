/-! THE MODEL: table, line, area -/
/-- the array q holds l -/
def dA (g : am_H) (q : Nat) (l : List UInt64) : Prop := ∀ j v, l[j]? = some v → am_D g q j = v ∧ okD v
section MTB
variable {h g g' : am_H} {r dp t d : Nat} {σ : SR} {cv : Nat → Option (Option VL)} {P : Nat → Prop} {a b x q : Nat}
theorem m_tabLoop (S : am_S h) (C : cvH h cv P) (cr : r < 256) (ha : a < 256) (hb : b < 256) (sd : rgS a b = true) (hP : ∀ j, j < rgN a b → P (rgC a b j)) (hx : x < 3696) (e1 : am_I h 353 x = nI a) (e2 : am_I h 354 x = nI b) (hq : q = 388 ∨ q = 389) :
    ∀ k i l σ g, rgN a b - i = k → i ≤ rgN a b → l.length = i → dA g q l → MW h g r dp t σ → am_I g 349 64 = nI 0 →
    ∃ g' res, (∀ Q, am_J (d + 3) 262 20 [some (.ref 349), some (.int (nI x)), some (.ref q), some (.int (nI (rgN a b))), some (.int (nI i))] [] g Q ↔ Q (some (.int res)) g') ∧
      MW h g' r dp t (evTab cv (rgF a b i k) l σ).2 ∧ AK g g' t ∧ (∀ q', q' = 388 ∨ q' = 389 → q' ≠ q → ∀ j, am_D g' q' j = am_D g q' j) ∧
      (∀ m, (evTab cv (rgF a b i k) l σ).1 = .inl m → res = nI (rgN a b) ∧ dA g' q m ∧ m.length = rgN a b ∧ am_I g' 349 64 = nI 0) ∧ ∀ f, (evTab cv (rgF a b i k) l σ).1 = .inr f → res = -1 ∧ MO h g' r (.inr f) := by
  have r64 := rgN_le sd
  intro k
  induction k with
  | zero =>
    intro i l σ g hk hi hl D A sp
    obtain rfl : i = rgN a b := by omega
    refine ⟨g, nI (rgN a b), fun Q => ?_, A, AK_refl, fun _ _ _ _ => rfl, fun m hm => ?_, fun f hf => ?_⟩
    · rw [g262_20]
      simp (disch := first | with_reducible assumption | omega | exact Or.inl rfl | exact Or.inr rfl | exact bI_01 | exact c_cat | exact vt_ref | exact vt_null | rfl | with_reducible repeat (first | assumption | omega | apply S_I | apply S_L | apply S_D | apply ob_I | apply ob_L | apply ob_D | apply ob_R | apply ax_I | apply ax_L | apply ax_D | apply ax_R | apply o303 | apply o307 | apply o302 | apply o301 | apply ax304 | apply ax305 | apply ax306 | apply ax308 | apply ax309 | apply ax310 | apply lt_S | apply ar305 | apply ar308 | apply ar309)) only [g262_22, g262_23, g262_26, g262_27, g262_30, g262_33, g262_34, g262_35, g262_36, g262_37, g262_38, g262_41, g262_42, g262_43, g262_44, g262_47, g262_48, g262_49, g262_51, g262_54, g262_55, g262_58, g262_59, g262_62, g262_65, g262_66, g262_67, g262_68, g262_70, g262_71, g262_74, g262_75, g262_78, g262_81, g262_82, Option.toList, List.nil_append, List.cons_append, va_rf, nI_ltI, nI_leI, nI_eq, nI_add, nI_sub, nI_lt0, nI_e0, nI_m1, m1_nI, Nat.reduceEqDiff, Nat.reduceLT, Nat.reduceLeDiff, Nat.reduceAdd, Nat.reduceSub, Nat.reduceMul, ↓reduceIte, eq_self, Nat.le_refl]
    · obtain rfl : l = m := Sum.inl.inj hm
      exact ⟨rfl, D, hl, sp⟩
    · cases hf
  | succ k ih =>
    intro i l σ g hk hi hl D A sp
    have hi2 : i < rgN a b := by omega
    have Sg := MW_S A S
    rw [rgF_s]
    by_cases s0 : σ.1 = 0
    · have ee : evTab cv (rgC a b i :: rgF a b (i + 1) k) l σ = (.inr (.inl 8), σ) := if_pos s0
      obtain ⟨g', r1, A1, K1, O1⟩ := m_stepN (d := d + 1) A S s0
      have Fg : am_fr rcP g g' := by
        have R2 : am_run (d + 1 + 1) 242 [some (.ref 349)] g (some (.int (nI 0))) (am_setI (gFa g 8 r) 349 64 (nI 1)) := fun Q => by
          have e := A.2.2.2.1
          have fl := m_fail (d := d + 1) (k := 8) A S
          have S2 := MW_S (gFa_W (k := 8) A) S
          rw [s0] at e
          simp (disch := first | with_reducible assumption | omega | exact Or.inl rfl | exact Or.inr rfl | exact bI_01 | exact c_cat | exact vt_ref | exact vt_null | rfl | with_reducible repeat (first | assumption | omega | apply S_I | apply S_L | apply S_D | apply ob_I | apply ob_L | apply ob_D | apply ob_R | apply ax_I | apply ax_L | apply ax_D | apply ax_R | apply o303 | apply o307 | apply o302 | apply o301 | apply ax304 | apply ax305 | apply ax306 | apply ax308 | apply ax309 | apply ax310 | apply lt_S | apply ar305 | apply ar308 | apply ar309)) only [g242_0, g242_1, g242_4, g242_7, g242_10, g242_11, g242_12, g242_15, g242_16, g242_17, g242_20, g242_21, g242_22, g242_23, g242_25, g242_28, g242_29, g242_30, g242_33, g242_34, Option.toList, List.nil_append, List.cons_append, va_rf, nI_ltI, nI_leI, nI_eq, nI_add, nI_sub, nI_lt0, nI_e0, nI_m1, m1_nI, Nat.reduceEqDiff, Nat.reduceLT, Nat.reduceLeDiff, Nat.reduceAdd, Nat.reduceSub, Nat.reduceMul, ↓reduceIte, eq_self, e, fl _]
        rw [(am_run_fun r1 R2).2]
        exact fr_I (fr_I (fr_I (fr_I (fr_I (fr_I fr_refl (Or.inl rfl)) (Or.inl rfl)) (Or.inl rfl)) (Or.inl rfl)) (Or.inl rfl)) (Or.inl rfl)
      rw [ee]
      refine ⟨g', -1, fun Q => ?_, A1, K1, fun q' h1 _ j => fr_rdD Fg (by omega), fun m hm => by (cases hm), fun f hf => ⟨rfl, ?_⟩⟩
      · rw [g262_20]
        simp (disch := first | with_reducible assumption | omega | exact Or.inl rfl | exact Or.inr rfl | exact bI_01 | exact c_cat | exact vt_ref | exact vt_null | rfl | with_reducible repeat (first | assumption | omega | apply S_I | apply S_L | apply S_D | apply ob_I | apply ob_L | apply ob_D | apply ob_R | apply ax_I | apply ax_L | apply ax_D | apply ax_R | apply o303 | apply o307 | apply o302 | apply o301 | apply ax304 | apply ax305 | apply ax306 | apply ax308 | apply ax309 | apply ax310 | apply lt_S | apply ar305 | apply ar308 | apply ar309)) only [g262_22, g262_23, g262_26, g262_27, g262_30, g262_33, g262_34, g262_35, g262_36, g262_37, g262_38, g262_41, g262_42, g262_43, g262_44, g262_47, g262_48, g262_49, g262_51, g262_54, g262_55, g262_58, g262_59, g262_62, g262_65, g262_66, g262_67, g262_68, g262_70, g262_71, g262_74, g262_75, g262_78, Option.toList, List.nil_append, List.cons_append, va_rf, nI_ltI, nI_leI, nI_eq, nI_add, nI_sub, nI_lt0, nI_e0, nI_m1, m1_nI, Nat.reduceEqDiff, Nat.reduceLT, Nat.reduceLeDiff, Nat.reduceAdd, Nat.reduceSub, Nat.reduceMul, ↓reduceIte, eq_self, show ¬ rgN a b ≤ i by omega, r1 _]
      · obtain rfl : .inl 8 = f := Sum.inr.inj hf
        exact O1
    · have st := m_stepY (d := d + 2) A S s0
      have A1 := MW_step A s0
      have S1 := MW_S A1 S
      have co := fun Q => m_cellOf (d := d + 2) (h := am_setI g 349 56 (nI (1000 - (σ.1 - 1)))) (Q := Q) ha hb sd (j := i) (by omega)
      have u1 : am_I (am_setI g 349 56 (nI (1000 - (σ.1 - 1)))) 353 x = nI a := (fr_rdI A1.1 (by decide)).trans e1
      have u2 : am_I (am_setI g 349 56 (nI (1000 - (σ.1 - 1)))) 354 x = nI b := (fr_rdI A1.1 (by decide)).trans e2
      obtain ⟨g2, r2, A2, K2, O2, N2, F2⟩ := m_readCell (d := d) (ps := false) A1 S (by rw [rI_k (by decide)]; exact sp) C cr (hP i hi2)
      rw [bI_f] at r2
      have S2 := MW_S A2 S
      have K02 : AK g g2 t := AK_trans AK_I K2
      have F02 : am_fr rcP g g2 := fr_trans (fr_I fr_refl (Or.inl rfl)) F2
      match hr : rdR cv (rgC a b i) false with
      | none =>
        exfalso
        unfold rdR at hr
        match hcv : cv (rgC a b i) with
        | none => rw [hcv] at hr; cases hr
        | some none => rw [hcv] at hr; cases hr
        | some (some v) => rw [hcv] at hr; cases hr
      | some (.inr f) =>
        have o2 := O2 _ hr
        have t0 := MO_t0 o2
        have ee : evTab cv (rgC a b i :: rgF a b (i + 1) k) l σ = (.inr f, (σ.1 - 1, σ.2 ++ [rgC a b i])) := by rw [evTab, if_neg s0, hr]
        rw [ee]
        refine ⟨g2, -1, fun Q => ?_, A2, K02, fun q' h1 _ j => fr_rdD F02 (by omega), fun m hm => by (cases hm), fun f' hf => ⟨rfl, ?_⟩⟩
        · rw [g262_20]
          simp (disch := first | with_reducible assumption | omega | exact Or.inl rfl | exact Or.inr rfl | exact bI_01 | exact c_cat | exact vt_ref | exact vt_null | rfl | with_reducible repeat (first | assumption | omega | apply S_I | apply S_L | apply S_D | apply ob_I | apply ob_L | apply ob_D | apply ob_R | apply ax_I | apply ax_L | apply ax_D | apply ax_R | apply o303 | apply o307 | apply o302 | apply o301 | apply ax304 | apply ax305 | apply ax306 | apply ax308 | apply ax309 | apply ax310 | apply lt_S | apply ar305 | apply ar308 | apply ar309)) only [g262_22, g262_23, g262_26, g262_27, g262_30, g262_33, g262_34, g262_35, g262_36, g262_37, g262_38, g262_41, g262_42, g262_43, g262_44, g262_47, g262_48, g262_49, g262_51, g262_54, g262_55, g262_58, g262_59, g262_62, g262_65, g262_66, g262_67, g262_68, g262_70, g262_71, g262_74, g262_75, g262_78, Option.toList, List.nil_append, List.cons_append, va_rf, nI_ltI, nI_leI, nI_eq, nI_add, nI_sub, nI_lt0, nI_e0, nI_m1, m1_nI, Nat.reduceEqDiff, Nat.reduceLT, Nat.reduceLeDiff, Nat.reduceAdd, Nat.reduceSub, Nat.reduceMul, ↓reduceIte, eq_self, show ¬ rgN a b ≤ i by omega, st _, u1, u2, co _, r2 _, t0]
        · obtain rfl : f = f' := Sum.inr.inj hf
          exact o2
      | some (.inl v) =>
        obtain ⟨V, sp2⟩ := O2 _ hr
        obtain ⟨τ, hτ, eτ⟩ := rv_t V
        have kv := ok_vD (rv_ok V)
        have rl := m_real (d := d + 2) S2 V
        have ee : evTab cv (rgC a b i :: rgF a b (i + 1) k) l σ = evTab cv (rgF a b (i + 1) k) (l ++ [vD v]) (σ.1 - 1, σ.2 ++ [rgC a b i]) := by rw [evTab, if_neg s0, hr]
        have F3 : am_fr (fun z => z = q) g2 (am_setD g2 q i (vD v)) := fr_D fr_refl rfl
        have A3 := MW_arg A2 F3 (fun z hz => by omega)
        have X : am_ax g2 q 102 i := by
          rcases hq with rfl | rfl
          · exact am_S_ax S2 (n := 64) (by decide +kernel) (by omega) (by decide)
          · exact am_S_ax S2 (n := 64) (by decide +kernel) (by omega) (by decide)
        have h4 : 4 ≤ q := by omega
        have K3 : AK g2 (am_setD g2 q i (vD v)) t := fun j _ => ⟨rfl, rfl, rD_a (by omega)⟩
        obtain ⟨g', res, r3, A4, K4, D4, M4, f4⟩ := ih (i + 1) (l ++ [vD v]) (σ.1 - 1, σ.2 ++ [rgC a b i]) (am_setD g2 q i (vD v)) (by omega) (by omega) (by rw [List.length_append, hl]; rfl) (fun j w hj => by
          by_cases cj : j < l.length
          · rw [List.getElem?_append_left cj] at hj
            rw [rD_k (by omega), fr_rdD F02 (by omega)]
            exact D j w hj
          · have hj2 := (List.getElem?_eq_some_iff.mp hj).1
            rw [List.length_append, List.length_cons, List.length_nil] at hj2
            obtain rfl : j = l.length := by omega
            rw [List.getElem?_append_right (Nat.le_refl _), Nat.sub_self] at hj
            obtain rfl : vD v = w := Option.some.inj hj
            rw [hl, rD_eq]
            exact ⟨rfl, kv⟩) A3 (by rw [hI_D]; exact sp2)
        rw [ee]
        refine ⟨g', res, fun Q => ?_, A4, AK_trans K02 (AK_trans K3 K4), fun q' h1 h2 j => ?_, M4, f4⟩
        · rw [← r3 Q, g262_20]
          simp (disch := first | with_reducible assumption | omega | exact Or.inl rfl | exact Or.inr rfl | exact bI_01 | exact c_cat | exact vt_ref | exact vt_null | rfl | with_reducible repeat (first | assumption | omega | apply S_I | apply S_L | apply S_D | apply ob_I | apply ob_L | apply ob_D | apply ob_R | apply ax_I | apply ax_L | apply ax_D | apply ax_R | apply o303 | apply o307 | apply o302 | apply o301 | apply ax304 | apply ax305 | apply ax306 | apply ax308 | apply ax309 | apply ax310 | apply lt_S | apply ar305 | apply ar308 | apply ar309)) only [g262_22, g262_23, g262_26, g262_27, g262_30, g262_33, g262_34, g262_35, g262_36, g262_37, g262_38, g262_41, g262_42, g262_43, g262_44, g262_47, g262_48, g262_49, g262_51, g262_54, g262_55, g262_58, g262_59, g262_62, g262_65, g262_66, g262_67, g262_68, g262_70, g262_71, g262_74, g262_75, g262_78, Option.toList, List.nil_append, List.cons_append, va_rf, nI_ltI, nI_leI, nI_eq, nI_add, nI_sub, nI_lt0, nI_e0, nI_m1, m1_nI, Nat.reduceEqDiff, Nat.reduceLT, Nat.reduceLeDiff, Nat.reduceAdd, Nat.reduceSub, Nat.reduceMul, ↓reduceIte, eq_self, show ¬ rgN a b ≤ i by omega, st _, u1, u2, co _, r2 _, eτ, show ¬ τ = 0 by omega, rl _]
        · rw [D4 q' h1 h2 j, rD_a h2, fr_rdD F02 (by omega)]
theorem m_table (S : am_S h) (C : cvH h cv P) (cr : r < 256) (ha : a < 256) (hb : b < 256) (sd : rgS a b = true) (hP : ∀ j, j < rgN a b → P (rgC a b j)) (hx : x < 3696) (e1 : am_I h 353 x = nI a) (e2 : am_I h 354 x = nI b) (hq : q = 388 ∨ q = 389) (A : MW h g r dp t σ) (sp : am_I g 349 64 = nI 0) :
    ∃ g' res, am_run (d + 3) 262 [some (.ref 349), some (.int (nI x)), some (.ref q), none, none] g (some (.int res)) g' ∧
      MW h g' r dp t (evTab cv (rgL a b) [] σ).2 ∧ AK g g' t ∧ (∀ q', q' = 388 ∨ q' = 389 → q' ≠ q → ∀ j, am_D g' q' j = am_D g q' j) ∧
      (∀ m, (evTab cv (rgL a b) [] σ).1 = .inl m → res = nI (rgN a b) ∧ dA g' q m ∧ m.length = rgN a b ∧ am_I g' 349 64 = nI 0) ∧ ∀ f, (evTab cv (rgL a b) [] σ).1 = .inr f → res = -1 ∧ MO h g' r (.inr f) := by
  have Sg := MW_S A S
  have ci := fun Q => m_cellsIn (d := d + 2) (h := g) (Q := Q) ha hb sd
  have u1 : am_I g 353 x = nI a := (fr_rdI A.1 (by decide)).trans e1
  have u2 : am_I g 354 x = nI b := (fr_rdI A.1 (by decide)).trans e2
  obtain ⟨g', res, r1, rest⟩ := m_tabLoop (d := d) (q := q) S C cr ha hb sd hP hx e1 e2 hq (rgN a b) 0 [] σ g (Nat.sub_zero _) (Nat.zero_le _) rfl (fun j v hj => by simp at hj) A sp
  rw [rgF_0] at rest
  refine ⟨g', res, fun Q => ?_, rest⟩
  rw [← r1 Q]
  simp (disch := first | with_reducible assumption | omega | exact Or.inl rfl | exact Or.inr rfl | exact bI_01 | exact c_cat | exact vt_ref | exact vt_null | rfl | with_reducible repeat (first | assumption | omega | apply S_I | apply S_L | apply S_D | apply ob_I | apply ob_L | apply ob_D | apply ob_R | apply ax_I | apply ax_L | apply ax_D | apply ax_R | apply o303 | apply o307 | apply o302 | apply o301 | apply ax304 | apply ax305 | apply ax306 | apply ax308 | apply ax309 | apply ax310 | apply lt_S | apply ar305 | apply ar308 | apply ar309)) only [g262_0, g262_1, g262_2, g262_5, g262_6, g262_7, g262_8, g262_11, g262_12, g262_13, g262_16, g262_17, g262_18, Option.toList, List.nil_append, List.cons_append, va_rf, u1, u2, ci _]
end MTB

/-! THE CLASS: the cell that is next -/
def NX (g : am_H) (n : Nat) (m : Nat → Nat) (nl : Nat → List Nat) (ch dn : Nat → Bool) (R F : Nat) (q st rc : Nat → Nat) (cnt : Nat) (dl : Nat → Nat) : Prop :=
  MBx g n m ∧ (∀ a, a < n → LBt (am_L g 313 a) (fun j => decide (j < n) && lkB nl m a j)) ∧ LBt (am_L g 311 8) (fun j => decide (j < n) && ch (m j)) ∧ LBt (am_L g 311 9) (fun j => decide (j < n) && dn (m j)) ∧ RH g n R F q st rc true ∧ am_I g 311 11 = nI cnt ∧ ∀ i, i < cnt → am_I g 318 i = nI (dl i)
def nxH (g : am_H) (f cnt c : Nat) (rf : Int32) : am_H := am_setI (am_setI (am_setI (am_setL g 311 9 (am_L g 311 9 ||| (lN 1 <<< (lN f &&& 63)))) 311 12 rf) 318 cnt (nI c)) 311 11 (nI (cnt + 1))
section XNX
variable {d n R F cnt : Nat} {g h : am_H} {mb ch dn oc : Nat → Bool} {m q st rc dl : Nat → Nat} {nl : Nat → List Nat}
theorem x_ring0 (S : am_S g) (M : MBR mb n m) {mu : Nat → Nat → Bool} (P : RP n m mu n R F q st rc) (H : RH g n R F q st rc true) {k : Nat} (hk : k < n) : am_run d 120 [some (.ref 311), some (.int (if q k = 999 then -1 else nI (q k))), some (.int (nI 0))] g (some (.int (if q k = 999 then -1 else nI (rc (st (q k)))))) g := fun Q => by
  obtain ⟨h1, h2, h3, h4⟩ := H
  have n48 := M.1
  have rf := RP_R P
  obtain ⟨p1, p0, p2, p3, p4, -⟩ := P
  by_cases e : q k = 999
  · rw [if_pos e, if_pos e]
    have m1 : (-1 : Int32) < 0 := by decide
    simp (disch := first | with_reducible assumption | omega | exact Or.inl rfl | exact Or.inr rfl | exact bI_01 | exact c_cat | exact vt_ref | exact vt_null | rfl | with_reducible repeat (first | assumption | omega | apply S_I | apply S_L | apply S_D | apply ob_I | apply ob_L | apply ob_D | apply ob_R | apply ax_I | apply ax_L | apply ax_D | apply ax_R | apply o303 | apply o307 | apply o302 | apply o301 | apply ax304 | apply ax305 | apply ax306 | apply ax308 | apply ax309 | apply ax310 | apply lt_S | apply ar305 | apply ar308 | apply ar309)) only [g120_0, g120_1, g120_35, g120_36, Option.toList, List.nil_append, List.cons_append, va_rf, nI_ltI, nI_leI, nI_eq, nI_add, nI_sub, nI_lt0, nI_e0, nI_m1, m1_nI, Nat.reduceEqDiff, Nat.reduceLT, Nat.reduceLeDiff, Nat.reduceAdd, Nat.reduceSub, Nat.reduceMul, ↓reduceIte, eq_self, m1]
  · rw [if_neg e, if_neg e]
    obtain ⟨l1, j, j1, j2, -⟩ := p4 k hk e
    have a1 := h3 (q k) (Or.inl l1)
    have a2 := h3 (q k + 1) (by
      by_cases z : q k + 1 = R
      · exact Or.inr ⟨z, rfl⟩
      · exact Or.inl (by omega))
    have stm : ∀ r, r ≤ R → st r ≤ F := by
      intro r hr
      have : ∀ k, k ≤ R → st (R - k) ≤ F := by
        intro k
        induction k with
        | zero => intro _; rw [Nat.sub_zero, p1]; exact Nat.le_refl _
        | succ k ih =>
          intro h
          have := ih (by omega)
          have := p2 (R - (k + 1)) (by omega)
          rw [show R - (k + 1) + 1 = R - k by omega] at this
          omega
      have := this (R - r) (by omega)
      rwa [show R - (R - r) = r by omega] at this
    have b1 := stm (q k + 1) (by omega)
    have b2 := p2 (q k) l1
    have b3 := h4 (st (q k)) (by omega)
    simp (disch := first | with_reducible assumption | omega | exact Or.inl rfl | exact Or.inr rfl | exact bI_01 | exact c_cat | exact vt_ref | exact vt_null | rfl | with_reducible repeat (first | assumption | omega | apply S_I | apply S_L | apply S_D | apply ob_I | apply ob_L | apply ob_D | apply ob_R | apply ax_I | apply ax_L | apply ax_D | apply ax_R | apply o303 | apply o307 | apply o302 | apply o301 | apply ax304 | apply ax305 | apply ax306 | apply ax308 | apply ax309 | apply ax310 | apply lt_S | apply ar305 | apply ar308 | apply ar309)) only [g120_0, g120_1, g120_4, g120_5, g120_6, g120_9, g120_12, g120_13, g120_16, g120_17, g120_18, g120_21, g120_22, g120_23, g120_24, g120_25, g120_26, g120_29, g120_30, g120_31, g120_32, g120_35, g120_36, g120_37, g120_38, g120_41, g120_42, g120_45, g120_46, g120_47, g120_48, g120_49, g120_50, Option.toList, List.nil_append, List.cons_append, va_rf, nI_ltI, nI_leI, nI_eq, nI_add, nI_sub, nI_lt0, nI_e0, nI_m1, m1_nI, Nat.reduceEqDiff, Nat.reduceLT, Nat.reduceLeDiff, Nat.reduceAdd, Nat.reduceSub, Nat.reduceMul, ↓reduceIte, eq_self, h1, show ¬ R ≤ q k by omega, a1, a2, nI_sub (show st (q k) ≤ st (q k + 1) by omega), show 0 < st (q k + 1) - st (q k) by omega, b3, Nat.add_zero]
theorem x_next (S : am_S g) (M : MBR mb n m) {mu : Nat → Nat → Bool} (P : RP n m mu n R F q st rc) (X : NX g n m nl ch dn R F q st rc cnt dl) (hl : ∀ c y, y ∈ nl c → y < 256) (hch : ∀ y, ch y = true → mb y = true) (hoc : ∀ i, i < n → (oc (m i) = true ↔ q i ≠ 999)) (hc : cnt < 48) :
    ∀ Q, am_J (d + 1) 119 0 [some (.ref 311), none, none, none, none] [] g Q ↔ if fnd (fun i => rdy nl ch dn oc (m i)) n 0 < n then Q (some (.int (nI (m (fnd (fun i => rdy nl ch dn oc (m i)) n 0))))) (nxH g (fnd (fun i => rdy nl ch dn oc (m i)) n 0) cnt (m (fnd (fun i => rdy nl ch dn oc (m i)) n 0)) (if q (fnd (fun i => rdy nl ch dn oc (m i)) n 0) = 999 then -1 else nI (rc (st (q (fnd (fun i => rdy nl ch dn oc (m i)) n 0)))))) else Q (some (.int (-1))) g := by
  have n48 := M.1
  obtain ⟨X1, X2, X3, X4, X5, X6, X7⟩ := id X
  have Bo : LBt (am_L g 311 8 &&& (am_L g 311 9 ^^^ (-1))) (fun j => decide (j < n) && (ch (m j) && !dn (m j))) := LBt_ext (LBt_and X3 (LBt_not X4)) (fun j _ => by
    cases decide (j < n) <;> simp)
  generalize hop : am_L g 311 8 &&& (am_L g 311 9 ^^^ (-1)) = op at Bo
  have L : ∀ t i v4, n - i = t → i ≤ n → ∀ Q, am_J (d + 1) 119 16 [some (.ref 311), some (.long op), none, some (.int (nI i)), v4] [] g Q ↔ if fnd (fun i => rdy nl ch dn oc (m i)) t i < n then Q (some (.int (nI (m (fnd (fun i => rdy nl ch dn oc (m i)) t i))))) (nxH g (fnd (fun i => rdy nl ch dn oc (m i)) t i) cnt (m (fnd (fun i => rdy nl ch dn oc (m i)) t i)) (if q (fnd (fun i => rdy nl ch dn oc (m i)) t i) = 999 then -1 else nI (rc (st (q (fnd (fun i => rdy nl ch dn oc (m i)) t i)))))) else Q (some (.int (-1))) g := by
    intro t
    induction t with
    | zero =>
      intro i v4 ht hi Q
      obtain rfl : i = n := by omega
      rw [show fnd (fun i => rdy nl ch dn oc (m i)) 0 i = i from rfl, if_neg (Nat.lt_irrefl i), g119_16]
      simp (disch := first | with_reducible assumption | omega | exact Or.inl rfl | exact Or.inr rfl | exact bI_01 | exact c_cat | exact vt_ref | exact vt_null | rfl | with_reducible repeat (first | assumption | omega | apply S_I | apply S_L | apply S_D | apply ob_I | apply ob_L | apply ob_D | apply ob_R | apply ax_I | apply ax_L | apply ax_D | apply ax_R | apply o303 | apply o307 | apply o302 | apply o301 | apply ax304 | apply ax305 | apply ax306 | apply ax308 | apply ax309 | apply ax310 | apply lt_S | apply ar305 | apply ar308 | apply ar309)) only [g119_17, g119_18, g119_21, g119_141, g119_142, Option.toList, List.nil_append, List.cons_append, va_rf, nI_ltI, nI_leI, nI_eq, nI_add, nI_sub, nI_lt0, nI_e0, nI_m1, m1_nI, Nat.reduceEqDiff, Nat.reduceLT, Nat.reduceLeDiff, Nat.reduceAdd, Nat.reduceSub, Nat.reduceMul, ↓reduceIte, eq_self, X1.1, Nat.le_refl]
    | succ t ih =>
      intro i v4 ht hi Q
      have hi' : i < n := by omega
      have hb := x_hasBit (d := d) (g := g) (x := op) (j := i) (by omega)
      rw [LBt_get Bo (show i < 64 by omega), decide_eq_true hi', Bool.true_and] at hb
      have em := X1.2 i hi'
      have q2 := X5.2.1 i hi'
      have rg := fun w => x_ring0 (d := d) (g := am_setL g 311 9 w) S M P X5 hi'
      have hz := LBt_zero (LBt_and (X2 i hi') Bo)
      have hn : (am_L g 313 i &&& op = lN 0) ↔ ∀ y, y ∈ nl (m i) → ch y = true → dn y = true := by
        rw [hz]
        constructor
        · intro z y hy hcy
          obtain ⟨j, j1, rfl⟩ := M.2.2.2 y (hl _ _ hy) (hch y hcy)
          have := z j (by omega)
          rw [decide_eq_true j1, Bool.true_and, Bool.true_and, hcy, Bool.true_and] at this
          cases hd : dn (m j)
          · rw [hd, show lkB nl m i j = true from decide_eq_true hy] at this; cases this
          · rfl
        · intro z j _
          by_cases j1 : j < n
          · rw [decide_eq_true j1, Bool.true_and, Bool.true_and]
            by_cases hy : m j ∈ nl (m i)
            · cases hcy : ch (m j)
              · simp
              · rw [z _ hy hcy]; simp
            · rw [show lkB nl m i j = false from decide_eq_false hy, Bool.false_and]
          · rw [decide_eq_false j1]; rfl
      have yes : rdy nl ch dn oc (m i) = true → (am_J (d + 1) 119 16 [some (.ref 311), some (.long op), none, some (.int (nI i)), v4] [] g Q ↔ if fnd (fun i => rdy nl ch dn oc (m i)) (t + 1) i < n then Q (some (.int (nI (m (fnd (fun i => rdy nl ch dn oc (m i)) (t + 1) i))))) (nxH g (fnd (fun i => rdy nl ch dn oc (m i)) (t + 1) i) cnt (m (fnd (fun i => rdy nl ch dn oc (m i)) (t + 1) i)) (if q (fnd (fun i => rdy nl ch dn oc (m i)) (t + 1) i) = 999 then -1 else nI (rc (st (q (fnd (fun i => rdy nl ch dn oc (m i)) (t + 1) i)))))) else Q (some (.int (-1))) g) := fun hr => by
        obtain ⟨r1, r2, r3⟩ := rdy_iff.mp hr
        rw [fnd_here (p := fun i => rdy nl ch dn oc (m i)) hr, if_pos hi']
        rw [r1, r2] at hb
        by_cases e : q i = 999
        · rw [if_pos e] at q2 rg
          rw [if_pos e] at rg
          rw [if_pos e]
          have nz : ∀ y, y ∈ nl (m i) → ch y = true → dn y = true := r3.resolve_left (fun z => (hoc i hi').mp z e)
          have hz3 := hn.mpr nz
          unfold nxH
          rw [g119_16]
          simp (disch := first | with_reducible assumption | omega | exact Or.inl rfl | exact Or.inr rfl | exact bI_01 | exact c_cat | exact vt_ref | exact vt_null | rfl | with_reducible repeat (first | assumption | omega | apply S_I | apply S_L | apply S_D | apply ob_I | apply ob_L | apply ob_D | apply ob_R | apply ax_I | apply ax_L | apply ax_D | apply ax_R | apply o303 | apply o307 | apply o302 | apply o301 | apply ax304 | apply ax305 | apply ax306 | apply ax308 | apply ax309 | apply ax310 | apply lt_S | apply ar305 | apply ar308 | apply ar309)) only [g119_17, g119_18, g119_21, g119_24, g119_25, g119_28, g119_29, g119_30, g119_31, g119_34, g119_35, g119_38, g119_39, g119_40, g119_41, g119_42, g119_43, g119_44, g119_47, g119_48, g119_51, g119_52, g119_54, g119_55, g119_56, g119_59, g119_62, g119_64, g119_67, g119_68, g119_71, g119_73, g119_76, g119_77, g119_78, g119_81, g119_82, g119_83, g119_84, g119_85, g119_88, g119_89, g119_90, g119_91, g119_94, g119_95, g119_96, g119_97, g119_100, g119_103, g119_104, g119_107, g119_108, g119_111, g119_112, g119_115, g119_116, g119_117, g119_118, g119_119, g119_120, g119_123, g119_124, g119_125, g119_128, g119_129, g119_132, g119_133, g119_134, Option.toList, List.nil_append, List.cons_append, va_rf, nI_ltI, nI_leI, nI_eq, nI_add, nI_sub, nI_lt0, nI_e0, nI_m1, m1_nI, Nat.reduceEqDiff, Nat.reduceLT, Nat.reduceLeDiff, Nat.reduceAdd, Nat.reduceSub, Nat.reduceMul, ↓reduceIte, eq_self, X1.1, show ¬ n ≤ i by omega, q2, lg_cmp0, hz3, hb _, bI_t, Bool.not_false, Bool.true_and, Bool.and_self, X6, show ¬ 48 ≤ cnt by omega, nI_l, rg _ _, em, hI_I, hI_L, hI_D, hI_R, hL_I, hL_L, hL_D, hL_R, hD_I, hD_L, hD_D, hD_R, hR_I, hR_L, hR_D, ↓reduceIte, Nat.reduceEqDiff]
        · rw [if_neg e] at q2 rg
          rw [if_neg e] at rg
          rw [if_neg e]
          unfold nxH
          have lt := (P.2.2.2.2.1 i hi' e).1
          have rf := RP_R P
          have qm : ¬ nI (q i) = -1 := nI_nem1 (by omega)
          rw [g119_16]
          simp (disch := first | with_reducible assumption | omega | exact Or.inl rfl | exact Or.inr rfl | exact bI_01 | exact c_cat | exact vt_ref | exact vt_null | rfl | with_reducible repeat (first | assumption | omega | apply S_I | apply S_L | apply S_D | apply ob_I | apply ob_L | apply ob_D | apply ob_R | apply ax_I | apply ax_L | apply ax_D | apply ax_R | apply o303 | apply o307 | apply o302 | apply o301 | apply ax304 | apply ax305 | apply ax306 | apply ax308 | apply ax309 | apply ax310 | apply lt_S | apply ar305 | apply ar308 | apply ar309)) only [g119_17, g119_18, g119_21, g119_24, g119_25, g119_28, g119_29, g119_30, g119_31, g119_34, g119_35, g119_38, g119_39, g119_40, g119_41, g119_42, g119_43, g119_44, g119_47, g119_48, g119_51, g119_52, g119_54, g119_55, g119_56, g119_59, g119_62, g119_64, g119_67, g119_68, g119_71, g119_73, g119_76, g119_77, g119_78, g119_81, g119_82, g119_83, g119_84, g119_85, g119_88, g119_89, g119_90, g119_91, g119_94, g119_95, g119_96, g119_97, g119_100, g119_103, g119_104, g119_107, g119_108, g119_111, g119_112, g119_115, g119_116, g119_117, g119_118, g119_119, g119_120, g119_123, g119_124, g119_125, g119_128, g119_129, g119_132, g119_133, g119_134, Option.toList, List.nil_append, List.cons_append, va_rf, nI_ltI, nI_leI, nI_eq, nI_add, nI_sub, nI_lt0, nI_e0, nI_m1, m1_nI, Nat.reduceEqDiff, Nat.reduceLT, Nat.reduceLeDiff, Nat.reduceAdd, Nat.reduceSub, Nat.reduceMul, ↓reduceIte, eq_self, X1.1, show ¬ n ≤ i by omega, q2, qm, hb _, bI_t, Bool.not_false, Bool.true_and, Bool.and_self, X6, show ¬ 48 ≤ cnt by omega, nI_l, rg _ _, em, hI_I, hI_L, hI_D, hI_R, hL_I, hL_L, hL_D, hL_R, hD_I, hD_L, hD_D, hD_R, hR_I, hR_L, hR_D, ↓reduceIte, Nat.reduceEqDiff]
      have no : rdy nl ch dn oc (m i) = false → (am_J (d + 1) 119 16 [some (.ref 311), some (.long op), none, some (.int (nI i)), v4] [] g Q ↔ if fnd (fun i => rdy nl ch dn oc (m i)) (t + 1) i < n then Q (some (.int (nI (m (fnd (fun i => rdy nl ch dn oc (m i)) (t + 1) i))))) (nxH g (fnd (fun i => rdy nl ch dn oc (m i)) (t + 1) i) cnt (m (fnd (fun i => rdy nl ch dn oc (m i)) (t + 1) i)) (if q (fnd (fun i => rdy nl ch dn oc (m i)) (t + 1) i) = 999 then -1 else nI (rc (st (q (fnd (fun i => rdy nl ch dn oc (m i)) (t + 1) i)))))) else Q (some (.int (-1))) g) := fun hr => by
        rw [fnd_step (p := fun i => rdy nl ch dn oc (m i)) hr]
        cases hop2 : (ch (m i) && !dn (m i)) with
        | false =>
          rw [hop2] at hb
          by_cases e : q i = 999
          · rw [if_pos e] at q2
            by_cases hz3 : am_L g 313 i &&& op = lN 0
            · rw [← ih (i + 1) (some (.int (nI 1))) (by omega) (by omega) Q, g119_16]
              simp (disch := first | with_reducible assumption | omega | exact Or.inl rfl | exact Or.inr rfl | exact bI_01 | exact c_cat | exact vt_ref | exact vt_null | rfl | with_reducible repeat (first | assumption | omega | apply S_I | apply S_L | apply S_D | apply ob_I | apply ob_L | apply ob_D | apply ob_R | apply ax_I | apply ax_L | apply ax_D | apply ax_R | apply o303 | apply o307 | apply o302 | apply o301 | apply ax304 | apply ax305 | apply ax306 | apply ax308 | apply ax309 | apply ax310 | apply lt_S | apply ar305 | apply ar308 | apply ar309)) only [g119_17, g119_18, g119_21, g119_24, g119_25, g119_28, g119_29, g119_30, g119_31, g119_34, g119_35, g119_38, g119_39, g119_40, g119_41, g119_42, g119_43, g119_44, g119_47, g119_48, g119_51, g119_52, g119_54, g119_55, g119_56, g119_59, g119_135, g119_138, Option.toList, List.nil_append, List.cons_append, va_rf, nI_ltI, nI_leI, nI_eq, nI_add, nI_sub, nI_lt0, nI_e0, nI_m1, m1_nI, Nat.reduceEqDiff, Nat.reduceLT, Nat.reduceLeDiff, Nat.reduceAdd, Nat.reduceSub, Nat.reduceMul, ↓reduceIte, eq_self, X1.1, show ¬ n ≤ i by omega, q2, lg_cmp0, hz3, hb _, bI_f]
            · rw [← ih (i + 1) (some (.int (nI 0))) (by omega) (by omega) Q, g119_16]
              simp (disch := first | with_reducible assumption | omega | exact Or.inl rfl | exact Or.inr rfl | exact bI_01 | exact c_cat | exact vt_ref | exact vt_null | rfl | with_reducible repeat (first | assumption | omega | apply S_I | apply S_L | apply S_D | apply ob_I | apply ob_L | apply ob_D | apply ob_R | apply ax_I | apply ax_L | apply ax_D | apply ax_R | apply o303 | apply o307 | apply o302 | apply o301 | apply ax304 | apply ax305 | apply ax306 | apply ax308 | apply ax309 | apply ax310 | apply lt_S | apply ar305 | apply ar308 | apply ar309)) only [g119_17, g119_18, g119_21, g119_24, g119_25, g119_28, g119_29, g119_30, g119_31, g119_34, g119_35, g119_38, g119_39, g119_40, g119_41, g119_42, g119_43, g119_44, g119_47, g119_48, g119_51, g119_52, g119_54, g119_55, g119_56, g119_59, g119_135, g119_138, Option.toList, List.nil_append, List.cons_append, va_rf, nI_ltI, nI_leI, nI_eq, nI_add, nI_sub, nI_lt0, nI_e0, nI_m1, m1_nI, Nat.reduceEqDiff, Nat.reduceLT, Nat.reduceLeDiff, Nat.reduceAdd, Nat.reduceSub, Nat.reduceMul, ↓reduceIte, eq_self, X1.1, show ¬ n ≤ i by omega, q2, lg_cmp0, hz3, hb _, bI_f]
          · rw [if_neg e] at q2
            have lt := (P.2.2.2.2.1 i hi' e).1
            have rf := RP_R P
            have qm : ¬ nI (q i) = -1 := nI_nem1 (by omega)
            rw [← ih (i + 1) (some (.int (nI 1))) (by omega) (by omega) Q, g119_16]
            simp (disch := first | with_reducible assumption | omega | exact Or.inl rfl | exact Or.inr rfl | exact bI_01 | exact c_cat | exact vt_ref | exact vt_null | rfl | with_reducible repeat (first | assumption | omega | apply S_I | apply S_L | apply S_D | apply ob_I | apply ob_L | apply ob_D | apply ob_R | apply ax_I | apply ax_L | apply ax_D | apply ax_R | apply o303 | apply o307 | apply o302 | apply o301 | apply ax304 | apply ax305 | apply ax306 | apply ax308 | apply ax309 | apply ax310 | apply lt_S | apply ar305 | apply ar308 | apply ar309)) only [g119_17, g119_18, g119_21, g119_24, g119_25, g119_28, g119_29, g119_30, g119_31, g119_34, g119_35, g119_38, g119_39, g119_40, g119_41, g119_42, g119_43, g119_44, g119_47, g119_48, g119_51, g119_52, g119_54, g119_55, g119_56, g119_59, g119_135, g119_138, Option.toList, List.nil_append, List.cons_append, va_rf, nI_ltI, nI_leI, nI_eq, nI_add, nI_sub, nI_lt0, nI_e0, nI_m1, m1_nI, Nat.reduceEqDiff, Nat.reduceLT, Nat.reduceLeDiff, Nat.reduceAdd, Nat.reduceSub, Nat.reduceMul, ↓reduceIte, eq_self, X1.1, show ¬ n ≤ i by omega, q2, qm, hb _, bI_f]
        | true =>
          rw [hop2] at hb
          have h12 := Bool.and_eq_true_iff.mp hop2
          have hd : dn (m i) = false := by simpa using h12.2
          have e : q i = 999 := by
            apply Classical.byContradiction
            intro z
            have := (rdy_iff (nl := nl) (oc := oc)).mpr ⟨h12.1, hd, Or.inl ((hoc i hi').mpr z)⟩
            rw [hr] at this; cases this
          rw [if_pos e] at q2
          have hz3 : ¬ am_L g 313 i &&& op = lN 0 := fun z => by
            have := (rdy_iff (nl := nl) (oc := oc)).mpr ⟨h12.1, hd, Or.inr (hn.mp z)⟩
            rw [hr] at this; cases this
          rw [← ih (i + 1) (some (.int (nI 0))) (by omega) (by omega) Q, g119_16]
          simp (disch := first | with_reducible assumption | omega | exact Or.inl rfl | exact Or.inr rfl | exact bI_01 | exact c_cat | exact vt_ref | exact vt_null | rfl | with_reducible repeat (first | assumption | omega | apply S_I | apply S_L | apply S_D | apply ob_I | apply ob_L | apply ob_D | apply ob_R | apply ax_I | apply ax_L | apply ax_D | apply ax_R | apply o303 | apply o307 | apply o302 | apply o301 | apply ax304 | apply ax305 | apply ax306 | apply ax308 | apply ax309 | apply ax310 | apply lt_S | apply ar305 | apply ar308 | apply ar309)) only [g119_17, g119_18, g119_21, g119_24, g119_25, g119_28, g119_29, g119_30, g119_31, g119_34, g119_35, g119_38, g119_39, g119_40, g119_41, g119_42, g119_43, g119_44, g119_47, g119_48, g119_51, g119_52, g119_54, g119_55, g119_56, g119_59, g119_62, g119_64, g119_135, g119_138, Option.toList, List.nil_append, List.cons_append, va_rf, nI_ltI, nI_leI, nI_eq, nI_add, nI_sub, nI_lt0, nI_e0, nI_m1, m1_nI, Nat.reduceEqDiff, Nat.reduceLT, Nat.reduceLeDiff, Nat.reduceAdd, Nat.reduceSub, Nat.reduceMul, ↓reduceIte, eq_self, X1.1, show ¬ n ≤ i by omega, q2, lg_cmp0, hz3, hb _, bI_t]
      cases hr : rdy nl ch dn oc (m i) with
      | true => exact yes hr
      | false => exact no hr
  intro Q
  rw [← L n 0 none (Nat.sub_zero _) (Nat.zero_le _) Q, ← hop]
  simp (disch := first | with_reducible assumption | omega | exact Or.inl rfl | exact Or.inr rfl | exact bI_01 | exact c_cat | exact vt_ref | exact vt_null | rfl | with_reducible repeat (first | assumption | omega | apply S_I | apply S_L | apply S_D | apply ob_I | apply ob_L | apply ob_D | apply ob_R | apply ax_I | apply ax_L | apply ax_D | apply ax_R | apply o303 | apply o307 | apply o302 | apply o301 | apply ax304 | apply ax305 | apply ax306 | apply ax308 | apply ax309 | apply ax310 | apply lt_S | apply ar305 | apply ar308 | apply ar309)) only [g119_0, g119_1, g119_4, g119_5, g119_8, g119_11, g119_12, g119_13, g119_14, g119_15, Option.toList, List.nil_append, List.cons_append, va_rf, nI_ltI, nI_leI, nI_eq, nI_add, nI_sub, nI_lt0, nI_e0, nI_m1, m1_nI, Nat.reduceEqDiff, Nat.reduceLT, Nat.reduceLeDiff, Nat.reduceAdd, Nat.reduceSub, Nat.reduceMul, ↓reduceIte, eq_self]
theorem nx_NX (X : NX g n m nl ch dn R F q st rc cnt dl) (M : MBR mb n m) {f : Nat} {rf : Int32} (hf : f < n) (hc : cnt < 48) : NX (nxH g f cnt (m f) rf) n m nl ch (fun c => dn c || decide (c = m f)) R F q st rc (cnt + 1) (fun i => if i = cnt then m f else dl i) := by
  have n48 := M.1
  obtain ⟨X1, X2, X3, X4, ⟨h1, h2, h3, h4⟩, X6, X7⟩ := X
  unfold nxH
  refine ⟨⟨?_, fun i hi => ?_⟩, fun a ha => ?_, ?_, ?_, ⟨?_, fun k hk => ?_, fun r hr => ?_, fun j hj => ?_⟩, rI_eq, fun i hi => ?_⟩
  · rw [rI_k (by decide), rI_a (by decide), rI_k (by decide), hI_L]; exact X1.1
  · rw [rI_a (by decide), rI_a (by decide), rI_a (by decide), hI_L]; exact X1.2 i hi
  · rw [hL_I, hL_I, hL_I, rL_a (by decide)]; exact X2 a ha
  · rw [hL_I, hL_I, hL_I, rL_k (by decide)]; exact X3
  · rw [hL_I, hL_I, hL_I, rL_eq]
    refine LBt_ext (LBt_or X4 (LBt_one (show f < 64 by omega))) (fun j _ => ?_)
    by_cases j1 : j < n
    · rw [decide_eq_true j1, Bool.true_and, Bool.true_and]
      by_cases e : j = f
      · subst e
        show (dn (m j) || decide (j = j)) = (dn (m j) || decide (m j = m j))
        rw [decide_eq_true rfl, decide_eq_true rfl]
      · show (dn (m j) || decide (j = f)) = (dn (m j) || decide (m j = m f))
        rw [decide_eq_false e, decide_eq_false (fun z => e (MBR_inj M j1 hf z))]
    · rw [decide_eq_false j1, decide_eq_false (show ¬ j = f by omega)]; rfl
  · rw [rI_k (by decide), rI_a (by decide), rI_k (by decide), hI_L]; exact h1
  · rw [rI_a (by decide), rI_a (by decide), rI_a (by decide), hI_L]; exact h2 k hk
  · rw [rI_a (by decide), rI_a (by decide), rI_a (by decide), hI_L]; exact h3 r hr
  · rw [rI_a (by decide), rI_a (by decide), rI_a (by decide), hI_L]; exact h4 j hj
  · rw [rI_a (by decide)]
    show _ = nI (if i = cnt then m f else dl i)
    by_cases e : i = cnt
    · rw [e, rI_eq, if_pos rfl]
    · rw [rI_k e, rI_a (by decide), hI_L, if_neg e]; exact X7 i (by omega)
end XNX

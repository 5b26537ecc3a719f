/-! RECALCULATE: the loop as a whole -/
section JLW
variable {d e : Nat} {tt : Nat → ntT} {rt : Nat → Nat} {pF : Nat → List Nat} {fe : Nat → Nat} {mb : Nat → Bool} {ea ra sl : Nat → Nat} {nl : Nat → List Nat} {nc : Nat → Nat} {Gc : Nat → List (Nat × Nat)} {nf n : Nat} {m : Nat → Nat} {ch oc : Nat → Bool} {cy sp : Nat → Nat} {cs : Nat → Nat → VL} {R F : Nat} {q st rc : Nat → Nat} {mu : Nat → Nat → Bool} {v1 v2 : Option Value}
theorem J_loop (hd : 1350 ≤ d) (M : MBR mb n m) (hn : n = cnB mb 256) (P : RP n m mu n R F q st rc) (hl : ∀ x y, y ∈ nl x → y < 256) (hch : ∀ x, ch x = true → x < 256 ∧ mb x = true) (hoc : ∀ i, i < n → (oc (m i) = true ↔ q i ≠ 999)) (hcq : ∀ i, i < n → q i ≠ 999 → rc (st (q i)) = cy (m i)) (hcy : ∀ x, x < 256 → oc x = true → cy x < 256) (hno : ∀ x, x ∈ nl x → oc x = true) :
    ∀ k t gx gm dn dl v4 v5 v6 w2, 48 - t = k → t ≤ 48 → JL gx gm tt rt pF fe mb ea ra sl nl nc Gc nf n m ch oc cy sp cs R F q st rc dn t dl →
    ∃ gx' gm' dn' cnt' dl' t' v4' v5' v6' w2', cnt' ≤ 48 ∧ (∀ Q, am_J (e + 7) 154 37 [some (.ref 4), v1, v2, some (.int (nI t)), v4, v5, v6] [] gx Q ↔ am_J (e + 7) 154 163 [some (.ref 4), v1, v2, some (.int (nI t')), v4', v5', v6'] [] gx' Q) ∧ (∀ Q, am_J (d + 2) 227 64 [some (.ref 349), some (.int (nI 1)), w2] [] gm Q ↔ am_J (d + 2) 227 116 [some (.ref 349), some (.int (nI 0)), w2'] [] gm' Q) ∧ kp (pXl mb ra) gx gx' ∧ am_fr mdL gm gm' ∧ (∀ k, k < 56 ∨ (70 < k ∧ k ≠ 81 ∧ k ≠ 83) → am_I gm' 349 k = am_I gm 349 k) ∧
      JL gx' gm' tt rt pF fe mb ea ra sl nl nc Gc nf n m ch oc cy sp cs R F q st rc dn' cnt' dl' ∧ ∀ x, x < 256 → rdy nl ch dn' oc x = false := by
  intro k
  induction k with
  | zero =>
    intro t gx gm dn dl v4 v5 v6 w2 hk ht J
    obtain rfl : t = 48 := by omega
    have n48 := M.1
    have no : ∀ x, x < 256 → rdy nl ch dn oc x = false := fun x hx => by
      cases hz : rdy nl ch dn oc x
      · rfl
      · obtain ⟨r1, r2, -⟩ := rdy_iff.mp hz
        have := cnB_lt (r := dn) (r' := mb) (fun j hj => (hch j (J.2.2.2.2.2.2.2.2.2 j hj)).2) r2 (hch x r1).2 256 hx
        have := J.2.2.2.2.2.2.2.2.1
        omega
    obtain ⟨gm', w2', J', F', n', R'⟩ := m_none (d := d - 460) (w2 := w2) J hl hcy no
    rw [show d - 460 + 462 = d + 2 by omega] at R'
    refine ⟨gx, gm', dn, 48, dl, 48, v4, v5, v6, w2', Nat.le_refl _, fun Q => ?_, R', kp_refl, F', n', J', no⟩
    rw [g154_37]
    simp (disch := first | with_reducible assumption | omega | exact Or.inl rfl | exact Or.inr rfl | exact bI_01 | exact c_cat | exact vt_ref | exact vt_null | rfl | with_reducible repeat (first | assumption | omega | apply S_I | apply S_L | apply S_D | apply ob_I | apply ob_L | apply ob_D | apply ob_R | apply ax_I | apply ax_L | apply ax_D | apply ax_R | apply o303 | apply o307 | apply o302 | apply o301 | apply ax304 | apply ax305 | apply ax306 | apply ax308 | apply ax309 | apply ax310 | apply lt_S | apply ar305 | apply ar308 | apply ar309)) only [g154_38, g154_40, Option.toList, List.nil_append, List.cons_append, va_rf, nI_ltI, nI_leI, nI_eq, nI_add, nI_sub, nI_lt0, nI_e0, nI_m1, m1_nI, Nat.reduceEqDiff, Nat.reduceLT, Nat.reduceLeDiff, Nat.reduceAdd, Nat.reduceSub, Nat.reduceMul, ↓reduceIte, eq_self, Nat.le_refl]
  | succ k ih =>
    intro t gx gm dn dl v4 v5 v6 w2 hk ht J
    by_cases fn : fnd (fun i => rdy nl ch dn oc (m i)) n 0 < n
    · obtain ⟨g1, m1, v41, v51, v61, w21, R1, R2, K1, F1, n1, J1⟩ := J_turn (e := e) (v1 := v1) (v2 := v2) (v4 := v4) (v5 := v5) (v6 := v6) (w2 := w2) hd M P hl hch hoc hcq hcy hno J (by omega) rfl fn
      obtain ⟨gx', gm', dn', cnt', dl', t', v4', v5', v6', w2', c48, R3, R4, K2, F2, n2, J2, no⟩ := ih (t + 1) g1 m1 _ _ v41 v51 v61 w21 (by omega) (by omega) J1
      exact ⟨gx', gm', dn', cnt', dl', t', v4', v5', v6', w2', c48, fun Q => (R1 Q).trans (R3 Q), fun Q => (R2 Q).trans (R4 Q), kp_trans K1 K2, fr_trans F1 F2, fun k hk => (n2 k hk).trans (n1 k hk), J2, no⟩
    · have no : ∀ x, x < 256 → rdy nl ch dn oc x = false := fun x hx => by
        cases hz : rdy nl ch dn oc x
        · rfl
        · obtain ⟨a1, a2⟩ := hch x (rdy_iff.mp hz).1
          obtain ⟨i, i1, rfl⟩ := M.2.2.2 x a1 a2
          have := (fnd_spec (p := fun i => rdy nl ch dn oc (m i)) n 0).2.2.1 i (Nat.zero_le _) (by omega)
          rw [hz] at this; cases this
      obtain ⟨gm', w2', J', F', n', R'⟩ := m_none (d := d - 460) (w2 := w2) J hl hcy no
      rw [show d - 460 + 462 = d + 2 by omega] at R'
      have xn := x_next (d := e + 5) J.1.1 M P J.2.2.1 hl (fun y hy => (hch y hy).2) hoc (by omega)
      have xn' := fun Q => (xn Q).trans (by rw [if_neg fn])
      have S := J.1.1
      refine ⟨gx, gm', dn, t, dl, t, some (.int (-1)), v5, v6, w2', ht, fun Q => ?_, R', kp_refl, F', n', J', no⟩
      rw [g154_37]
      simp (disch := first | with_reducible assumption | omega | exact Or.inl rfl | exact Or.inr rfl | exact bI_01 | exact c_cat | exact vt_ref | exact vt_null | rfl | with_reducible repeat (first | assumption | omega | apply S_I | apply S_L | apply S_D | apply ob_I | apply ob_L | apply ob_D | apply ob_R | apply ax_I | apply ax_L | apply ax_D | apply ax_R | apply o303 | apply o307 | apply o302 | apply o301 | apply ax304 | apply ax305 | apply ax306 | apply ax308 | apply ax309 | apply ax310 | apply lt_S | apply ar305 | apply ar308 | apply ar309)) only [g154_38, g154_40, g154_43, g154_44, g154_47, g154_50, g154_52, g154_54, g154_55, g154_58, Option.toList, List.nil_append, List.cons_append, va_rf, nI_ltI, nI_leI, nI_eq, nI_add, nI_sub, nI_lt0, nI_e0, nI_m1, m1_nI, Nat.reduceEqDiff, Nat.reduceLT, Nat.reduceLeDiff, Nat.reduceAdd, Nat.reduceSub, Nat.reduceMul, ↓reduceIte, eq_self, show ¬ 48 ≤ t by omega, xn' _]
end JLW

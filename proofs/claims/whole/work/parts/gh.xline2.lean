/-! THE CLASS: the nodes of line and area -/
section XLN
variable {h g g' ga : am_H} {o sa dp d q a b a' c' b' e f s sh nn tm : Nat} {rr : Option Nat} {cv : Nat → Option (Option VL)} {st : List VL} {ts : List (Nat × Nat × Nat)} {σ : SR} {u v : VL} {P : Nat → Prop} {v1 v2 v3 : Option Value} {tt : Nat → ntT} {rt : Nat → Nat} {cs : Nat → Nat → VL} {as : List VL}
theorem o_area_ (h4 : 402 ≤ h.1) (ho : o < 278 ∨ 299 < o) (C : cvX h cv P) (ha : a < 256) (hb : b < 256) (sd : rgS a b = true) (hP : ∀ j, j < rgN a b → P (rgC a b j)) (ha' : a' < 256) (hb' : b' < 256) (sd' : rgS a' b' = true) (hP' : ∀ j, j < rgN a' b' → P (rgC a' b' j)) (hl : st.length + 2 < 1024) (A : XS h g o rr sa dp ts σ) (Z : KZ g) (N : NS g st) :
    ∃ g', am_run (d + 5) 40 [some (.ref 9), some (.ref (278 + dp)), some (.int (nI 26)), some (.long (lN (a + 256 * b + 65536 * (a' + 256 * b')))), none] g none g' ∧ OPx h g' o rr sa dp ts st (evRows cv 8 Jvm.FP.dconst0 (rgL a b) (rgL a' b') σ) ∧ FA g g' := by
  have S := A.2.1
  obtain ⟨g', r1, O1, F1⟩ := x_area (d := d) (l := []) (m := []) h4 ho C ha hb sd hP ha' hb' sd' hP' hl A Z N
  refine ⟨g', fun Q => ?_, O1, F1⟩
  simp (disch := first | with_reducible assumption | omega | exact Or.inl rfl | exact Or.inr rfl | exact bI_01 | exact c_cat | exact vt_ref | exact vt_null | rfl | with_reducible repeat (first | assumption | omega | apply S_I | apply S_L | apply S_D | apply ob_I | apply ob_L | apply ob_D | apply ob_R | apply ax_I | apply ax_L | apply ax_D | apply ax_R | apply o303 | apply o307 | apply o302 | apply o301 | apply ax304 | apply ax305 | apply ax306 | apply ax308 | apply ax309 | apply ax310 | apply lt_S | apply ar305 | apply ar308 | apply ar309)) only [g40_0, g40_1_26, g40_273, g40_274, g40_275, g40_276, g40_278, g40_279, g40_280, g40_282, g40_283, g40_284, g40_287, g40_302, Option.toList, List.nil_append, List.cons_append, va_rf, l6_i, nI_and16, l6_shr16, show (a + 256 * b + 65536 * (a' + 256 * b')) % 65536 = a + 256 * b by omega, show (a + 256 * b + 65536 * (a' + 256 * b')) / 65536 = a' + 256 * b' by omega, r1 _]
theorem o_line_ (h4 : 402 ≤ h.1) (ho : o < 278 ∨ 299 < o) (C : cvX h cv P) (ha : a < 256) (hb : b < 256) (sd : rgS a b = true) (hP : ∀ j, j < rgN a b → P (rgC a b j)) (ha' : a' < 256) (hb' : b' < 256) (sd' : rgS a' b' = true) (hP' : ∀ j, j < rgN a' b' → P (rgC a' b' j)) (hl : st.length + 2 < 1024) (A : XS h g o rr sa dp ts σ) (Z : KZ g) (N : NS g (st ++ [v])) (kv : okV v) :
    ∃ g', am_run (d + 5) 40 [some (.ref 9), some (.ref (278 + dp)), some (.int (nI 25)), some (.long (lN (a + 256 * b + 65536 * (a' + 256 * b')))), none] g none g' ∧ OPx h g' o rr sa dp ts st (evRows cv 7 (vD v) (rgL a b) (rgL a' b') σ) ∧ FA g g' := by
  have S := A.2.1
  obtain ⟨g', r1, O1, F1⟩ := x_line (d := d) h4 ho C ha hb sd hP ha' hb' sd' hP' hl A Z N kv
  refine ⟨g', fun Q => ?_, O1, F1⟩
  simp (disch := first | with_reducible assumption | omega | exact Or.inl rfl | exact Or.inr rfl | exact bI_01 | exact c_cat | exact vt_ref | exact vt_null | rfl | with_reducible repeat (first | assumption | omega | apply S_I | apply S_L | apply S_D | apply ob_I | apply ob_L | apply ob_D | apply ob_R | apply ax_I | apply ax_L | apply ax_D | apply ax_R | apply o303 | apply o307 | apply o302 | apply o301 | apply ax304 | apply ax305 | apply ax306 | apply ax308 | apply ax309 | apply ax310 | apply lt_S | apply ar305 | apply ar308 | apply ar309)) only [g40_0, g40_1_25, g40_256, g40_257, g40_258, g40_259, g40_261, g40_262, g40_263, g40_265, g40_266, g40_267, g40_270, g40_302, Option.toList, List.nil_append, List.cons_append, va_rf, l6_i, nI_and16, l6_shr16, show (a + 256 * b + 65536 * (a' + 256 * b')) % 65536 = a + 256 * b by omega, show (a + 256 * b + 65536 * (a' + 256 * b')) / 65536 = a' + 256 * b' by omega, r1 _]
theorem c_area {i j M : Nat} (h4 : 402 ≤ h.1) (ho : o < 278 ∨ 299 < o) (ho2 : o < 402) (hd : dp < 22) (hre : ∀ a, rr = some a → a < e ∨ e + 7 ≤ a) (C0 : cvX h cv P) (hM : M ≤ 48) (ht : tt s nn = (nI 7, nI i, nI j, -1, lN 8)) (R : rows_ (tt s) M i a b') (R2 : rows_ (tt s) M j a' c') (hP : ∀ j, j < rgN a b' → P (rgC a b' j)) (hP2 : ∀ j, j < rgN a' c' → P (rgC a' c' j)) : CWk h o rr sa (d + 6) v1 v2 v3 (f + 1) (ev tt rt cv cs (f + 1) s as sh dp nn) dp e b as [ST, (nI 26, lN (a + 256 * b' + 65536 * (a' + 256 * c')))] tm := by
  intro DD p g σ ts st n T C hD hf A Z N FR V hl ht2 hT hT2
  show CP h o rr sa (d + 6) v1 v2 v3 T g dp ts st (p + 1 + 1) n (if σ.1 = 0 then (oF 8, σ) else evX tt rt cv cs f s as sh dp nn (σ.1 - 1, σ.2))
  have Cg := cd_kp A.1 ho2 hre C
  refine c_step (d := d + 4) A ho hd Cg FR (hD 0 _ rfl) Z N hT hT2 (fun s0 g1 A1 Z1 N1 FK1 at1 hT1 => ?_)
  obtain ⟨hi, ht3, ha, hb, sd⟩ := id R
  obtain ⟨hi2, ht4, ha2, hb2, sd2⟩ := id R2
  have ex : evX tt rt cv cs f s as sh dp nn (σ.1 - 1, σ.2) = evRows cv 8 Jvm.FP.dconst0 (rgL a b') (rgL a' c') (σ.1 - 1, σ.2) := by
    unfold evX evN evCall
    simp (disch := omega) only [ht, nI_eq, Nat.reduceEqDiff, ↓reduceIte, xN_n, lN_i8, Nat.reduceLeDiff, and_false, rwL_at R, rwL_at R2]
  rw [ex]
  have C1 := cd_kp A1.1 ho2 hre C
  have Aa := XS_at (p := p + 1) A1 hd ho
  obtain ⟨g', r1, OO, F1⟩ := o_area_ (d := d) h4 ho C0 ha hb sd hP ha2 hb2 sd2 hP2 (by omega) Aa (KZ_at (p := p + 1) Z1 hd) (NS_at (p := p + 1) N1 hd)
  have le : (evRows cv 8 Jvm.FP.dconst0 (rgL a b') (rgL a' c') (σ.1 - 1, σ.2)).2.1 ≤ σ.1 - 1 := evRows_le
  exact c_op (d := d + 5) A1 hd C1 (FK_F FK1 at1 FR) (hD 1 _ rfl) (by omega) (by omega) r1 OO F1
theorem c_line {i j l M : Nat} {D1 : List (Int32 × Int64)} (h4 : 402 ≤ h.1) (ho : o < 278 ∨ 299 < o) (ho2 : o < 402) (hd : dp < 22) (hre : ∀ a, rr = some a → a < e ∨ e + 7 ≤ a) (C0 : cvX h cv P) (hM : M ≤ 48) (hi0 : i < 48) (ht : tt s nn = (nI 7, nI i, nI j, nI l, lN 7)) (R : rows_ (tt s) M j a b') (R2 : rows_ (tt s) M l a' c') (hP : ∀ j, j < rgN a b' → P (rgC a b' j)) (hP2 : ∀ j, j < rgN a' c' → P (rgC a' c' j)) (W : CWk h o rr sa (d + 6) v1 v2 v3 f (ev tt rt cv cs f s as sh dp i) dp e b as D1 tm) : CWk h o rr sa (d + 6) v1 v2 v3 (f + 1) (ev tt rt cv cs (f + 1) s as sh dp nn) dp e b as (ST :: D1 ++ [(nI 25, lN (a + 256 * b' + 65536 * (a' + 256 * c')))]) tm := by
  intro DD p g σ ts st n T C hD hf A Z N FR V hl ht2 hT hT2
  rw [show p + (ST :: D1 ++ [(nI 25, lN (a + 256 * b' + 65536 * (a' + 256 * c')))]).length = p + 1 + D1.length + 1 by simp only [List.length_append, List.length_cons, List.length_nil]; omega]
  show CP h o rr sa (d + 6) v1 v2 v3 T g dp ts st (p + 1 + D1.length + 1) n (if σ.1 = 0 then (oF 8, σ) else evX tt rt cv cs f s as sh dp nn (σ.1 - 1, σ.2))
  have Cg := cd_kp A.1 ho2 hre C
  refine c_step (d := d + 4) A ho hd Cg FR (hD 0 _ rfl) Z N hT hT2 (fun s0 g1 A1 Z1 N1 FK1 at1 hT1 => ?_)
  obtain ⟨hi, ht3, ha, hb, sd⟩ := id R
  obtain ⟨hi2, ht4, ha2, hb2, sd2⟩ := id R2
  have ex : evX tt rt cv cs f s as sh dp nn (σ.1 - 1, σ.2) = andThen (ev tt rt cv cs f s as sh dp i (σ.1 - 1, σ.2)) (fun v σ => evRows cv 7 (vD v) (rgL a b') (rgL a' c') σ) := by
    unfold evX evN evCall
    simp (disch := omega) only [ht, nI_eq, Nat.reduceEqDiff, ↓reduceIte, xN_n, lN_i8, Nat.reduceLeDiff, and_false, rwL_at R, rwL_at R2]
  rw [ex]
  have hD1 := d_sub (D1 := D1) (k := 1) hD (fun j x hx => by
    have c := (List.getElem?_eq_some_iff.mp hx).1
    rw [Nat.add_comm 1, List.cons_append, List.getElem?_cons_succ, List.getElem?_append_left c]; exact hx)
  have hop : DD[p + 1 + D1.length]? = some (nI 25, lN (a + 256 * b' + 65536 * (a' + 256 * c'))) := by
    have := hD (1 + D1.length) (nI 25, lN (a + 256 * b' + 65536 * (a' + 256 * c'))) (by rw [Nat.add_comm 1, List.cons_append, List.getElem?_cons_succ, List.getElem?_append_right (Nat.le_refl _), Nat.sub_self]; rfl)
    rwa [← Nat.add_assoc] at this
  refine c_sub (u := []) (T1 := T - 2) W C hD1 (by show σ.1 - 1 < f; omega) A1 Z1 (by rw [List.append_nil]; exact N1) (FK_F FK1 at1 FR) V (by show st.length + 0 + (σ.1 - 1) ≤ 1000; omega) ht2 (by show n + 1 + 6 * (σ.1 - 1) ≤ T - 2; omega) (by omega) hT2 (fun v σ' g2 n2 _ w2 w3 w4 w5 w6 w7 w8 => ?_)
  rw [List.append_nil] at w4
  have C2 := cd_kp w2.1 ho2 hre C
  have Aa := XS_at (p := p + 1 + D1.length) w2 hd ho
  obtain ⟨g', r1, OO, F1⟩ := o_line_ (d := d) h4 ho C0 ha hb sd hP ha2 hb2 sd2 hP2 (by omega) Aa (KZ_at (p := p + 1 + D1.length) w3 hd) (NS_at (p := p + 1 + D1.length) w4 hd) w5
  have le : (evRows cv 7 (vD v) (rgL a b') (rgL a' c') σ').2.1 ≤ σ'.1 := evRows_le
  exact c_op (d := d + 5) w2 hd C2 (FK_F (FK_trans FK1 w6) w7 FR) hop (by omega) (by omega) r1 OO F1
end XLN

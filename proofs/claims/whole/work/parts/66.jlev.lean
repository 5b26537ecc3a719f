/-! BOTH PARSERS: signs between; the class's loop -/
def rkI (K : Nat) : Int32 := if K ∈ [60, 61, 256, 257] then nI 0 else if K ∈ [43, 45] then nI 1 else if K ∈ [37, 42, 47] then nI 2 else -1
section JLV
variable {d : Nat} {h hx hm : am_H} {Q : Option Value → am_H → Prop} {v1 v2 v3 v4 v5 v6 : Option Value} {so s vis on na nc nf : Nat} {oX oM : Int64} {agX agM cnX cnM fnX fnM : Nat → Int64} {fnA : Nat → Nat}
variable {t : Nat → Nat} {n q : Nat} {md : Nat ⊕ (Nat × Nat)} {C : List (Int32 × Int64)} {P : List Int32} {N : List Nat} {F ln lp wn wp : Int32} {k o m : Nat} {k' o' : Int32} {ltx ltm : Option (Nat × Nat)} {y : Nat × Nat}
theorem x_rankOf {K : Nat} (hK : K ∈ [37, 40, 41, 42, 43, 44, 45, 47, 58, 60, 61, 256, 257, 258, 259, 260, 261, 262, 263]) : am_J d 105 0 [some (.int (nI K))] [] h Q ↔ Q (some (.int (rkI K))) h := by
  simp only [List.mem_cons, List.not_mem_nil, or_false] at hK
  rcases hK with rfl | rfl | rfl | rfl | rfl | rfl | rfl | rfl | rfl | rfl | rfl | rfl | rfl | rfl | rfl | rfl | rfl | rfl | rfl
  all_goals simp (disch := first | with_reducible assumption | omega | exact Or.inl rfl | exact Or.inr rfl | exact bI_01 | exact c_cat | exact vt_ref | exact vt_null | rfl | with_reducible repeat (first | assumption | omega | apply S_I | apply S_L | apply S_D | apply ob_I | apply ob_L | apply ob_D | apply ob_R | apply ax_I | apply ax_L | apply ax_D | apply ax_R | apply o303 | apply o307 | apply o302 | apply o301 | apply ax304 | apply ax305 | apply ax306 | apply ax308 | apply ax309 | apply ax310 | apply lt_S | apply ar305 | apply ar308 | apply ar309)) only [g105_0, g105_84, g105_85, g105_86, g105_87, g105_88, g105_89, g105_90, g105_91, g105_1_37, g105_1_40, g105_1_41, g105_1_42, g105_1_43, g105_1_44, g105_1_45, g105_1_47, g105_1_58, g105_1_60, g105_1_61, g105_1_256, g105_1_257, g105_1_258, g105_1_259, g105_1_260, g105_1_261, g105_1_262, g105_1_263]
  all_goals rfl
theorem x_orderOf {K : Nat} (hK : K ∈ [37, 42, 43, 45, 47, 60, 61, 256, 257]) : am_J d 106 0 [some (.int (nI K))] [] h Q ↔ Q (some (.int (nI (opN (msgn K))))) h := by
  simp only [List.mem_cons, List.not_mem_nil, or_false] at hK
  rcases hK with rfl | rfl | rfl | rfl | rfl | rfl | rfl | rfl | rfl
  all_goals simp (disch := first | with_reducible assumption | omega | exact Or.inl rfl | exact Or.inr rfl | exact bI_01 | exact c_cat | exact vt_ref | exact vt_null | rfl | with_reducible repeat (first | assumption | omega | apply S_I | apply S_L | apply S_D | apply ob_I | apply ob_L | apply ob_D | apply ob_R | apply ax_I | apply ax_L | apply ax_D | apply ax_R | apply o303 | apply o307 | apply o302 | apply o301 | apply ax304 | apply ax305 | apply ax306 | apply ax308 | apply ax309 | apply ax310 | apply lt_S | apply ar305 | apply ar308 | apply ar309)) only [g106_0, g106_76, g106_78, g106_79, g106_81, g106_82, g106_84, g106_85, g106_87, g106_88, g106_90, g106_91, g106_93, g106_94, g106_96, g106_97, g106_99, g106_100, g106_102, g106_1_37, g106_1_42, g106_1_43, g106_1_45, g106_1_47, g106_1_60, g106_1_61, g106_1_256, g106_1_257]
  all_goals rfl
/-- the loop's end -/
theorem x_exit (X : PX h t n md C P N F k' o' ln lp) {j : Nat} {most turn : Int32} (hr : ¬ rkI (mdK t n md) = nI j) : am_J (d + 1) 77 51 [some (.ref 301), some (.int (nI j)), v2, v3, some (.int most), some (.int turn), v6] [] h Q ↔ Q none h := by
  have S := X.1
  have tk := x_tok X
  have hK : mdK t n md ∈ [37, 40, 41, 42, 43, 44, 45, 47, 58, 60, 61, 256, 257, 258, 259, 260, 261, 262, 263] := by
    match md with
    | .inl q => exact lx_K_mem t n q
    | .inr y => show 263 ∈ _; decide
  rw [g77_51]
  by_cases c : most ≤ turn
  · simp (disch := first | with_reducible assumption | omega | exact Or.inl rfl | exact Or.inr rfl | exact bI_01 | exact c_cat | exact vt_ref | exact vt_null | rfl | with_reducible repeat (first | assumption | omega | apply S_I | apply S_L | apply S_D | apply ob_I | apply ob_L | apply ob_D | apply ob_R | apply ax_I | apply ax_L | apply ax_D | apply ax_R | apply o303 | apply o307 | apply o302 | apply o301 | apply ax304 | apply ax305 | apply ax306 | apply ax308 | apply ax309 | apply ax310 | apply lt_S | apply ar305 | apply ar308 | apply ar309)) only [g77_53, g77_55, g77_163, c, ↓reduceIte]
  · simp (disch := first | with_reducible assumption | omega | exact Or.inl rfl | exact Or.inr rfl | exact bI_01 | exact c_cat | exact vt_ref | exact vt_null | rfl | with_reducible repeat (first | assumption | omega | apply S_I | apply S_L | apply S_D | apply ob_I | apply ob_L | apply ob_D | apply ob_R | apply ax_I | apply ax_L | apply ax_D | apply ax_R | apply o303 | apply o307 | apply o302 | apply o301 | apply ax304 | apply ax305 | apply ax306 | apply ax308 | apply ax309 | apply ax310 | apply lt_S | apply ar305 | apply ar308 | apply ar309)) only [g77_53, g77_55, g77_58, g77_59, g77_62, g77_65, g77_68, g77_69, g77_163, c, ↓reduceIte, Option.toList, List.nil_append, List.cons_append, va_rf, tk, x_rankOf hK, hr]
theorem bx_exit (B : BX h t n y) {j : Nat} (hj : j < 3) {most turn : Int32} : am_J (d + 1) 77 51 [some (.ref 301), some (.int (nI j)), v2, v3, some (.int most), some (.int turn), v6] [] h Q ↔ Q none h := by
  obtain ⟨C, P, N, F, k, o, ln, lp, X⟩ := B
  refine x_exit X (fun e => nI_nem1 (show j < 2 ^ 31 by omega) ?_)
  rw [← e]; rfl
theorem take_app {α : Type} (l : List α) {i : Nat} (hi : i ≤ l.length) : l = l.take i ++ l.drop i ∧ (l.take i).length = i := ⟨(List.take_append_drop i l).symm, by rw [List.length_take]; omega⟩
/-- one turn, up to its second operand -/
theorem x_iter1 (X : PX h t n (.inl q) C P N F (nI k) o' ln lp) (hk : k ≤ 40) {j : Nat} (hr : rkI (lx_K t n q) = nI j) (hop : lx_K t n q ∈ [37, 42, 43, 45, 47, 60, 61, 256, 257]) {s0 p0 : Nat} (hs : s0 ≤ C.length) (hp : p0 ≤ P.length) {most turn : Int32} (ht : turn < most) : ∃ h' P', (∀ Q, am_J (d + 4) 77 51 [some (.ref 301), some (.int (nI j)), some (.int (nI s0)), some (.int (nI p0)), some (.int most), some (.int turn), v6] [] h Q ↔ am_J (d + 4) 77 127 [some (.ref 301), some (.int (nI j)), some (.int (nI s0)), some (.int (nI p0)), some (.int most), some (.int turn), some (.int (nI (opN (msgn (lx_K t n q)))))] [] h' Q) ∧ XF h h' ∧ PX h' t n (if k < 40 then mdA t n (.inl q) else .inr (3, q)) (xins (C.take s0) (C.drop s0)) P' N F (if k < 40 then nI (k + 1) else nI 40) o' ln lp ∧ (k < 40 → P' = xcop t n (xpin (P.take p0) (P.drop p0) (nI 40)) q (lx_E t n q - q)) := by
  have S := X.1
  have tk : am_I h 302 2 = nI (lx_K t n q) := x_tok X
  obtain ⟨R0, R1, R2, R3, R4, R5⟩ := S303r S
  have h240 := X.2.1.2.2.1
  have hqn := X.2.2.1.2.2.1
  have hK := lx_K_mem t n q
  obtain ⟨tc1, tc2⟩ := take_app C hs
  obtain ⟨tp1, tp2⟩ := take_app P hp
  obtain ⟨h1, r1, X1, F1⟩ := x_tellPart (d := d + 2) X
  have S1 := X1.1
  rw [tc1] at X1
  obtain ⟨h2, r2, X2, F2⟩ := x_insStep (d := d + 3) X1
  rw [tc2] at r2
  have S2 := X2.1
  obtain ⟨-, -, R22, -, -, -⟩ := S303r S2
  rw [tp1] at X2
  obtain ⟨h3, r3, X3, F3⟩ := x_pinsert (d := d + 3) X2 (w := nI 40)
  rw [tp2] at r3
  have S3 := X3.1
  obtain ⟨⟨e, e1, e2⟩, ⟨a, a1, a2⟩, -⟩ := px_pos X3
  obtain ⟨h4, r4, X4, F4⟩ := x_copy (d := d + 2) (e := e) (a := a) (by omega) (by omega) X3 e2
  have S4 := X4.1
  obtain ⟨h5, r5, X5, F5⟩ := x_adv (d := d + 1) (v1 := none) X4
  refine ⟨h5, xcop t n (xpin (P.take p0) (P.drop p0) (nI 40)) a (e - a), fun Q => ?_, XF_trans F1 (XF_trans (XF_303 F2) (XF_trans (XF_303 F3) (XF_trans (XF_303 F4) F5))), ?_, fun c => ?_⟩
  rotate_left
  · by_cases c : k < 40
    · rw [if_pos c, if_pos c]
      rw [xpart_good c] at X5
      exact X5
    · obtain rfl : k = 40 := by omega
      rw [if_neg (by omega), if_neg (by omega)]
      rw [xpart_bad] at X5
      exact X5
  · rw [xpart_good c] at X3
    obtain ⟨⟨l1, l2, l3, l4⟩, -⟩ := X3.2.2.1
    have hEl := lx_E_le X.2.2.1.2.2.1 X.2.2.1.2.1
    have e3 : e = lx_E t n q := by rw [l1] at e2; exact ((nI_eq (by omega) (by omega)).mp e2).symm
    have e4 : a = q := by rw [l3] at a2; exact ((nI_eq (by omega) (by omega)).mp a2).symm
    rw [e3, e4]
  · rw [g77_51]
    simp (disch := first | with_reducible assumption | omega | exact Or.inl rfl | exact Or.inr rfl | exact bI_01 | exact c_cat | exact vt_ref | exact vt_null | rfl | with_reducible repeat (first | assumption | omega | apply S_I | apply S_L | apply S_D | apply ob_I | apply ob_L | apply ob_D | apply ob_R | apply ax_I | apply ax_L | apply ax_D | apply ax_R | apply o303 | apply o307 | apply o302 | apply o301 | apply ax304 | apply ax305 | apply ax306 | apply ax308 | apply ax309 | apply ax310 | apply lt_S | apply ar305 | apply ar308 | apply ar309)) only [g77_53, g77_55, g77_58, g77_59, g77_62, g77_65, g77_68, g77_69, g77_72, g77_73, g77_76, g77_79, g77_82, g77_84, g77_85, g77_88, g77_89, g77_92, g77_93, g77_96, g77_97, g77_100, g77_103, g77_104, g77_106, g77_109, g77_110, g77_111, g77_114, g77_117, g77_120, g77_121, g77_124, ↓reduceIte, Option.toList, List.nil_append, List.cons_append, va_rf, tk, x_rankOf hK, x_orderOf hop, hr, Int32.not_le.mpr ht, r1 _, r2 _, R22, r3 _, a2, r4 _, r5 _]
/-- one turn, behind its second operand -/
theorem x_iter2 (X : PX h t n md C P N F k' o' ln lp) {j : Nat} {op : Nat} (hop : op < 128) {most : Int32} {turn : Nat} : ∃ h', (∀ Q, am_J (d + 1) 77 134 [some (.ref 301), v1, v2, v3, some (.int most), some (.int (nI turn)), some (.int (nI op))] [] h Q ↔ am_J (d + 1) 77 51 [some (.ref 301), v1, v2, v3, some (.int most), some (.int (nI (turn + 1))), some (.int (nI op))] [] h' Q) ∧ XF h h' ∧ PX h' t n md (xadd C (nI op, lN 0)) (xpad P (nI 41)) N F k' o' ln lp := by
  have S := X.1
  obtain ⟨R0, R1, R2, R3, R4, R5⟩ := S303r S
  obtain ⟨h1, r1, X1, F1⟩ := x_padd (d := d) X (w := nI 41)
  have S1 := X1.1
  obtain ⟨h2, r2, X2, F2⟩ := x_add (d := d) X1 (w := nI op) (v := lN 0)
  rw [by8_nI op hop] at X2 r2
  refine ⟨h2, fun Q => ?_, XF_trans (XF_303 F1) (XF_303 F2), X2⟩
  simp (disch := first | with_reducible assumption | omega | exact Or.inl rfl | exact Or.inr rfl | exact bI_01 | exact c_cat | exact vt_ref | exact vt_null | rfl | with_reducible repeat (first | assumption | omega | apply S_I | apply S_L | apply S_D | apply ob_I | apply ob_L | apply ob_D | apply ob_R | apply ax_I | apply ax_L | apply ax_D | apply ax_R | apply o303 | apply o307 | apply o302 | apply o301 | apply ax304 | apply ax305 | apply ax306 | apply ax308 | apply ax309 | apply ax310 | apply lt_S | apply ar305 | apply ar308 | apply ar309)) only [g77_134, g77_135, g77_138, g77_141, g77_143, g77_146, g77_147, g77_150, g77_152, g77_153, g77_156, g77_157, g77_160, Option.toList, List.nil_append, List.cons_append, va_rf, R2, r1 _, r2 _, nI_add]
end JLV

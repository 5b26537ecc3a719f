/-! THE MODEL: an argument of a function's head -/
theorem xlat_idem {wn wp f p : Int32} : xlat (xlat wn wp f p).1 (xlat wn wp f p).2 f p = xlat wn wp f p := by
  by_cases c : wp = -1 ∨ p < wp
  · rw [show xlat wn wp f p = (f, p) from if_pos c]
    unfold xlat; split <;> rfl
  · rw [show xlat wn wp f p = (wn, wp) from if_neg c]
    exact if_neg c
section MF1
variable {d : Nat} {h g : am_H} {Q : Option Value → am_H → Prop} {v2 : Option Value} {t : Nat → Nat} {n a q q0 : Nat} {ag : Nat → Int64} {md : Nat ⊕ (Nat × Nat)} {k o wn wp p : Int32} {y : Int64}
/-- what the arguments leave -/
def MHF (h h' : am_H) : Prop := am_fr (fun a => a = 349 ∨ (352 ≤ a ∧ a ≤ 357) ∨ a = 363) h h' ∧ (∀ k, ¬ (k = 4 ∨ (17 ≤ k ∧ k ≤ 20) ∨ (22 ≤ k ∧ k ≤ 27) ∨ k = 30 ∨ k = 31) → am_I h' 349 k = am_I h 349 k) ∧ (∀ k, am_L h' 349 k = am_L h 349 k) ∧ ∀ a i, 352 ≤ a → a ≤ 357 → (i < 3648 ∨ 3696 ≤ i) → am_I h' a i = am_I h a i ∧ am_L h' a i = am_L h a i
theorem MHF_of (F : MF h g 0) : MHF h g := ⟨fr_mono (fun a q => by omega) F.1, fun k hk => F.2.1 k (by omega), F.2.2.1, fun a i h1 h2 hi => F.2.2.2 a i h1 h2 (by omega)⟩
theorem MHF_trans {g' : am_H} (F : MHF h g) (G : MHF g g') : MHF h g' := ⟨fr_trans F.1 G.1, fun k hk => (G.2.1 k hk).trans (F.2.1 k hk), fun k => (G.2.2.1 k).trans (F.2.2.1 k), fun a i h1 h2 hi => ⟨(G.2.2.2 a i h1 h2 hi).1.trans (F.2.2.2 a i h1 h2 hi).1, (G.2.2.2 a i h1 h2 hi).2.trans (F.2.2.2 a i h1 h2 hi).2⟩⟩
theorem MHF_I {j : Nat} {x : Int32} (hj : j = 30 ∨ j = 31) : MHF h (am_setI h 349 j x) := ⟨fr_I fr_refl (Or.inl rfl), fun k hk => by rw [rI_k (by omega)], fun k => rfl, fun a i h1 h2 hi => ⟨by rw [rI_a (by omega)], rfl⟩⟩
theorem MHF_L {j : Nat} {x : Int64} : MHF h (am_setL h 363 j x) := ⟨fr_L fr_refl (Or.inr (Or.inr rfl)), fun k hk => rfl, fun k => by rw [rL_a (by decide)], fun a i h1 h2 hi => ⟨rfl, by rw [rL_a (by omega)]⟩⟩
theorem MX_L363 {j : Nat} {x : Int64} (Y : MX h t n md k o 0 wn wp) : MX (am_setL h 363 j x) t n md k o 0 wn wp := by
  obtain ⟨S, G, T, L, e1, e2, e3, e4, e5, e6⟩ := Y
  have Fr : am_fr (fun a => a = 363) h (am_setL h 363 j x) := fr_L fr_refl rfl
  refine ⟨fr_S Fr S, Gv_fr Fr (by omega) (by omega) (by omega) G, ⟨T.1, T.2⟩, ?_, e1, e2, e3, e4, e5, e6⟩
  match md, L with
  | .inl q, L => exact L
  | .inr y, L => exact L
theorem m_dup (ha : a < 3) : ∀ r i h wn wp, a - i = r → i ≤ a → MX h t n (.inl q) k o 0 wn wp → am_I h 349 31 = nI a → (∀ j, j < a → am_L h 363 j = ag j) → am_L h 363 a = y → ∃ h', (∀ Q, am_J (d + 1) 200 123 [some (.ref 349), some (.int p), some (.int (nI i))] [] h Q ↔ am_J (d + 1) 200 165 [some (.ref 349), some (.int p), some (.int (nI a))] [] h' Q) ∧ MX h' t n (.inl q) k o 0 (if am_scan (fun i => !decide (ag i = y)) a i < a then (xlat wn wp (nI 5) (nI q)).1 else wn) (if am_scan (fun i => !decide (ag i = y)) a i < a then (xlat wn wp (nI 5) (nI q)).2 else wp) ∧ MF h h' 0 := by
  intro r
  induction r with
  | zero =>
    intro i h wn wp hr hi Y e31 hag hy
    obtain rfl : i = a := by omega
    have S := Y.1
    rw [scan_stop (fun q => absurd q.1 (Nat.lt_irrefl _)), if_neg (Nat.lt_irrefl _), if_neg (Nat.lt_irrefl _)]
    refine ⟨h, fun Q => ?_, Y, MF_refl⟩
    rw [g200_123]
    simp (disch := first | with_reducible assumption | omega | exact Or.inl rfl | exact Or.inr rfl | exact bI_01 | exact c_cat | exact vt_ref | exact vt_null | rfl | with_reducible repeat (first | assumption | omega | apply S_I | apply S_L | apply S_D | apply ob_I | apply ob_L | apply ob_D | apply ob_R | apply ax_I | apply ax_L | apply ax_D | apply ax_R | apply o303 | apply o307 | apply o302 | apply o301 | apply ax304 | apply ax305 | apply ax306 | apply ax308 | apply ax309 | apply ax310 | apply lt_S | apply ar305 | apply ar308 | apply ar309)) only [g200_124, g200_125, g200_128, g200_131, g200_132, g200_135, g200_136, g200_137, g200_138, g200_141, g200_142, g200_145, g200_146, g200_147, g200_150, g200_151, g200_152, g200_153, g200_156, g200_159, g200_162, Option.toList, List.nil_append, List.cons_append, va_rf, nI_ltI, nI_leI, nI_eq, nI_add, nI_sub, nI_lt0, nI_e0, nI_m1, m1_nI, Nat.reduceEqDiff, Nat.reduceLT, Nat.reduceLeDiff, Nat.reduceAdd, Nat.reduceSub, Nat.reduceMul, ↓reduceIte, eq_self, e31, Nat.le_refl]
  | succ r ih =>
    intro i h wn wp hr hi Y e31 hag hy
    have S := Y.1
    have ei := hag i (by omega)
    obtain ⟨⟨m1', m2', m3', m4'⟩, mk, mq, f22, f4⟩ := Y.2.2.2.1
    by_cases c : ag i = y
    · rw [scan_stop (fun q => by simp [c] at q), if_pos (by omega), if_pos (by omega)]
      obtain ⟨h1, r1, Y1, F1⟩ := m_wrong (d := d) Y (f := nI 5) (p := nI q)
      obtain ⟨h2, r2, Y2, F2⟩ := ih (i + 1) h1 _ _ (by omega) (by omega) Y1 (by rw [F1.2.1 31 (by omega)]; exact e31) (fun j hj => by rw [fr_rdL F1.1 (by omega)]; exact hag j hj) (by rw [fr_rdL F1.1 (by omega)]; exact hy)
      refine ⟨h2, fun Q => ?_, ?_, MF_trans F1 F2 (Nat.le_refl _)⟩
      · rw [← r2, g200_123]
        simp (disch := first | with_reducible assumption | omega | exact Or.inl rfl | exact Or.inr rfl | exact bI_01 | exact c_cat | exact vt_ref | exact vt_null | rfl | with_reducible repeat (first | assumption | omega | apply S_I | apply S_L | apply S_D | apply ob_I | apply ob_L | apply ob_D | apply ob_R | apply ax_I | apply ax_L | apply ax_D | apply ax_R | apply o303 | apply o307 | apply o302 | apply o301 | apply ax304 | apply ax305 | apply ax306 | apply ax308 | apply ax309 | apply ax310 | apply lt_S | apply ar305 | apply ar308 | apply ar309)) only [g200_124, g200_125, g200_128, g200_131, g200_132, g200_135, g200_136, g200_137, g200_138, g200_141, g200_142, g200_145, g200_146, g200_147, g200_150, g200_151, g200_152, g200_153, g200_156, g200_159, g200_162, Option.toList, List.nil_append, List.cons_append, va_rf, nI_ltI, nI_leI, nI_eq, nI_add, nI_sub, nI_lt0, nI_e0, nI_m1, m1_nI, Nat.reduceEqDiff, Nat.reduceLT, Nat.reduceLeDiff, Nat.reduceAdd, Nat.reduceSub, Nat.reduceMul, ↓reduceIte, eq_self, e31, show ¬ a ≤ i by omega, ei, hy, c, lg_cmp0, m3', r1 _]
      · rw [xlat_idem] at Y2
        split at Y2
        · exact Y2
        · exact Y2
    · rw [scan_step (by omega) (by simp [c])]
      obtain ⟨h2, r2, Y2, F2⟩ := ih (i + 1) h _ _ (by omega) (by omega) Y e31 hag hy
      refine ⟨h2, fun Q => ?_, Y2, F2⟩
      rw [← r2, g200_123]
      simp (disch := first | with_reducible assumption | omega | exact Or.inl rfl | exact Or.inr rfl | exact bI_01 | exact c_cat | exact vt_ref | exact vt_null | rfl | with_reducible repeat (first | assumption | omega | apply S_I | apply S_L | apply S_D | apply ob_I | apply ob_L | apply ob_D | apply ob_R | apply ax_I | apply ax_L | apply ax_D | apply ax_R | apply o303 | apply o307 | apply o302 | apply o301 | apply ax304 | apply ax305 | apply ax306 | apply ax308 | apply ax309 | apply ax310 | apply lt_S | apply ar305 | apply ar308 | apply ar309)) only [g200_124, g200_125, g200_128, g200_131, g200_132, g200_135, g200_136, g200_137, g200_138, g200_141, g200_142, g200_145, g200_146, g200_147, g200_150, g200_151, g200_152, g200_153, g200_156, g200_159, g200_162, Option.toList, List.nil_append, List.cons_append, va_rf, nI_ltI, nI_leI, nI_eq, nI_add, nI_sub, nI_lt0, nI_e0, nI_m1, m1_nI, Nat.reduceEqDiff, Nat.reduceLT, Nat.reduceLeDiff, Nat.reduceAdd, Nat.reduceSub, Nat.reduceMul, ↓reduceIte, eq_self, e31, show ¬ a ≤ i by omega, ei, hy, c, lg_cmp0]
theorem m_arg1 (Y : MX h t n (.inl q0) k o 0 wn wp) (ha : a < 3) (e31 : am_I h 349 31 = nI a) (hag : ∀ i, i < a → am_L h 363 i = ag i) : ∃ h', MHF h h' ∧ ((¬ isNm t n (mdA t n (.inl q0)) ∧ (∀ Q, am_J (d + 8) 200 63 [some (.ref 349), some (.int p), v2] [] h Q ↔ Q none h') ∧ MX h' t n (mdR 2 (mdA t n (.inl q0))) k o 0 wn wp) ∨ ∃ q v2', mdA t n (.inl q0) = .inl q ∧ lx_K t n q = 258 ∧ lx_wd t n q = 12 ∧ (∀ Q, am_J (d + 8) 200 63 [some (.ref 349), some (.int p), v2] [] h Q ↔ am_J (d + 8) 200 179 [some (.ref 349), some (.int p), v2'] [] h' Q) ∧ MX h' t n (mdA t n (.inl q)) k o 0 (if fdI ag (lN (lx_w 32 96 t q (lx_E t n q - q))) a < a then (xlat wn wp (nI 5) (nI q)).1 else wn) (if fdI ag (lN (lx_w 32 96 t q (lx_E t n q - q))) a < a then (xlat wn wp (nI 5) (nI q)).2 else wp) ∧ am_I h' 349 31 = nI (a + 1) ∧ (∀ i, i < a → am_L h' 363 i = ag i) ∧ am_L h' 363 a = lN (lx_w 32 96 t q (lx_E t n q - q))) := by
  have S := Y.1
  obtain ⟨h1, r1, Y1, F1⟩ := m_nx (d := d + 4) (v1 := none) Y
  have S1 := Y1.1
  have e31' : am_I h1 349 31 = nI a := by rw [F1.2.1 31 (by omega)]; exact e31
  have hag' : ∀ i, i < a → am_L h1 363 i = ag i := fun i hi => by rw [fr_rdL F1.1 (by omega)]; exact hag i hi
  match hA : mdA t n (.inl q0) with
  | .inr y =>
    rw [hA] at Y1
    have BB := BM_of Y1 (Nat.le_refl 0)
    obtain ⟨b, Wn⟩ := bm_isName (d := d + 1) BB
    have hb : ∃ h2, am_run (d + 7) 203 [some (.ref 349), some (.int (bI b))] h1 none h2 ∧ MX h2 t n (.inr y) k o 0 wn wp ∧ MF h1 h2 0 := by
      cases b with
      | true => exact ⟨h1, fun Q => m_needT S1, Y1, MF_refl⟩
      | false =>
        obtain ⟨h2, r2, Y2, F2⟩ := m_needF (d := d + 6) Y1
        exact ⟨h2, r2, Y2, F2⟩
    obtain ⟨h2, r2, Y2, F2⟩ := hb
    obtain ⟨S2, f1, f10, f1h, f1e⟩ := bm_S (BM_of Y2 (Nat.le_refl 0))
    refine ⟨h2, MHF_of (MF_trans F1 F2 (Nat.le_refl _)), Or.inl ⟨fun e => e, fun Q => ?_, Y2⟩⟩
    simp (disch := first | with_reducible assumption | omega | exact Or.inl rfl | exact Or.inr rfl | exact bI_01 | exact c_cat | exact vt_ref | exact vt_null | rfl | with_reducible repeat (first | assumption | omega | apply S_I | apply S_L | apply S_D | apply ob_I | apply ob_L | apply ob_D | apply ob_R | apply ax_I | apply ax_L | apply ax_D | apply ax_R | apply o303 | apply o307 | apply o302 | apply o301 | apply ax304 | apply ax305 | apply ax306 | apply ax308 | apply ax309 | apply ax310 | apply lt_S | apply ar305 | apply ar308 | apply ar309)) only [g200_63, g200_64, g200_67, g200_68, g200_69, g200_72, g200_75, g200_76, g200_79, g200_82, Option.toList, List.nil_append, List.cons_append, va_rf, nI_ltI, nI_leI, nI_eq, nI_add, nI_sub, nI_lt0, nI_e0, nI_m1, m1_nI, Nat.reduceEqDiff, Nat.reduceLT, Nat.reduceLeDiff, Nat.reduceAdd, Nat.reduceSub, Nat.reduceMul, ↓reduceIte, eq_self, r1 _, Wn, r2 _, f1e, f10]
  | .inl q =>
    rw [hA] at Y1
    obtain ⟨⟨m1', m2', m3', m4'⟩, mk, mq, f22, f4⟩ := Y1.2.2.2.1
    have nm := fun Q => m_isName (d := d + 1) (Q := Q) Y1
    by_cases c : lx_K t n q = 258 ∧ lx_wd t n q = 12
    · rw [decide_eq_true c] at nm
      obtain ⟨a1, a2, a3, a4, a5⟩ := lx_name c.1
      have nh := fun Q => m_nameHere (d := d + 7) (Q := Q) (v1 := none) (v2 := none) (v3 := none) Y1 (fun j h1 h2 => (isL_of (a5 j h1 h2)).1) (Nat.le_of_lt a2)
      generalize ey : lN (lx_w 32 96 t q (lx_E t n q - q)) = y at nh ⊢
      have nt : ∀ Q, am_J (d + 7) 203 0 [some (.ref 349), some (.int (nI 1))] [] h1 Q ↔ Q none h1 := fun Q => m_needT S1
      have Y2 : MX (am_setL h1 363 a y) t n (.inl q) k o 0 wn wp := MX_L363 Y1
      have S2 := Y2.1
      obtain ⟨h3, r3, Y3, F3⟩ := m_dup (d := d + 7) (p := p) (ag := ag) (y := y) ha a 0 (am_setL h1 363 a y) wn wp (by omega) (by omega) Y2 e31' (fun j hj => by rw [rL_k (by omega)]; exact hag' j hj) rL_eq
      have S3 := Y3.1
      have e313 : am_I h3 349 31 = nI a := by rw [F3.2.1 31 (by omega)]; exact e31'
      have Y4 := MX_fr349 (g := am_setI h3 349 31 (nI (a + 1))) (fr_I fr_refl rfl) (fun j hj => by rw [rI_k (by omega)]) Y3
      have S4 := Y4.1
      obtain ⟨h5, r5, Y5, F5⟩ := m_nx (d := d + 4) (v1 := none) Y4
      refine ⟨h5, MHF_trans (MHF_of F1) (MHF_trans MHF_L (MHF_trans (MHF_of F3) (MHF_trans (MHF_I (Or.inr rfl)) (MHF_of F5)))), Or.inr ⟨q, some (.int (nI a)), rfl, c.1, c.2, fun Q => ?_, ?_, ?_, fun i hi => ?_, ?_⟩⟩
      · have e1 : am_J (d + 8) 200 63 [some (.ref 349), some (.int p), v2] [] h Q ↔ am_J (d + 8) 200 123 [some (.ref 349), some (.int p), some (.int (nI 0))] [] (am_setL h1 363 a y) Q := by
          simp (disch := first | with_reducible assumption | omega | exact Or.inl rfl | exact Or.inr rfl | exact bI_01 | exact c_cat | exact vt_ref | exact vt_null | rfl | with_reducible repeat (first | assumption | omega | apply S_I | apply S_L | apply S_D | apply ob_I | apply ob_L | apply ob_D | apply ob_R | apply ax_I | apply ax_L | apply ax_D | apply ax_R | apply o303 | apply o307 | apply o302 | apply o301 | apply ax304 | apply ax305 | apply ax306 | apply ax308 | apply ax309 | apply ax310 | apply lt_S | apply ar305 | apply ar308 | apply ar309)) only [g200_63, g200_64, g200_67, g200_68, g200_69, g200_72, g200_75, g200_76, g200_79, g200_82, g200_83, g200_84, g200_85, g200_88, g200_89, g200_92, g200_93, g200_96, g200_97, g200_100, g200_101, g200_104, g200_107, g200_108, g200_109, g200_112, g200_113, g200_116, g200_117, g200_120, g200_121, g200_122, Option.toList, List.nil_append, List.cons_append, va_rf, nI_ltI, nI_leI, nI_eq, nI_add, nI_sub, nI_lt0, nI_e0, nI_m1, m1_nI, Nat.reduceEqDiff, Nat.reduceLT, Nat.reduceLeDiff, Nat.reduceAdd, Nat.reduceSub, Nat.reduceMul, ↓reduceIte, eq_self, r1 _, nm _, m_needT, f22, e31', show ¬ 3 ≤ a by omega, nt _, nh _]
        rw [e1, r3]
        simp (disch := first | with_reducible assumption | omega | exact Or.inl rfl | exact Or.inr rfl | exact bI_01 | exact c_cat | exact vt_ref | exact vt_null | rfl | with_reducible repeat (first | assumption | omega | apply S_I | apply S_L | apply S_D | apply ob_I | apply ob_L | apply ob_D | apply ob_R | apply ax_I | apply ax_L | apply ax_D | apply ax_R | apply o303 | apply o307 | apply o302 | apply o301 | apply ax304 | apply ax305 | apply ax306 | apply ax308 | apply ax309 | apply ax310 | apply lt_S | apply ar305 | apply ar308 | apply ar309)) only [g200_165, g200_166, g200_167, g200_170, g200_171, g200_172, g200_175, g200_176, Option.toList, List.nil_append, List.cons_append, va_rf, nI_ltI, nI_leI, nI_eq, nI_add, nI_sub, nI_lt0, nI_e0, nI_m1, m1_nI, Nat.reduceEqDiff, Nat.reduceLT, Nat.reduceLeDiff, Nat.reduceAdd, Nat.reduceSub, Nat.reduceMul, ↓reduceIte, eq_self, e313, r5 _]
      · rw [ey]; exact Y5
      · rw [F5.2.1 31 (by omega), rI_eq]
      · rw [fr_rdL F5.1 (by omega), hL_I, fr_rdL F3.1 (by omega), rL_k (by omega)]; exact hag' i hi
      · rw [fr_rdL F5.1 (by omega), hL_I, fr_rdL F3.1 (by omega), rL_eq, ey]
    · rw [decide_eq_false c] at nm
      obtain ⟨h2, r2, Y2, F2⟩ := m_needF (d := d + 6) Y1
      obtain ⟨S2, f1, f10, f1h, f1e⟩ := bm_S (BM_of Y2 (Nat.le_refl 0))
      refine ⟨h2, MHF_of (MF_trans F1 F2 (Nat.le_refl _)), Or.inl ⟨c, fun Q => ?_, Y2⟩⟩
      simp (disch := first | with_reducible assumption | omega | exact Or.inl rfl | exact Or.inr rfl | exact bI_01 | exact c_cat | exact vt_ref | exact vt_null | rfl | with_reducible repeat (first | assumption | omega | apply S_I | apply S_L | apply S_D | apply ob_I | apply ob_L | apply ob_D | apply ob_R | apply ax_I | apply ax_L | apply ax_D | apply ax_R | apply o303 | apply o307 | apply o302 | apply o301 | apply ax304 | apply ax305 | apply ax306 | apply ax308 | apply ax309 | apply ax310 | apply lt_S | apply ar305 | apply ar308 | apply ar309)) only [g200_63, g200_64, g200_67, g200_68, g200_69, g200_72, g200_75, g200_76, g200_79, g200_82, Option.toList, List.nil_append, List.cons_append, va_rf, nI_ltI, nI_leI, nI_eq, nI_add, nI_sub, nI_lt0, nI_e0, nI_m1, m1_nI, Nat.reduceEqDiff, Nat.reduceLT, Nat.reduceLeDiff, Nat.reduceAdd, Nat.reduceSub, Nat.reduceMul, ↓reduceIte, eq_self, nm _, r1 _, r2 _, f1e, f10]
end MF1

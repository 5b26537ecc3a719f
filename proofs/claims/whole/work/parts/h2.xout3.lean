/-! THE CLASS: workOut as a whole -/
section XOW
variable {h g g' : am_H} {o sa dp d e b n p : Nat} {rr : Option Nat} {ts : List (Nat × Nat × Nat)} {σ : SR} {v : VL} {nb x1 : Int32} {rd : List Nat} {D : List (Int32 × Int64)} {v1 v2 v3 : Option Value} {q : Nat ⊕ Nat}
theorem FLx_stop (L : FLx h g q) : FLx h (am_setI g 9 12 x1) q := by
  match q, L with
  | .inl k, ⟨k1, k2, k3, k4⟩ => exact ⟨by rw [rI_k (by decide)]; exact k1, k2, k3, k4⟩
  | .inr c, ⟨k1, k2, k, k3, k4, k5, k6⟩ => exact ⟨k1, k2, k, k3, k4, k5, by rw [rI_k (by decide)]; exact k6⟩
theorem x_leaveEnd (S : am_S g) (e : am_I g 9 10 = nI dp) (hd : dp < 1) {w : Option Value} : am_run d 34 [some (.ref 9), w] g none (am_setI g 9 12 (nI 0)) := fun Q => by
  simp (disch := first | with_reducible assumption | omega | exact Or.inl rfl | exact Or.inr rfl | exact bI_01 | exact c_cat | exact vt_ref | exact vt_null | rfl | with_reducible repeat (first | assumption | omega | apply S_I | apply S_L | apply S_D | apply ob_I | apply ob_L | apply ob_D | apply ob_R | apply ax_I | apply ax_L | apply ax_D | apply ax_R | apply o303 | apply o307 | apply o302 | apply o301 | apply ax304 | apply ax305 | apply ax306 | apply ax308 | apply ax309 | apply ax310 | apply lt_S | apply ar305 | apply ar308 | apply ar309)) only [g34_0, g34_1, g34_4, g34_5, g34_8, g34_9, g34_10, g34_13, Option.toList, List.nil_append, List.cons_append, va_rf, nI_ltI, nI_leI, nI_eq, nI_add, nI_sub, nI_lt0, nI_e0, nI_m1, m1_nI, Nat.reduceEqDiff, Nat.reduceLT, Nat.reduceLeDiff, Nat.reduceAdd, Nat.reduceSub, Nat.reduceMul, ↓reduceIte, eq_self, e, show ¬ 1 ≤ dp by omega]
theorem x_recStop (S : am_S g) (h1 : ts = [] ∨ q = .inl 8) (T : TS g ts) (L : FLx h g q) : am_run d 54 [some (.ref 9)] g none (am_setI g 9 12 (nI 0)) := fun Q => by
  rcases h1 with rfl | rfl
  · have t1 : am_I g 9 9 = nI 0 := T.1
    simp (disch := first | with_reducible assumption | omega | exact Or.inl rfl | exact Or.inr rfl | exact bI_01 | exact c_cat | exact vt_ref | exact vt_null | rfl | with_reducible repeat (first | assumption | omega | apply S_I | apply S_L | apply S_D | apply ob_I | apply ob_L | apply ob_D | apply ob_R | apply ax_I | apply ax_L | apply ax_D | apply ax_R | apply o303 | apply o307 | apply o302 | apply o301 | apply ax304 | apply ax305 | apply ax306 | apply ax308 | apply ax309 | apply ax310 | apply lt_S | apply ar305 | apply ar308 | apply ar309)) only [g54_0, g54_1, g54_4, g54_5, g54_8, g54_9, g54_12, g54_14, g54_17, g54_18, g54_21, g54_21r, g54_21n, g54_24, g54_25, g54_26, g54_29, Option.toList, List.nil_append, List.cons_append, va_rf, nI_ltI, nI_leI, nI_eq, nI_add, nI_sub, nI_lt0, nI_e0, nI_m1, m1_nI, Nat.reduceEqDiff, Nat.reduceLT, Nat.reduceLeDiff, Nat.reduceAdd, Nat.reduceSub, Nat.reduceMul, ↓reduceIte, eq_self, t1]
  · obtain ⟨k1, k2, k3, k4⟩ := L
    by_cases c : am_I g 9 9 < nI 1
    · simp (disch := first | with_reducible assumption | omega | exact Or.inl rfl | exact Or.inr rfl | exact bI_01 | exact c_cat | exact vt_ref | exact vt_null | rfl | with_reducible repeat (first | assumption | omega | apply S_I | apply S_L | apply S_D | apply ob_I | apply ob_L | apply ob_D | apply ob_R | apply ax_I | apply ax_L | apply ax_D | apply ax_R | apply o303 | apply o307 | apply o302 | apply o301 | apply ax304 | apply ax305 | apply ax306 | apply ax308 | apply ax309 | apply ax310 | apply lt_S | apply ar305 | apply ar308 | apply ar309)) only [g54_0, g54_1, g54_4, g54_5, g54_8, g54_9, g54_12, g54_14, g54_17, g54_18, g54_21, g54_21r, g54_21n, g54_24, g54_25, g54_26, g54_29, Option.toList, List.nil_append, List.cons_append, va_rf, nI_ltI, nI_leI, nI_eq, nI_add, nI_sub, nI_lt0, nI_e0, nI_m1, m1_nI, Nat.reduceEqDiff, Nat.reduceLT, Nat.reduceLeDiff, Nat.reduceAdd, Nat.reduceSub, Nat.reduceMul, ↓reduceIte, eq_self, c]
    · simp (disch := first | with_reducible assumption | omega | exact Or.inl rfl | exact Or.inr rfl | exact bI_01 | exact c_cat | exact vt_ref | exact vt_null | rfl | with_reducible repeat (first | assumption | omega | apply S_I | apply S_L | apply S_D | apply ob_I | apply ob_L | apply ob_D | apply ob_R | apply ax_I | apply ax_L | apply ax_D | apply ax_R | apply o303 | apply o307 | apply o302 | apply o301 | apply ax304 | apply ax305 | apply ax306 | apply ax308 | apply ax309 | apply ax310 | apply lt_S | apply ar305 | apply ar308 | apply ar309)) only [g54_0, g54_1, g54_4, g54_5, g54_8, g54_9, g54_12, g54_14, g54_17, g54_18, g54_21, g54_21r, g54_21n, g54_24, g54_25, g54_26, g54_29, Option.toList, List.nil_append, List.cons_append, va_rf, nI_ltI, nI_leI, nI_eq, nI_add, nI_sub, nI_lt0, nI_e0, nI_m1, m1_nI, Nat.reduceEqDiff, Nat.reduceLT, Nat.reduceLeDiff, Nat.reduceAdd, Nat.reduceSub, Nat.reduceMul, ↓reduceIte, eq_self, c, k1, k4]
/-- the turn behind the last order -/
theorem x_last (A : XS h g o rr sa dp ts σ) (hd : dp < 1) (C : cdK g e D) (F : FRx g dp e D.length b) (Z : KZ g) (hn : n < 900000) {v5 v6 : Option Value} : ∃ w5 w6, ∀ Q, am_J (d + 2) 32 9 (LL v1 v2 v3 n v5 v6) [] g Q ↔ am_J (d + 2) 32 138 (LL v1 v2 v3 (n + 1) w5 w6) [] (am_setI g 9 12 (nI 0)) Q := by
  refine ⟨some (.ref (278 + dp)), v6, fun Q => ?_⟩
  have S := A.2.1
  obtain ⟨-, -, -, a4, -, -, a7, -⟩ := A
  obtain ⟨c1, c2, t0, t2, t3, r0, r1, i5, vv, b1⟩ := C
  obtain ⟨f1, f2, f3⟩ := F
  have O := o278 S (show dp < 22 by omega)
  have Oe : am_ob g e 1 := ⟨by omega, by rw [t0]⟩
  have h4 : 4 ≤ 278 + dp := by omega
  have lv := x_leaveEnd (d := d + 1) (w := some (.ref (278 + dp))) S a4 hd
  have S2 : am_S (am_setI g 9 12 (nI 0)) := S
  have nt := fun Q => x_nextTurn (d := d + 1) (v1 := v1) (v2 := v2) (v3 := v3) (n := n) (v5 := some (.ref (278 + dp))) (v6 := v6) (Q := Q) S2 (show am_I (am_setI g 9 12 (nI 0)) 9 13 = nI 0 by rw [rI_k (by decide)]; exact Z.1)
  have st : am_J (d + 2) 32 9 (LL v1 v2 v3 n v5 v6) [] g Q ↔ am_J (d + 2) 32 121 (LL v1 v2 v3 n (some (.ref (278 + dp))) v6) [] (am_setI g 9 12 (nI 0)) Q := by
    rw [g32_9]
    simp (disch := first | with_reducible assumption | omega | exact Or.inl rfl | exact Or.inr rfl | exact bI_01 | exact c_cat | exact vt_ref | exact vt_null | rfl | with_reducible repeat (first | assumption | omega | apply S_I | apply S_L | apply S_D | apply ob_I | apply ob_L | apply ob_D | apply ob_R | apply ax_I | apply ax_L | apply ax_D | apply ax_R | apply o303 | apply o307 | apply o302 | apply o301 | apply ax304 | apply ax305 | apply ax306 | apply ax308 | apply ax309 | apply ax310 | apply lt_S | apply ar305 | apply ar308 | apply ar309)) only [g32_11, g32_13, g32_16, g32_17, g32_20, g32_23, g32_24, g32_27, g32_28, g32_31, g32_32, g32_34, g32_36, g32_39, g32_39r, g32_39n, g32_42, g32_44, g32_47, g32_50, g32_52, g32_55, g32_57, g32_60, g32_63, g32_66, g32_67, g32_69, g32_72, Option.toList, List.nil_append, List.cons_append, va_rf, nI_ltI, nI_leI, nI_eq, nI_add, nI_sub, nI_lt0, nI_e0, nI_m1, m1_nI, Nat.reduceEqDiff, Nat.reduceLT, Nat.reduceLeDiff, Nat.reduceAdd, Nat.reduceSub, Nat.reduceMul, ↓reduceIte, eq_self, show ¬ 1000000 ≤ n by omega, a7, a4, f1, f2, i5, show ¬ D.length < D.length from Nat.lt_irrefl _, lv _]
  rw [st, nt Q, g32_9]
  simp (disch := first | with_reducible assumption | omega | exact Or.inl rfl | exact Or.inr rfl | exact bI_01 | exact c_cat | exact vt_ref | exact vt_null | rfl | with_reducible repeat (first | assumption | omega | apply S_I | apply S_L | apply S_D | apply ob_I | apply ob_L | apply ob_D | apply ob_R | apply ax_I | apply ax_L | apply ax_D | apply ax_R | apply o303 | apply o307 | apply o302 | apply o301 | apply ax304 | apply ax305 | apply ax306 | apply ax308 | apply ax309 | apply ax310 | apply lt_S | apply ar305 | apply ar308 | apply ar309)) only [g32_11, g32_13, g32_16, g32_17, g32_20, Option.toList, List.nil_append, List.cons_append, va_rf, nI_ltI, nI_leI, nI_eq, nI_add, nI_sub, nI_lt0, nI_e0, nI_m1, m1_nI, Nat.reduceEqDiff, Nat.reduceLT, Nat.reduceLeDiff, Nat.reduceAdd, Nat.reduceSub, Nat.reduceMul, ↓reduceIte, eq_self, show ¬ 1000000 ≤ n + 1 by omega, rI_eq]
/-- a failure that no try takes -/
theorem x_lastF (S : am_S g) (h1 : ts = [] ∨ q = .inl 8) (T : TS g ts) (L : FLx h g q) (hn : n < 900000) {v5 v6 : Option Value} : ∀ Q, am_J (d + 2) 32 121 (LL v1 v2 v3 n v5 v6) [] g Q ↔ am_J (d + 2) 32 138 (LL v1 v2 v3 (n + 1) v5 v6) [] (am_setI g 9 12 (nI 0)) Q := fun Q => by
  have rs := x_recStop (d := d + 1) S h1 T L
  have S2 : am_S (am_setI g 9 12 (nI 0)) := S
  obtain ⟨k, k1, k2, k3⟩ : ∃ k, am_I g 9 13 = nI k ∧ 0 < k ∧ k < 12 := by
    match q, L with
    | .inl k, ⟨k1, k2, k3, k4⟩ => exact ⟨k, k1, k2, k3⟩
    | .inr c, ⟨k1, k2, k, k3, k4, k5, k6⟩ => exact ⟨k, k6, by omega, by omega⟩
  have st : am_J (d + 2) 32 121 (LL v1 v2 v3 n v5 v6) [] g Q ↔ am_J (d + 2) 32 9 (LL v1 v2 v3 (n + 1) v5 v6) [] (am_setI g 9 12 (nI 0)) Q := by
    simp (disch := first | with_reducible assumption | omega | exact Or.inl rfl | exact Or.inr rfl | exact bI_01 | exact c_cat | exact vt_ref | exact vt_null | rfl | with_reducible repeat (first | assumption | omega | apply S_I | apply S_L | apply S_D | apply ob_I | apply ob_L | apply ob_D | apply ob_R | apply ax_I | apply ax_L | apply ax_D | apply ax_R | apply o303 | apply o307 | apply o302 | apply o301 | apply ax304 | apply ax305 | apply ax306 | apply ax308 | apply ax309 | apply ax310 | apply lt_S | apply ar305 | apply ar308 | apply ar309)) only [g32_121, g32_122, g32_125, g32_128, g32_129, g32_132, g32_135, Option.toList, List.nil_append, List.cons_append, va_rf, nI_ltI, nI_leI, nI_eq, nI_add, nI_sub, nI_lt0, nI_e0, nI_m1, m1_nI, Nat.reduceEqDiff, Nat.reduceLT, Nat.reduceLeDiff, Nat.reduceAdd, Nat.reduceSub, Nat.reduceMul, ↓reduceIte, eq_self, k1, show ¬ k = 0 by omega, rs _]
  rw [st, g32_9]
  simp (disch := first | with_reducible assumption | omega | exact Or.inl rfl | exact Or.inr rfl | exact bI_01 | exact c_cat | exact vt_ref | exact vt_null | rfl | with_reducible repeat (first | assumption | omega | apply S_I | apply S_L | apply S_D | apply ob_I | apply ob_L | apply ob_D | apply ob_R | apply ax_I | apply ax_L | apply ax_D | apply ax_R | apply o303 | apply o307 | apply o302 | apply o301 | apply ax304 | apply ax305 | apply ax306 | apply ax308 | apply ax309 | apply ax310 | apply lt_S | apply ar305 | apply ar308 | apply ar309)) only [g32_11, g32_13, g32_16, g32_17, g32_20, Option.toList, List.nil_append, List.cons_append, va_rf, nI_ltI, nI_leI, nI_eq, nI_add, nI_sub, nI_lt0, nI_e0, nI_m1, m1_nI, Nat.reduceEqDiff, Nat.reduceLT, Nat.reduceLeDiff, Nat.reduceAdd, Nat.reduceSub, Nat.reduceMul, ↓reduceIte, eq_self, show ¬ 1000000 ≤ n + 1 by omega, rI_eq]
theorem x_workOut {s nn kn M z sh nc : Nat} {tt : Nat → ntT} {rt : Nat → Nat} {cv : Nat → Option (Option VL)} {cs : Nat → Nat → VL} {pN pF : Nat → List Nat} {P : Nat → Prop} {E L : List Nat} {G : List (Nat × Nat)}
    (h4 : 402 ≤ h.1) (S : am_S h) (ho : o < 278 ∨ 299 < o) (h22 : 22 ≤ o) (h349 : o < 349) (O : am_ob h o 0) (ec : am_R h o 3 = some e) (er : am_R h o 8 = rr) (hrr : ∀ a, rr = some a → 402 ≤ a ∧ a < h.1 ∧ am_tg h a = (100, 24)) (hre : ∀ a, rr = some a → a < e ∨ e + 7 ≤ a) (C : cdK h e D) (C0 : cvX h cv P) (F : FC h tt rt rr pF) (hR : Rp false kn (tt s) M pN pF z nn D E L G) (hM : M ≤ 40) (hz : z ≤ 450) (hs : ¬ (48 ≤ s ∧ s < 56))
    (hK : sh < 4 ∧ sa = 321 + 7 * sh ∧ nc ≤ 5 ∧ am_I h (321 + 7 * sh) 1 = nI nc ∧ ∀ k, k < kn % 1000 → k < nc ∧ csX h sh k (cs sh k)) (hL : ∀ c, c ∈ L → P c) :
    ∃ g', am_run (d + 6) 32 [some (.ref 9), some (.ref o), some (.int nb), some (.ref sa), none, none, none] h none g' ∧ WO h g' o rr nb (ev tt rt cv cs 1001 s [] sh 0 nn (1000, [])) := by
  obtain ⟨A, Z, N, FR, -⟩ := XS_bg (sa := sa) (e := e) S ho h22 h349 O er hrr
  have W := c_work (d := d) (v1 := some (.ref o)) (v2 := some (.int nb)) (v3 := some (.ref sa)) h4 ho (show o < 402 by omega) (fun a q => (hrr a q).1) C0 F 1001 z false kn s M pN nn D E L G [] sh 0 e 0 nc hR hM hz (by decide) ⟨fun q => (by cases q), fun q => absurd q hs⟩ (fun q => by cases q) (fun _ => hK) hL hre
  have CPr := W D 0 (bgH h o sa e) (1000, []) [] [] 0 6000 C (fun i x hx => by rw [Nat.zero_add]; exact hx) (by decide) A Z N FR (fun i v hv => by cases hv) (by decide) (Nat.zero_le _) (by decide) (by decide)
  have wb := x_wbegin (d := d + 5) (sa := sa) S ho h22 O ec
  generalize ev tt rt cv cs 1001 s [] sh 0 nn (1000, []) = r at CPr ⊢
  have S0 := A.2.1
  have go : ∀ Q, am_J (d + 6) 32 0 [some (.ref 9), some (.ref o), some (.int nb), some (.ref sa), none, none, none] [] h Q ↔ am_J (d + 6) 32 9 (LL (some (.ref o)) (some (.int nb)) (some (.ref sa)) 0 none none) [] (bgH h o sa e) Q := fun Q => by
    simp (disch := first | with_reducible assumption | omega | exact Or.inl rfl | exact Or.inr rfl | exact bI_01 | exact c_cat | exact vt_ref | exact vt_null | rfl | with_reducible repeat (first | assumption | omega | apply S_I | apply S_L | apply S_D | apply ob_I | apply ob_L | apply ob_D | apply ob_R | apply ax_I | apply ax_L | apply ax_D | apply ax_R | apply o303 | apply o307 | apply o302 | apply o301 | apply ax304 | apply ax305 | apply ax306 | apply ax308 | apply ax309 | apply ax310 | apply lt_S | apply ar305 | apply ar308 | apply ar309)) only [g32_0, g32_1, g32_2, g32_3, g32_6, g32_7, Option.toList, List.nil_append, List.cons_append, va_rf, wb _]
  have en : ∀ (n : Nat) (w5 w6 : Option Value) (g1 g2 : am_H), am_S g1 → am_run (d + 5) 55 [some (.ref 9), some (.int nb)] g1 none g2 → ∀ Q, am_J (d + 6) 32 138 (LL (some (.ref o)) (some (.int nb)) (some (.ref sa)) n w5 w6) [] g1 Q ↔ Q none g2 := fun n w5 w6 g1 g2 S1 R Q => by
    simp (disch := first | with_reducible assumption | omega | exact Or.inl rfl | exact Or.inr rfl | exact bI_01 | exact c_cat | exact vt_ref | exact vt_null | rfl | with_reducible repeat (first | assumption | omega | apply S_I | apply S_L | apply S_D | apply ob_I | apply ob_L | apply ob_D | apply ob_R | apply ax_I | apply ax_L | apply ax_D | apply ax_R | apply o303 | apply o307 | apply o302 | apply o301 | apply ax304 | apply ax305 | apply ax306 | apply ax308 | apply ax309 | apply ax310 | apply lt_S | apply ar305 | apply ar308 | apply ar309)) only [g32_138, g32_139, g32_140, g32_143, Option.toList, List.nil_append, List.cons_append, va_rf, R _]
  match r, CPr with
  | (.inl v, σ'), ⟨g1, n1, G1, A1, Z1, N1, kv, K1, at1, hT1⟩ =>
    obtain ⟨w5, w6, G1⟩ := G1 none none
    have C1 := cd_kp A1.1 (show o < 402 by omega) hre C
    have F1 := FK_F K1 at1 FR
    rw [Nat.zero_add] at F1
    obtain ⟨y5, y6, L1⟩ := x_last (d := d + 4) (n := n1) (v1 := some (.ref o)) (v2 := some (.int nb)) (v3 := some (.ref sa)) (v5 := w5) (v6 := w6) A1 (by decide) C1 F1 Z1 (by omega)
    have X1 := XE_stop (x1 := nI 0) (XE_of A1)
    have Z2 : KZ (am_setI g1 9 12 (nI 0)) := ⟨by rw [rI_k (by decide)]; exact Z1.1, Z1.2⟩
    have N2 : NS (am_setI g1 9 12 (nI 0)) [v] := NS_fr (P := fun a => a = 9) (fr_I fr_refl rfl) (by decide) (by decide) (by decide) (by decide) N1
    obtain ⟨g', r1, O1⟩ := x_settleV (d := d + 2) (e := σ'.1) (nb := nb) X1 Z2 N2 kv
    exact ⟨g', fun Q => by rw [go Q, G1 Q, L1 Q]; exact en _ _ _ _ _ X1.2.1 r1 Q, O1⟩
  | (.inr q, σ'), ⟨g1, n1, dp1, ts1, B1, A1, hq, hn, L1, K1, hT1⟩ =>
    obtain ⟨w5, w6, B1⟩ := B1 none none
    have X1 := XE_stop (x1 := nI 0) (XE_of A1)
    have TT := A1.2.2.1
    have hq' : ts1 = [] ∨ q = .inl 8 := by
      rcases hq with q8 | q8
      · exact Or.inr q8
      · exact Or.inl q8
    have LF := x_lastF (d := d + 4) (n := n1) (v1 := some (.ref o)) (v2 := some (.int nb)) (v3 := some (.ref sa)) (v5 := w5) (v6 := w6) A1.2.1 hq' TT L1 (by omega)
    obtain ⟨g', r1, O1⟩ := x_settleF (d := d + 3) (e := σ'.1) (nb := nb) h4 X1 (FLx_stop L1)
    exact ⟨g', fun Q => by rw [go Q, B1 Q, LF Q]; exact en _ _ _ _ _ X1.2.1 r1 Q, O1⟩
end XOW

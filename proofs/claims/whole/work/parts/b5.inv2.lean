/-! THE INVARIANT behind reading -/
def Prd (a k : Nat) : Prop := rX a ∨ a = 5 ∨ (a = 4 ∧ k = 13) ∨ pmt a k
section IV2
variable {P : Nat → Nat → Prop} {d q c s m : Nat} {h g : am_H} {Q : Option Value → am_H → Prop} {nf : Nat} {fe : Nat → Nat} {fX fM : Nat → Int64} {fA : Nat → Nat} {nc : Nat → Nat} {ce : Nat → Nat → Nat} {cX cM : Nat → Nat → Int64} {cd : Nat → Option (Nat × Nat)} {lab lab' : Nat → Option Nat}
theorem Inv_read (I : Inv q h) (K : kp Prd h g) (S : am_S g) (G : am_Gv g) (M : iM q g) (t0 : am_I g 5 1 = nI 0) (t1 : am_I g 349 2 = nI 0) (F : iF g) : Inv q g := by
  obtain ⟨a1, a2, a3, a4, a5, a6, a7⟩ := Inv_iff.mp I
  have h4 := a1.1
  refine Inv_iff.mpr ⟨S, G, ⟨fun _ => 0, 0, ⟨t0, by decide, fun j hj => absurd hj (Nat.not_lt_zero _)⟩, t1, fun j hj => absurd hj (Nat.not_lt_zero _)⟩, iO_kp K h4 (fun a k hf => by unfold Prd rX pmt; omega) a4, F, M, iK_kp K h4 (fun a k hf => ?_) a7⟩
  unfold ffK ffG at hf
  unfold Prd rX pmt
  omega
theorem agM2_kp (S : am_S h) (K : kp P h g) (hP : ∀ a k, 349 ≤ a → a ≤ 401 → ¬ P a k) (Sg : am_S g) (Gg : am_Gv g) {x y : Int32} : agM2 h (am_setI (am_setI g 349 28 x) 349 29 y) := by
  have F0 : am_fr (fun a => a = 349) g (am_setI (am_setI g 349 28 x) 349 29 y) := fr_I (fr_I fr_refl rfl) rfl
  refine ⟨fr_S F0 Sg, Gv_fr F0 (by omega) (by omega) (by omega) Gg, fun a k h1 h2 h3 => ?_⟩
  have q1 := K.2.2 a k (by have := S.1; omega) (hP a k h1 h2)
  refine ⟨?_, fun e => (fr_rdL F0 e).trans (q1.2.1 e)⟩
  by_cases e : a = 349
  · subst e
    rw [rI_k (h3 rfl).2, rI_k (h3 rfl).1]; exact q1.1
  · exact (fr_rdI F0 e).trans q1.1
theorem iN_lab (hl : ∀ a, a < h.1 → lab' a = lab a) (I : iN h nf fe fX fM fA lab) : iN h nf fe fX fM fA lab' := by
  obtain ⟨a1, a2, a3, a4, a5, a6⟩ := I
  refine ⟨a1, a2, a3, a4, a5, fun i hi => ?_⟩
  obtain ⟨b1, b2, b3, b4, b5, b6, b7, b8, b9, b10, b11, pN, L, G, b12⟩ := a6 i hi
  have c0 := b12
  obtain ⟨D, E, k, m, r, -, -, -, -, -, q6, -, -⟩ := c0
  have q2 := q6.2.1
  exact ⟨b1, b2, b3, b4, b5, b6, b7, b8, b9, b10, fun j hj => by rw [hl _ (by omega)]; exact b11 j hj, pN, L, G, b12⟩
theorem iC_lab (hl : ∀ a, a < h.1 → lab' a = lab a) (I : iC h s nf fM fA nc ce cX cM lab) : iC h s nf fM fA nc ce cX cM lab' := by
  obtain ⟨a1, a2, a3, a4, a5, a6, a7, a8, a9, a10⟩ := I
  refine ⟨a1, a2, a3, a4, a5, a6, a7, a8, a9, fun i hi => ?_⟩
  obtain ⟨b1, b2, b3, b4, b5, ⟨G, b6⟩, b7⟩ := a10 i hi
  have c0 := b6
  obtain ⟨D, E, k, m, r, -, -, -, -, -, q6, -, -⟩ := c0
  have q2 := q6.2.1
  exact ⟨b1, b2, b3, b4, fun j hj => by rw [hl _ (by omega)]; exact b5 j hj, ⟨G, b6⟩, b7⟩
theorem iE_lab (hl : ∀ a, a < h.1 → lab' a = lab a) (I : iE h c nf fM fA nc cM cd lab) : iE h c nf fM fA nc cM cd lab' := by
  obtain ⟨st, a1, a2, a3, a4, a5, a6, a10, a11, a12, a13⟩ := I
  refine ⟨st, a1, a2, a3, a4, a5, a6, fun rr hr => ?_, a11, a12, fun e s he => ?_⟩
  · obtain ⟨z1, z2, z3, z4⟩ := a10 rr hr
    exact ⟨z1, z2, z3, by rw [hl _ z2]; exact z4⟩
  · obtain ⟨b1, b2, b3, b4, b5, b6, b7, b8, L, G, b9⟩ := a13 e s he
    have c0 := b9
    obtain ⟨D, E, k', m, r, -, -, -, -, -, q6, -, -⟩ := c0
    have q2 := q6.2.1
    exact ⟨b1, b2, b3, b4, b5, b6, b7, fun j hj => by rw [hl _ (by omega)]; exact b8 j hj, L, G, b9⟩
theorem m_fkeep {k : Nat} {v2 : Option Value} (S : am_S h) (hc : c < 256) (e369 : am_I h 369 c = nI s) (hs : s < 48) (e27 : am_I h 349 27 = nI m) (hm : m ≤ 48) (e25 : am_I h 349 25 = nI k) : ∃ g, MC h g s m ∧ ∀ Q, am_J (d + 1) 191 110 [some (.ref 349), some (.int (nI c)), v2] [] h Q ↔ Q (some (.int (nI k))) (am_setI (am_setI (am_setI (am_setI g 365 c (nI 6)) 373 c (nI 0)) 375 c (nI 1)) 376 c (nI 1)) := by
  obtain ⟨g, r1, C⟩ := m_copyTo (d := d) S e27 hm (show s < 76 by omega)
  have Sg := fr_S C.1 S
  have e25' : am_I g 349 25 = nI k := (fr_rdI C.1 (by omega)).trans e25
  refine ⟨g, C, fun Q => ?_⟩
  simp (disch := first | with_reducible assumption | omega | exact Or.inl rfl | exact Or.inr rfl | exact bI_01 | exact c_cat | exact vt_ref | exact vt_null | rfl | with_reducible repeat (first | assumption | omega | apply S_I | apply S_L | apply S_D | apply ob_I | apply ob_L | apply ob_D | apply ob_R | apply ax_I | apply ax_L | apply ax_D | apply ax_R | apply o303 | apply o307 | apply o302 | apply o301 | apply ax304 | apply ax305 | apply ax306 | apply ax308 | apply ax309 | apply ax310 | apply lt_S | apply ar305 | apply ar308 | apply ar309)) only [g191_110, g191_111, g191_112, g191_115, g191_116, g191_117, g191_120, g191_121, g191_124, g191_125, g191_127, g191_128, g191_129, g191_132, g191_133, g191_134, g191_135, g191_136, g191_139, g191_140, g191_141, g191_142, g191_143, g191_146, g191_147, g191_148, g191_149, g191_150, g191_153, Option.toList, List.nil_append, List.cons_append, va_rf, nI_ltI, nI_leI, nI_eq, nI_add, nI_sub, nI_lt0, nI_e0, nI_m1, m1_nI, Nat.reduceEqDiff, Nat.reduceLT, Nat.reduceLeDiff, Nat.reduceAdd, Nat.reduceSub, Nat.reduceMul, ↓reduceIte, eq_self, hI_I, hI_L, hI_D, hI_R, hL_I, hL_L, hL_D, hL_R, hD_I, hD_L, hD_D, hD_R, hR_I, hR_L, hR_D, ↓reduceIte, Nat.reduceEqDiff, e369, r1 _, e25']
end IV2

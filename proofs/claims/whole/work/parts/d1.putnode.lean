/-! THE MODEL: putNode -/
def okB (l : List Nat) : Prop := ∀ c, c ∈ l → 1 ≤ c ∧ c < 128
theorem okB_app {a b : List Nat} (ha : okB a) (hb : okB b) : okB (a ++ b) := fun c hc => (List.mem_append.mp hc).elim (ha c) (hb c)
theorem okB_lt : ∀ f v, okB (ltN 32 96 f v)
  | 0, _ => fun c hc => by cases hc
  | f + 1, v => by
    show okB (if v = 0 then [] else ltN 32 96 f (v / 32) ++ [v % 32 + 96])
    split
    · exact fun c hc => by cases hc
    · exact okB_app (okB_lt f (v / 32)) (fun c hc => by rw [List.mem_singleton.mp hc]; omega)
theorem okB_cl {c : Nat} (hc : c < 256) : okB (clN c) := by
  intro x hx
  simp only [clN, List.mem_cons, List.not_mem_nil, or_false] at hx
  omega
theorem okB_sg {s : Nat} (hs : s ∈ [43, 45, 42, 47, 37, 60, 76, 61, 78]) : okB (sgN s) := by
  have : ∀ s, s ∈ [43, 45, 42, 47, 37, 60, 76, 61, 78] → ∀ c, c ∈ sgN s → 1 ≤ c ∧ c < 128 := by decide
  exact this s hs
theorem okB_wd {w : Nat} (hw : w < 12) : okB (wdN w) := by
  have : ∀ w, w < 12 → ∀ c, c ∈ wdN w → 1 ≤ c ∧ c < 128 := by decide +kernel
  exact this w hw
theorem okB_dg (v b : Nat) : ∀ n, okB (dgo v b n)
  | 0 => fun c hc => by cases hc
  | n + 1 => by
    show okB ((if n + 1 = b then [46] else []) ++ (48 + v / 10 ^ n % 10) :: dgo v b n)
    refine okB_app ?_ (fun c hc => ?_)
    · split
      · exact fun c hc => by rw [List.mem_singleton.mp hc]; decide
      · exact fun c hc => by cases hc
    · rcases List.mem_cons.mp hc with rfl | hc
      · omega
      · exact okB_dg v b n c hc
/-- from p on OUT has l, all of it signs -/
def OB (h g : am_H) (p : Nat) (l : List Nat) : Prop := OW h g p l ∧ okB l
section OUP
variable {d s cs p c : Nat} {h g g' : am_H} {l l' : List Nat}
theorem OB_trans (A : OB h g p l) (B : OB g g' (p + l.length) l') : OB h g' p (l ++ l') := ⟨OW_trans A.1 B.1, okB_app A.2 B.2⟩
theorem OB_cast (A : OB h g p l) (e : l = l') : OB h g p l' := e ▸ A
theorem OB_e (A : OB h g p l) : am_I g 349 3 = nI (p + l.length) := A.1.2.2.1
abbrev pF2 : Nat → Prop := fun a => a = 349 ∨ a = 351
theorem OB_f (A : OB h g p l) : am_fr pF2 h g := A.1.1
theorem b_put (S : am_S h) (e : am_I h 349 3 = nI p) (hp : p < 2000) (hc : 1 ≤ c ∧ c < 128) : ∃ g, am_run d 178 [some (.ref 349), some (.int (nI c))] h none g ∧ OB h g p [c] := by
  obtain ⟨g, r, W⟩ := m_put1 (d := d) (c := c) S e hp
  exact ⟨g, r, W, fun x hx => by rw [List.mem_singleton.mp hx]; exact hc⟩
/-- node x is printed as E -/
def Pt (d s cs : Nat) (h : am_H) (x : Int32) (E : List Nat) : Prop := ∀ g p, am_fr pF2 h g → am_I g 349 3 = nI p → p + E.length ≤ 1990 → ∃ g', am_run d 176 [some (.ref 349), some (.int (nI s)), some (.int (nI cs)), some (.int x), none] g none g' ∧ OB g g' p E
theorem nd_at {T : ntT} {n : Nat} {k a b c : Int32} {w : Int64} (hT : T = tb h (48 * s)) (F : am_fr pF2 h g) (ht : T n = (k, a, b, c, w)) : am_I g 352 (48 * s + n) = k ∧ am_I g 353 (48 * s + n) = a ∧ am_I g 354 (48 * s + n) = b ∧ am_I g 355 (48 * s + n) = c ∧ am_L g 357 (48 * s + n) = w := by
  rw [hT] at ht
  unfold tb at ht
  simp only [Prod.mk.injEq] at ht
  obtain ⟨t1, t2, t3, t4, t5⟩ := ht
  exact ⟨(fr_rdI F (by decide)).trans t1, (fr_rdI F (by decide)).trans t2, (fr_rdI F (by decide)).trans t3, (fr_rdI F (by decide)).trans t4, (fr_rdL F (by decide)).trans t5⟩
theorem Pt_rows {T : ntT} {M n a b : Nat} (S : am_S h) (hs : s < 77) (hM : M ≤ 48) (hT : T = tb h (48 * s)) (R : rows_ T M n a b) : Pt (d + 2) s cs h (nI n) (clN a ++ 58 :: clN b) := by
  intro g p F e hp
  obtain ⟨hn, ht, ha, hb, -⟩ := R
  obtain ⟨u1, u2, u3, u4, u5⟩ := nd_at hT F ht
  have Sg := fr_S F S
  simp only [List.length_append, List.length_cons, List.length_nil, clN] at hp
  obtain ⟨g1, r1, W1⟩ := m_putCell (d := d) (c := a) Sg e (by omega) ha
  have S1 := fr_S W1.1 Sg
  obtain ⟨g2, r2, W2⟩ := b_put (d := d + 1) (c := 58) S1 W1.2.2.1 (by simp only [clN, List.length_cons, List.length_nil]; omega) (by decide)
  have S2 := fr_S W2.1.1 S1
  obtain ⟨g3, r3, W3⟩ := m_putCell (d := d) (c := b) S2 (OB_e W2) (by simp only [clN, List.length_cons, List.length_nil]; omega) hb
  have v3 : am_I g2 354 (48 * s + n) = nI b := (fr_rdI W2.1.1 (by decide)).trans ((fr_rdI W1.1 (by decide)).trans u3)
  refine ⟨g3, fun Q => ?_, OB_cast (OB_trans ⟨W1, okB_cl ha⟩ (OB_trans W2 ⟨W3, okB_cl hb⟩)) (by simp only [List.cons_append, List.nil_append])⟩
  rw [g176_0]
  simp (disch := first | with_reducible assumption | omega | exact Or.inl rfl | exact Or.inr rfl | exact bI_01 | exact c_cat | exact vt_ref | exact vt_null | rfl | with_reducible repeat (first | assumption | omega | apply S_I | apply S_L | apply S_D | apply ob_I | apply ob_L | apply ob_D | apply ob_R | apply ax_I | apply ax_L | apply ax_D | apply ax_R | apply o303 | apply o307 | apply o302 | apply o301 | apply ax304 | apply ax305 | apply ax306 | apply ax308 | apply ax309 | apply ax310 | apply lt_S | apply ar305 | apply ar308 | apply ar309)) only [g176_1, g176_2, g176_5, g176_6, g176_8, g176_9, g176_10, g176_11, g176_12, g176_14, g176_15, g176_18, g176_20, g176_76, g176_77, g176_78, g176_81, g176_83, g176_84, g176_85, g176_88, g176_90, g176_91, g176_94, g176_97, g176_98, g176_99, g176_102, g176_104, g176_105, g176_108, g176_111, g176_112, g176_113, g176_116, g176_117, g176_118, g176_119, g176_120, g176_123, g176_125, g176_126, g176_127, g176_128, g176_131, g176_134, g176_135, g176_137, g176_140, g176_141, g176_143, g176_146, g176_147, g176_148, g176_149, g176_150, g176_153, g176_155, g176_156, g176_159, g176_160, g176_162, g176_165, g176_168, g176_169, g176_171, g176_174, g176_175, g176_176, g176_177, g176_178, g176_181, g176_183, g176_184, g176_187, g176_188, g176_189, g176_192, g176_194, g176_195, g176_198, g176_199, g176_200, g176_201, g176_202, g176_205, g176_207, g176_208, g176_211, g176_212, g176_214, g176_217, g176_220, g176_221, g176_222, g176_225, g176_227, g176_228, g176_231, g176_232, g176_234, g176_237, g176_238, g176_239, g176_242, g176_244, g176_245, g176_248, g176_251, g176_252, g176_253, g176_254, g176_256, g176_259, g176_21_10, Option.toList, List.nil_append, List.cons_append, va_rf, nI_ltI, nI_leI, nI_eq, nI_add, nI_sub, nI_lt0, nI_e0, nI_m1, m1_nI, Nat.reduceEqDiff, Nat.reduceLT, Nat.reduceLeDiff, Nat.reduceAdd, Nat.reduceSub, Nat.reduceMul, ↓reduceIte, eq_self, nI_mul, u1, u2, v3, r1 _, r2 _, r3 _]
theorem Pt_none : Pt d s cs h (-1) [] := by
  intro g p F e hp
  refine ⟨g, fun Q => ?_, OW_nil e, fun c hc => by cases hc⟩
  rw [g176_0]
  simp (disch := first | with_reducible assumption | omega | exact Or.inl rfl | exact Or.inr rfl | exact bI_01 | exact c_cat | exact vt_ref | exact vt_null | rfl | with_reducible repeat (first | assumption | omega | apply S_I | apply S_L | apply S_D | apply ob_I | apply ob_L | apply ob_D | apply ob_R | apply ax_I | apply ax_L | apply ax_D | apply ax_R | apply o303 | apply o307 | apply o302 | apply o301 | apply ax304 | apply ax305 | apply ax306 | apply ax308 | apply ax309 | apply ax310 | apply lt_S | apply ar305 | apply ar308 | apply ar309)) only [g176_1, g176_2, g176_5, eq_self, ↓reduceIte]
/-- one more argument, or none -/
def Pc (d s cs : Nat) (h : am_H) (x : Int32) (E : List Nat) : Prop := (x = -1 ∧ E = []) ∨ ∃ j E', j < 48 ∧ x = nI j ∧ E = 44 :: E' ∧ Pt d s cs h x E'
section CLL
variable {x : Nat} {xa xb xc : Int32} {Ea Eb Ec : List Nat}
theorem m_argB (S : am_S h) (hx : x < 3696) (e : am_I h 354 x = xb) (B : Pc d s cs h xb Eb) (F : am_fr pF2 h g) (ep : am_I g 349 3 = nI p) (hp : p + Eb.length ≤ 1990) : ∃ g', (∀ Q, am_J (d + 1) 182 108 [some (.ref 349), some (.int (nI s)), some (.int (nI cs)), some (.int (nI x))] [] g Q ↔ am_J (d + 1) 182 136 [some (.ref 349), some (.int (nI s)), some (.int (nI cs)), some (.int (nI x))] [] g' Q) ∧ OB g g' p Eb := by
  have Sg := fr_S F S
  have e' : am_I g 354 x = xb := (fr_rdI F (by decide)).trans e
  rcases B with ⟨rfl, rfl⟩ | ⟨j, E', hj, rfl, rfl, B⟩
  · obtain ⟨g1, r1, W1⟩ := Pt_none (d := d) (s := s) (cs := cs) (h := h) g p F ep (by simpa using hp)
    refine ⟨g1, fun Q => ?_, W1⟩
    simp (disch := first | with_reducible assumption | omega | exact Or.inl rfl | exact Or.inr rfl | exact bI_01 | exact c_cat | exact vt_ref | exact vt_null | rfl | with_reducible repeat (first | assumption | omega | apply S_I | apply S_L | apply S_D | apply ob_I | apply ob_L | apply ob_D | apply ob_R | apply ax_I | apply ax_L | apply ax_D | apply ax_R | apply o303 | apply o307 | apply o302 | apply o301 | apply ax304 | apply ax305 | apply ax306 | apply ax308 | apply ax309 | apply ax310 | apply lt_S | apply ar305 | apply ar308 | apply ar309)) only [g182_108, g182_109, g182_112, g182_113, g182_114, g182_115, g182_118, g182_119, g182_121, g182_124, g182_125, g182_126, g182_127, g182_128, g182_131, g182_132, g182_133, Option.toList, List.nil_append, List.cons_append, va_rf, e', ↓reduceIte, eq_self, r1 _]
  · simp only [List.length_cons] at hp
    obtain ⟨g1, r1, W1⟩ := b_put (d := d) (c := 44) Sg ep (by omega) (by decide)
    have S1 := fr_S W1.1.1 Sg
    obtain ⟨g2, r2, W2⟩ := B g1 (p + 1) (fr_trans F W1.1.1) (OB_e W1) (by omega)
    have e1 : am_I g1 354 x = nI j := (fr_rdI W1.1.1 (by decide)).trans e'
    refine ⟨g2, fun Q => ?_, OB_trans W1 W2⟩
    simp (disch := first | with_reducible assumption | omega | exact Or.inl rfl | exact Or.inr rfl | exact bI_01 | exact c_cat | exact vt_ref | exact vt_null | rfl | with_reducible repeat (first | assumption | omega | apply S_I | apply S_L | apply S_D | apply ob_I | apply ob_L | apply ob_D | apply ob_R | apply ax_I | apply ax_L | apply ax_D | apply ax_R | apply o303 | apply o307 | apply o302 | apply o301 | apply ax304 | apply ax305 | apply ax306 | apply ax308 | apply ax309 | apply ax310 | apply lt_S | apply ar305 | apply ar308 | apply ar309)) only [g182_108, g182_109, g182_112, g182_113, g182_114, g182_115, g182_118, g182_119, g182_121, g182_124, g182_125, g182_126, g182_127, g182_128, g182_131, g182_132, g182_133, Option.toList, List.nil_append, List.cons_append, va_rf, nI_ltI, nI_leI, nI_eq, nI_add, nI_sub, nI_lt0, nI_e0, nI_m1, m1_nI, Nat.reduceEqDiff, Nat.reduceLT, Nat.reduceLeDiff, Nat.reduceAdd, Nat.reduceSub, Nat.reduceMul, ↓reduceIte, eq_self, e', e1, r1 _, r2 _]
theorem m_argC (S : am_S h) (hx : x < 3696) (e : am_I h 355 x = xb) (B : Pc d s cs h xb Eb) (F : am_fr pF2 h g) (ep : am_I g 349 3 = nI p) (hp : p + Eb.length ≤ 1990) : ∃ g', (∀ Q, am_J (d + 1) 182 136 [some (.ref 349), some (.int (nI s)), some (.int (nI cs)), some (.int (nI x))] [] g Q ↔ am_J (d + 1) 182 164 [some (.ref 349), some (.int (nI s)), some (.int (nI cs)), some (.int (nI x))] [] g' Q) ∧ OB g g' p Eb := by
  have Sg := fr_S F S
  have e' : am_I g 355 x = xb := (fr_rdI F (by decide)).trans e
  rcases B with ⟨rfl, rfl⟩ | ⟨j, E', hj, rfl, rfl, B⟩
  · obtain ⟨g1, r1, W1⟩ := Pt_none (d := d) (s := s) (cs := cs) (h := h) g p F ep (by simpa using hp)
    refine ⟨g1, fun Q => ?_, W1⟩
    simp (disch := first | with_reducible assumption | omega | exact Or.inl rfl | exact Or.inr rfl | exact bI_01 | exact c_cat | exact vt_ref | exact vt_null | rfl | with_reducible repeat (first | assumption | omega | apply S_I | apply S_L | apply S_D | apply ob_I | apply ob_L | apply ob_D | apply ob_R | apply ax_I | apply ax_L | apply ax_D | apply ax_R | apply o303 | apply o307 | apply o302 | apply o301 | apply ax304 | apply ax305 | apply ax306 | apply ax308 | apply ax309 | apply ax310 | apply lt_S | apply ar305 | apply ar308 | apply ar309)) only [g182_136, g182_137, g182_140, g182_141, g182_142, g182_143, g182_146, g182_147, g182_149, g182_152, g182_153, g182_154, g182_155, g182_156, g182_159, g182_160, g182_161, Option.toList, List.nil_append, List.cons_append, va_rf, e', ↓reduceIte, eq_self, r1 _]
  · simp only [List.length_cons] at hp
    obtain ⟨g1, r1, W1⟩ := b_put (d := d) (c := 44) Sg ep (by omega) (by decide)
    have S1 := fr_S W1.1.1 Sg
    obtain ⟨g2, r2, W2⟩ := B g1 (p + 1) (fr_trans F W1.1.1) (OB_e W1) (by omega)
    have e1 : am_I g1 355 x = nI j := (fr_rdI W1.1.1 (by decide)).trans e'
    refine ⟨g2, fun Q => ?_, OB_trans W1 W2⟩
    simp (disch := first | with_reducible assumption | omega | exact Or.inl rfl | exact Or.inr rfl | exact bI_01 | exact c_cat | exact vt_ref | exact vt_null | rfl | with_reducible repeat (first | assumption | omega | apply S_I | apply S_L | apply S_D | apply ob_I | apply ob_L | apply ob_D | apply ob_R | apply ax_I | apply ax_L | apply ax_D | apply ax_R | apply o303 | apply o307 | apply o302 | apply o301 | apply ax304 | apply ax305 | apply ax306 | apply ax308 | apply ax309 | apply ax310 | apply lt_S | apply ar305 | apply ar308 | apply ar309)) only [g182_136, g182_137, g182_140, g182_141, g182_142, g182_143, g182_146, g182_147, g182_149, g182_152, g182_153, g182_154, g182_155, g182_156, g182_159, g182_160, g182_161, Option.toList, List.nil_append, List.cons_append, va_rf, nI_ltI, nI_leI, nI_eq, nI_add, nI_sub, nI_lt0, nI_e0, nI_m1, m1_nI, Nat.reduceEqDiff, Nat.reduceLT, Nat.reduceLeDiff, Nat.reduceAdd, Nat.reduceSub, Nat.reduceMul, ↓reduceIte, eq_self, e', e1, r1 _, r2 _]
theorem m_args (S : am_S h) (hx : x < 3696) (ea : am_I h 353 x = xa) (eb : am_I h 354 x = xb) (ec : am_I h 355 x = xc) (A : Pt d s cs h xa Ea) (B : Pc d s cs h xb Eb) (C : Pc d s cs h xc Ec) (F : am_fr pF2 h g) (ep : am_I g 349 3 = nI p) (hp : p + (Ea ++ (Eb ++ (Ec ++ [41]))).length ≤ 1990) : ∃ g', (∀ Q, am_J (d + 1) 182 96 [some (.ref 349), some (.int (nI s)), some (.int (nI cs)), some (.int (nI x))] [] g Q ↔ Q none g') ∧ OB g g' p (Ea ++ (Eb ++ (Ec ++ [41]))) := by
  simp only [List.length_append, List.length_cons, List.length_nil] at hp
  have Sg := fr_S F S
  obtain ⟨g1, r1, W1⟩ := A g p F ep (by omega)
  have F1 := fr_trans F W1.1.1
  obtain ⟨g2, r2, W2⟩ := m_argB S hx eb B F1 (OB_e W1) (by omega)
  have F2 := fr_trans F1 W2.1.1
  obtain ⟨g3, r3, W3⟩ := m_argC S hx ec C F2 (OB_e W2) (by omega)
  have F3 := fr_trans F2 W3.1.1
  have S3 := fr_S F3 S
  obtain ⟨g4, r4, W4⟩ := b_put (d := d) (c := 41) S3 (OB_e W3) (by omega) (by decide)
  have ea' : am_I g 353 x = xa := (fr_rdI F (by decide)).trans ea
  refine ⟨g4, fun Q => ?_, OB_trans W1 (OB_trans W2 (OB_trans W3 W4))⟩
  have a1 : am_J (d + 1) 182 96 [some (.ref 349), some (.int (nI s)), some (.int (nI cs)), some (.int (nI x))] [] g Q ↔ am_J (d + 1) 182 108 [some (.ref 349), some (.int (nI s)), some (.int (nI cs)), some (.int (nI x))] [] g1 Q := by
    simp (disch := first | with_reducible assumption | omega | exact Or.inl rfl | exact Or.inr rfl | exact bI_01 | exact c_cat | exact vt_ref | exact vt_null | rfl | with_reducible repeat (first | assumption | omega | apply S_I | apply S_L | apply S_D | apply ob_I | apply ob_L | apply ob_D | apply ob_R | apply ax_I | apply ax_L | apply ax_D | apply ax_R | apply o303 | apply o307 | apply o302 | apply o301 | apply ax304 | apply ax305 | apply ax306 | apply ax308 | apply ax309 | apply ax310 | apply lt_S | apply ar305 | apply ar308 | apply ar309)) only [g182_96, g182_97, g182_98, g182_99, g182_100, g182_103, g182_104, g182_105, Option.toList, List.nil_append, List.cons_append, va_rf, ea', r1 _]
  rw [a1, r2, r3]
  simp (disch := first | with_reducible assumption | omega | exact Or.inl rfl | exact Or.inr rfl | exact bI_01 | exact c_cat | exact vt_ref | exact vt_null | rfl | with_reducible repeat (first | assumption | omega | apply S_I | apply S_L | apply S_D | apply ob_I | apply ob_L | apply ob_D | apply ob_R | apply ax_I | apply ax_L | apply ax_D | apply ax_R | apply o303 | apply o307 | apply o302 | apply o301 | apply ax304 | apply ax305 | apply ax306 | apply ax308 | apply ax309 | apply ax310 | apply lt_S | apply ar305 | apply ar308 | apply ar309)) only [g182_164, g182_165, g182_167, g182_170, Option.toList, List.nil_append, List.cons_append, va_rf, r4 _]
/-- the call's front: a word -/
theorem m_frontW (S : am_S h) (G : am_Gv h) (hx : x < 3696) {w : Nat} (hw : w < 12) (ek : am_I h 352 x = nI 7) (ew : am_L h 357 x = lN w) (F : am_fr pF2 h g) (ep : am_I g 349 3 = nI p) (hp : p + 7 ≤ 2000) : ∃ g', (∀ Q, am_J (d + 6) 182 0 [some (.ref 349), some (.int (nI s)), some (.int (nI cs)), some (.int (nI x))] [] g Q ↔ am_J (d + 6) 182 96 [some (.ref 349), some (.int (nI s)), some (.int (nI cs)), some (.int (nI x))] [] g' Q) ∧ OB g g' p (wdN w ++ [40]) := by
  have Sg := fr_S F S
  have Gg := Gv_fr F (by decide) (by decide) (by decide) G
  have l6 : (wdN w).length ≤ 6 := by
    unfold wdN; rw [List.length_map, List.length_range]; exact (wd_facts w hw).1
  obtain ⟨g1, r1, W1⟩ := m_putWord (d := d) Sg Gg ep (by omega) hw
  have S1 := fr_S W1.1 Sg
  obtain ⟨g2, r2, W2⟩ := b_put (d := d + 5) (c := 40) S1 W1.2.2.1 (by omega) (by decide)
  have S2 := fr_S W2.1.1 S1
  have k0 : am_I g 352 x = nI 7 := (fr_rdI F (by decide)).trans ek
  have k2 : am_I g2 352 x = nI 7 := (fr_rdI W2.1.1 (by decide)).trans ((fr_rdI W1.1 (by decide)).trans k0)
  have w0 : am_L g 357 x = lN w := (fr_rdL F (by decide)).trans ew
  refine ⟨g2, fun Q => ?_, OB_trans ⟨W1, okB_wd hw⟩ W2⟩
  simp (disch := first | with_reducible assumption | omega | exact Or.inl rfl | exact Or.inr rfl | exact bI_01 | exact c_cat | exact vt_ref | exact vt_null | rfl | with_reducible repeat (first | assumption | omega | apply S_I | apply S_L | apply S_D | apply ob_I | apply ob_L | apply ob_D | apply ob_R | apply ax_I | apply ax_L | apply ax_D | apply ax_R | apply o303 | apply o307 | apply o302 | apply o301 | apply ax304 | apply ax305 | apply ax306 | apply ax308 | apply ax309 | apply ax310 | apply lt_S | apply ar305 | apply ar308 | apply ar309)) only [g182_0, g182_1, g182_4, g182_5, g182_6, g182_8, g182_11, g182_12, g182_13, g182_16, g182_17, g182_20, g182_21, g182_22, g182_23, g182_24, g182_27, g182_30, g182_31, g182_32, g182_35, g182_36, g182_37, g182_39, g182_42, g182_44, g182_47, g182_48, g182_51, g182_52, g182_53, g182_54, g182_57, g182_58, g182_60, g182_63, g182_64, g182_67, g182_68, g182_69, g182_71, g182_74, g182_75, g182_76, g182_79, g182_80, g182_83, g182_84, g182_85, g182_86, g182_87, g182_90, g182_91, g182_93, Option.toList, List.nil_append, List.cons_append, va_rf, nI_ltI, nI_leI, nI_eq, nI_add, nI_sub, nI_lt0, nI_e0, nI_m1, m1_nI, Nat.reduceEqDiff, Nat.reduceLT, Nat.reduceLeDiff, Nat.reduceAdd, Nat.reduceSub, Nat.reduceMul, ↓reduceIte, eq_self, k0, k2, w0, lN_i8, r1 _, r2 _]
/-- the call's front: a function -/
theorem m_frontF (S : am_S h) (hx : x < 3696) {f v : Nat} (hf : f < 8) (hv : v < 2 ^ 40) (ek : am_I h 352 x = nI 8) (ew : am_L h 357 x = lN f) (en : am_L h 358 f = lN v) (F : am_fr pF2 h g) (ep : am_I g 349 3 = nI p) (hp : p + (ltM (lN v) ++ [40]).length ≤ 2000) : ∃ g', (∀ Q, am_J (d + 6) 182 0 [some (.ref 349), some (.int (nI s)), some (.int (nI cs)), some (.int (nI x))] [] g Q ↔ am_J (d + 6) 182 96 [some (.ref 349), some (.int (nI s)), some (.int (nI cs)), some (.int (nI x))] [] g' Q) ∧ OB g g' p (ltM (lN v) ++ [40]) := by
  have Sg := fr_S F S
  simp only [List.length_append, List.length_cons, List.length_nil] at hp
  obtain ⟨g1, r1, W1⟩ := m_putName (d := d + 4) Sg ep hv (by omega)
  have S1 := fr_S W1.1 Sg
  obtain ⟨g2, r2, W2⟩ := b_put (d := d + 5) (c := 40) S1 W1.2.2.1 (by omega) (by decide)
  have S2 := fr_S W2.1.1 S1
  have k0 : am_I g 352 x = nI 8 := (fr_rdI F (by decide)).trans ek
  have k2 : am_I g2 352 x = nI 8 := (fr_rdI W2.1.1 (by decide)).trans ((fr_rdI W1.1 (by decide)).trans k0)
  have w0 : am_L g 357 x = lN f := (fr_rdL F (by decide)).trans ew
  have n0 : am_L g 358 f = lN v := (fr_rdL F (by decide)).trans en
  refine ⟨g2, fun Q => ?_, OB_trans ⟨W1, okB_lt _ _⟩ W2⟩
  simp (disch := first | with_reducible assumption | omega | exact Or.inl rfl | exact Or.inr rfl | exact bI_01 | exact c_cat | exact vt_ref | exact vt_null | rfl | with_reducible repeat (first | assumption | omega | apply S_I | apply S_L | apply S_D | apply ob_I | apply ob_L | apply ob_D | apply ob_R | apply ax_I | apply ax_L | apply ax_D | apply ax_R | apply o303 | apply o307 | apply o302 | apply o301 | apply ax304 | apply ax305 | apply ax306 | apply ax308 | apply ax309 | apply ax310 | apply lt_S | apply ar305 | apply ar308 | apply ar309)) only [g182_0, g182_1, g182_4, g182_5, g182_6, g182_8, g182_11, g182_12, g182_13, g182_16, g182_17, g182_20, g182_21, g182_22, g182_23, g182_24, g182_27, g182_30, g182_31, g182_32, g182_35, g182_36, g182_37, g182_39, g182_42, g182_44, g182_47, g182_48, g182_51, g182_52, g182_53, g182_54, g182_57, g182_58, g182_60, g182_63, g182_64, g182_67, g182_68, g182_69, g182_71, g182_74, g182_75, g182_76, g182_79, g182_80, g182_83, g182_84, g182_85, g182_86, g182_87, g182_90, g182_91, g182_93, Option.toList, List.nil_append, List.cons_append, va_rf, nI_ltI, nI_leI, nI_eq, nI_add, nI_sub, nI_lt0, nI_e0, nI_m1, m1_nI, Nat.reduceEqDiff, Nat.reduceLT, Nat.reduceLeDiff, Nat.reduceAdd, Nat.reduceSub, Nat.reduceMul, ↓reduceIte, eq_self, k0, k2, w0, n0, lN_i8, r1 _, r2 _]
/-- the call's front: root -/
theorem m_frontR (S : am_S h) (G : am_Gv h) (hx : x < 3696) {f v : Nat} (hf : f < 8) (hv : v < 2 ^ 40) (ek : am_I h 352 x = nI 9) (ew : am_L h 357 x = lN f) (en : am_L h 358 f = lN v) (F : am_fr pF2 h g) (ep : am_I g 349 3 = nI p) (hp : p + 8 + (ltM (lN v)).length ≤ 2000) : ∃ g', (∀ Q, am_J (d + 6) 182 0 [some (.ref 349), some (.int (nI s)), some (.int (nI cs)), some (.int (nI x))] [] g Q ↔ am_J (d + 6) 182 96 [some (.ref 349), some (.int (nI s)), some (.int (nI cs)), some (.int (nI x))] [] g' Q) ∧ OB g g' p (wdN 9 ++ ([40] ++ (ltM (lN v) ++ [44]))) := by
  have Sg := fr_S F S
  have Gg := Gv_fr F (by decide) (by decide) (by decide) G
  have l6 : (wdN 9).length ≤ 6 := by
    unfold wdN; rw [List.length_map, List.length_range]; exact (wd_facts 9 (by decide)).1
  obtain ⟨g1, r1, W1⟩ := m_putWord (d := d) (w := 9) Sg Gg ep (by omega) (by decide)
  have S1 := fr_S W1.1 Sg
  obtain ⟨g2, r2, W2⟩ := b_put (d := d + 5) (c := 40) S1 W1.2.2.1 (by omega) (by decide)
  have S2 := fr_S W2.1.1 S1
  obtain ⟨g3, r3, W3⟩ := m_putName (d := d + 4) S2 (OB_e W2) hv (by simp only [List.length_cons, List.length_nil]; omega)
  have S3 := fr_S W3.1 S2
  obtain ⟨g4, r4, W4⟩ := b_put (d := d + 5) (c := 44) S3 W3.2.2.1 (by simp only [List.length_cons, List.length_nil]; omega) (by decide)
  have k0 : am_I g 352 x = nI 9 := (fr_rdI F (by decide)).trans ek
  have F2 := fr_trans F (fr_trans W1.1 W2.1.1)
  have k2 : am_I g2 352 x = nI 9 := (fr_rdI F2 (by decide)).trans ek
  have w2 : am_L g2 357 x = lN f := (fr_rdL F2 (by decide)).trans ew
  have n2 : am_L g2 358 f = lN v := (fr_rdL F2 (by decide)).trans en
  refine ⟨g4, fun Q => ?_, OB_trans ⟨W1, okB_wd (by decide)⟩ (OB_trans W2 (OB_trans ⟨W3, okB_lt _ _⟩ W4))⟩
  simp (disch := first | with_reducible assumption | omega | exact Or.inl rfl | exact Or.inr rfl | exact bI_01 | exact c_cat | exact vt_ref | exact vt_null | rfl | with_reducible repeat (first | assumption | omega | apply S_I | apply S_L | apply S_D | apply ob_I | apply ob_L | apply ob_D | apply ob_R | apply ax_I | apply ax_L | apply ax_D | apply ax_R | apply o303 | apply o307 | apply o302 | apply o301 | apply ax304 | apply ax305 | apply ax306 | apply ax308 | apply ax309 | apply ax310 | apply lt_S | apply ar305 | apply ar308 | apply ar309)) only [g182_0, g182_1, g182_4, g182_5, g182_6, g182_8, g182_11, g182_12, g182_13, g182_16, g182_17, g182_20, g182_21, g182_22, g182_23, g182_24, g182_27, g182_30, g182_31, g182_32, g182_35, g182_36, g182_37, g182_39, g182_42, g182_44, g182_47, g182_48, g182_51, g182_52, g182_53, g182_54, g182_57, g182_58, g182_60, g182_63, g182_64, g182_67, g182_68, g182_69, g182_71, g182_74, g182_75, g182_76, g182_79, g182_80, g182_83, g182_84, g182_85, g182_86, g182_87, g182_90, g182_91, g182_93, Option.toList, List.nil_append, List.cons_append, va_rf, nI_ltI, nI_leI, nI_eq, nI_add, nI_sub, nI_lt0, nI_e0, nI_m1, m1_nI, Nat.reduceEqDiff, Nat.reduceLT, Nat.reduceLeDiff, Nat.reduceAdd, Nat.reduceSub, Nat.reduceMul, ↓reduceIte, eq_self, k0, k2, w2, n2, lN_i8, r1 _, r2 _, r3 _, r4 _]
end CLL
end OUP

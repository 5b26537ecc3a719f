/-! THE MODEL: a cell or a constant is worked out -/
def mbH (h : am_H) (r : Nat) : am_H := am_setI (am_setI (am_setI (am_setI (am_setI (am_setI h 349 58 (nI r)) 349 56 (nI 0)) 349 57 (nI 0)) 349 70 (nI 0)) 349 64 (nI 0)) 349 59 (nI 0)
section MBG
variable {h g : am_H} {r d k a : Nat}
theorem m_wbegin (S : am_S h) : am_run d 240 [some (.ref 349), some (.int (nI r))] h none (mbH h r) := fun Q => by
  unfold mbH
  simp (disch := first | with_reducible assumption | omega | exact Or.inl rfl | exact Or.inr rfl | exact bI_01 | exact c_cat | exact vt_ref | exact vt_null | rfl | with_reducible repeat (first | assumption | omega | apply S_I | apply S_L | apply S_D | apply ob_I | apply ob_L | apply ob_D | apply ob_R | apply ax_I | apply ax_L | apply ax_D | apply ax_R | apply o303 | apply o307 | apply o302 | apply o301 | apply ax304 | apply ax305 | apply ax306 | apply ax308 | apply ax309 | apply ax310 | apply lt_S | apply ar305 | apply ar308 | apply ar309)) only [g240_0, g240_1, g240_2, g240_5, g240_6, g240_7, g240_10, g240_11, g240_12, g240_15, g240_16, g240_17, g240_20, g240_21, g240_22, g240_25, g240_26, g240_27, g240_30, Option.toList, List.nil_append, List.cons_append, va_rf]
theorem mb_I (ha : a ≠ 349) : am_I (mbH h r) a k = am_I h a k := by
  unfold mbH
  rw [rI_a ha, rI_a ha, rI_a ha, rI_a ha, rI_a ha, rI_a ha]
theorem mb_I9 (hk : k < 56 ∨ 70 < k) : am_I (mbH h r) 349 k = am_I h 349 k := by
  unfold mbH
  rw [rI_k (by omega), rI_k (by omega), rI_k (by omega), rI_k (by omega), rI_k (by omega), rI_k (by omega)]
theorem MW_mb (S : am_S h) (hr : r ≤ 256) (h0 : r < 256 → am_I h 373 r = nI 0) : MW h (mbH h r) r 0 0 (1000, []) ∧ am_I (mbH h r) 349 64 = nI 0 := by
  refine ⟨⟨?_, fun k hk => mb_I9 hk, Nat.le_refl _, ?_, ?_, ?_, hr, ?_, fun q => ⟨(mb_I (by decide)).trans (h0 q), fun i h1 h2 => absurd h2 (Nat.not_lt_zero _)⟩, fun k hk => mb_I (by decide), fun k hk => mb_I (by decide)⟩, ?_⟩
  · exact fr_I (fr_I (fr_I (fr_I (fr_I (fr_I fr_refl (Or.inl rfl)) (Or.inl rfl)) (Or.inl rfl)) (Or.inl rfl)) (Or.inl rfl)) (Or.inl rfl)
  · unfold mbH
    rw [rI_k (by decide), rI_k (by decide), rI_k (by decide), rI_k (by decide), rI_eq]
    rfl
  · unfold mbH
    rw [rI_k (by decide), rI_k (by decide), rI_k (by decide), rI_eq]
  · unfold mbH
    rw [rI_k (by decide), rI_k (by decide), rI_k (by decide), rI_k (by decide), rI_k (by decide), rI_eq]
  · unfold mbH
    rw [rI_k (by decide), rI_k (by decide), rI_eq]
  · unfold mbH
    rw [rI_k (by decide), rI_eq]
theorem m_workOut {s nn kn M z sh : Nat} {rt : Nat → Nat} {cv : Nat → Option (Option VL)} {cs : Nat → Nat → VL} {pN pF : Nat → List Nat} {P : Nat → Prop} {E L : List Nat} {G : List (Nat × Nat)} {D : List (Int32 × Int64)}
    (S : am_S h) (C : cvH h cv P) (cr : ∀ c, P c → r < 256) (F : FN h rt pF) (hR : Rp false kn (tb h (48 * s)) M pN pF z nn D E L G) (hM : M ≤ 40) (hs : s < 77) (hz : z ≤ 450) (hns : ¬ (48 ≤ s ∧ s < 56)) (hC : ∀ k, k < kn % 1000 → 5 * sh + k < 20 ∧ csv h (5 * sh + k) (cs sh k)) (hL : ∀ c, c ∈ L → P c) (hr : r ≤ 256) (h0 : r < 256 → am_I h 373 r = nI 0) (hd : 1350 ≤ d) :
    ∃ g', am_run d 241 [some (.ref 349), some (.int (nI s)), some (.int (nI 0)), some (.int (nI sh)), some (.int (nI nn)), none, none, none, none, none, none] (mbH h r) none g' ∧ MW h g' r 0 0 (ev (fun s => tb h (48 * s)) rt cv cs 1001 s [] sh 0 nn (1000, [])).2 ∧ MO h g' r (ev (fun s => tb h (48 * s)) rt cv cs 1001 s [] sh 0 nn (1000, [])).1 := by
  obtain ⟨A, sp⟩ := MW_mb S hr h0
  obtain ⟨f', hf, hn, -⟩ := Rp_S hR
  have W := m_work S C cr F 1001 z false kn s M pN nn D E L G [] 0 sh 0 d hR hM hs hz (by decide) ⟨fun q => (by cases q), fun q => absurd q hns⟩ (fun q => by cases q) (fun _ => hC) hL (by omega)
  obtain ⟨g', R, A', -, O, -⟩ := W 0 (mbH h r) (1000, []) (Nat.zero_le _) (Nat.le_refl _) (by decide) A sp (fun i v hv => by cases hv)
  exact ⟨g', R, A', O⟩
end MBG
/-- what does(x) changes -/
abbrev wdA : Nat → Prop := fun a => a = 349 ∨ (365 ≤ a ∧ a ≤ 368) ∨ (370 ≤ a ∧ a ≤ 373) ∨ (385 ≤ a ∧ a ≤ 389) ∨ a = 391 ∨ a = 394
abbrev wdK (x a k : Nat) : Prop := (a = 349 ∧ ((56 ≤ k ∧ k ≤ 70) ∨ k = 81)) ∨ (((365 ≤ a ∧ a ≤ 368) ∨ a = 373 ∨ a = 391) ∧ k = x) ∨ (a = 372 ∧ 24 * x ≤ k ∧ k < 24 * x + 24) ∨ a = 394 ∨ (385 ≤ a ∧ a ≤ 389)
def MFr (x : Nat) (h g : am_H) : Prop := am_fr wdA h g ∧ (∀ a k, ¬ wdK x a k → am_I g a k = am_I h a k) ∧ ∀ k, k ≠ x → am_L g 370 k = am_L h 370 k ∧ am_D g 371 k = am_D h 371 k
section MFRS
variable {x a k : Nat} {h g g' : am_H}
theorem MFr_refl : MFr x h h := ⟨fr_refl, fun _ _ _ => rfl, fun _ _ => ⟨rfl, rfl⟩⟩
theorem MFr_I {v : Int32} (F : MFr x h g) (h1 : wdA a) (h2 : wdK x a k) : MFr x h (am_setI g a k v) := ⟨fr_I F.1 h1, fun b j hb => by
  rw [hI_I]
  split
  · split
    · subst_vars; exact absurd h2 hb
    · exact F.2.1 b j hb
  · exact F.2.1 b j hb, F.2.2⟩
theorem MFr_L {v : Int64} (F : MFr x h g) (h1 : (a = 370 ∧ k = x) ∨ a = 349) : MFr x h (am_setL g a k v) := ⟨fr_L F.1 (by omega), F.2.1, fun j hj => ⟨by
  rcases h1 with ⟨rfl, rfl⟩ | rfl
  · rw [rL_k hj]; exact (F.2.2 j hj).1
  · rw [rL_a (by decide)]; exact (F.2.2 j hj).1, (F.2.2 j hj).2⟩⟩
theorem MFr_D {v : UInt64} (F : MFr x h g) (h1 : (a = 371 ∧ k = x) ∨ a = 349) : MFr x h (am_setD g a k v) := ⟨fr_D F.1 (by omega), F.2.1, fun j hj => ⟨(F.2.2 j hj).1, by
  rcases h1 with ⟨rfl, rfl⟩ | rfl
  · rw [rD_k hj]; exact (F.2.2 j hj).2
  · rw [rD_a (by decide)]; exact (F.2.2 j hj).2⟩⟩
theorem MFr_W {dp t : Nat} {σ : SR} (F : MFr x h g) (A : MW g g' x dp t σ) : MFr x h g' := by
  obtain ⟨a1, a2, a3, a4, a5, a6, a7, a8, a9, a10, a11⟩ := A
  refine ⟨fr_trans F.1 (fr_mono (fun a ha => by omega) a1), fun a k hk => ?_, fun k hk => ⟨(fr_rdL a1 (by decide)).trans (F.2.2 k hk).1, (fr_rdD a1 (by decide)).trans (F.2.2 k hk).2⟩⟩
  refine Eq.trans ?_ (F.2.1 a k hk)
  by_cases c1 : a = 349
  · subst c1; exact a2 k (by omega)
  · by_cases c2 : a = 372
    · subst c2; exact a11 k (by omega)
    · by_cases c3 : a = 373
      · subst c3; exact a10 k (by omega)
      · exact fr_rdI a1 (by omega)
end MFRS
def dnH (g : am_H) (x dn : Nat) : am_H := am_setI (am_setI (am_setI (am_setI g 391 x (nI 1)) 394 dn (nI x)) 349 81 (nI (dn + 1))) 373 x (nI 0)
def faM (g : am_H) (x : Nat) (s k f c : Int32) : am_H := am_setI (am_setI (am_setI (am_setI g 365 x s) 366 x k) 367 x f) 368 x c
/-- what the model holds of x after it was worked out -/
def MOx (h g : am_H) (x : Nat) (o : OC) : Prop := match o with
  | .inl (.inl v) => am_I g 365 x = nI 1 ∧ am_L g 370 x = v
  | .inl (.inr y) => am_I g 365 x = nI 2 ∧ am_D g 371 x = y ∧ okD y
  | .inr (.inl k) => am_I g 365 x = nI 3 ∧ am_I g 366 x = nI k ∧ am_I g 367 x = nI x ∧ am_I g 368 x = nI 0
  | .inr (.inr c) => am_I g 365 x = nI 5 ∧ am_I g 366 x = am_I h 366 c ∧ am_I g 367 x = am_I h 367 c ∧ am_I g 368 x = am_I h 368 c
section MDO
variable {h g : am_H} {x dn d y k s : Nat} {v1 v2 v3 v4 : Int32}
theorem dn_F : MFr x g (dnH g x dn) := MFr_I (MFr_I (MFr_I (MFr_I MFr_refl (by omega) (by omega)) (by omega) (by omega)) (by omega) (by omega)) (by omega) (by omega)
theorem fa_F (F : MFr x h g) : MFr x h (faM g x v1 v2 v3 v4) := MFr_I (MFr_I (MFr_I (MFr_I F (by omega) (by omega)) (by omega) (by omega)) (by omega) (by omega)) (by omega) (by omega)
theorem dn_V : am_I (dnH g x dn) 391 x = nI 1 ∧ am_I (dnH g x dn) 394 dn = nI x ∧ am_I (dnH g x dn) 349 81 = nI (dn + 1) ∧ am_I (dnH g x dn) 373 x = nI 0 ∧ ∀ j, j ≠ dn → am_I (dnH g x dn) 394 j = am_I g 394 j := by
  unfold dnH
  refine ⟨?_, ?_, ?_, rI_eq, fun j hj => ?_⟩
  · rw [rI_a (by decide), rI_a (by decide), rI_a (by decide), rI_eq]
  · rw [rI_a (by decide), rI_a (by decide), rI_eq]
  · rw [rI_a (by decide), rI_eq]
  · rw [rI_a (by decide), rI_a (by decide), rI_k hj, rI_a (by decide)]
theorem dn_o {a k : Nat} (h1 : a ≠ 391) (h2 : a ≠ 394) (h3 : a ≠ 349) (h4 : a ≠ 373) : am_I (dnH g x dn) a k = am_I g a k := by
  unfold dnH
  rw [rI_a h4, rI_a h3, rI_a h2, rI_a h1]
theorem faM_V : am_I (faM g x v1 v2 v3 v4) 365 x = v1 ∧ am_I (faM g x v1 v2 v3 v4) 366 x = v2 ∧ am_I (faM g x v1 v2 v3 v4) 367 x = v3 ∧ am_I (faM g x v1 v2 v3 v4) 368 x = v4 := by
  unfold faM
  refine ⟨?_, ?_, ?_, rI_eq⟩
  · rw [rI_a (by decide), rI_a (by decide), rI_a (by decide), rI_eq]
  · rw [rI_a (by decide), rI_a (by decide), rI_eq]
  · rw [rI_a (by decide), rI_eq]
theorem faM_o {a k : Nat} (h : a < 365 ∨ 368 < a) : am_I (faM g x v1 v2 v3 v4) a k = am_I g a k := by
  unfold faM
  rw [rI_a (by omega), rI_a (by omega), rI_a (by omega), rI_a (by omega)]
theorem m_failed (S : am_S g) (hx : x < 256) : am_run d 267 [some (.ref 349), some (.int (nI x)), some (.int v1), some (.int v2), some (.int v3), some (.int v4)] g none (faM g x v1 v2 v3 v4) := fun Q => by
  unfold faM
  simp (disch := first | with_reducible assumption | omega | exact Or.inl rfl | exact Or.inr rfl | exact bI_01 | exact c_cat | exact vt_ref | exact vt_null | rfl | with_reducible repeat (first | assumption | omega | apply S_I | apply S_L | apply S_D | apply ob_I | apply ob_L | apply ob_D | apply ob_R | apply ax_I | apply ax_L | apply ax_D | apply ax_R | apply o303 | apply o307 | apply o302 | apply o301 | apply ax304 | apply ax305 | apply ax306 | apply ax308 | apply ax309 | apply ax310 | apply lt_S | apply ar305 | apply ar308 | apply ar309)) only [g267_0, g267_1, g267_4, g267_5, g267_6, g267_7, g267_8, g267_11, g267_12, g267_13, g267_14, g267_15, g267_18, g267_19, g267_21, g267_22, g267_23, g267_26, g267_27, g267_29, g267_30, Option.toList, List.nil_append, List.cons_append, va_rf]
theorem m_doesTo (S : am_S g) (hx : x < 256) (hd : dn < 48) (e : am_I g 349 81 = nI dn) {Q : Option Value → am_H → Prop} : am_J d 266 0 [some (.ref 349), some (.int (nI x))] [] g Q ↔ am_J d 266 34 [some (.ref 349), some (.int (nI x))] [] (dnH g x dn) Q := by
  unfold dnH
  simp (disch := first | with_reducible assumption | omega | exact Or.inl rfl | exact Or.inr rfl | exact bI_01 | exact c_cat | exact vt_ref | exact vt_null | rfl | with_reducible repeat (first | assumption | omega | apply S_I | apply S_L | apply S_D | apply ob_I | apply ob_L | apply ob_D | apply ob_R | apply ax_I | apply ax_L | apply ax_D | apply ax_R | apply o303 | apply o307 | apply o302 | apply o301 | apply ax304 | apply ax305 | apply ax306 | apply ax308 | apply ax309 | apply ax310 | apply lt_S | apply ar305 | apply ar308 | apply ar309)) only [g266_0, g266_1, g266_4, g266_5, g266_6, g266_7, g266_8, g266_11, g266_12, g266_15, g266_16, g266_17, g266_18, g266_19, g266_22, g266_23, g266_24, g266_27, g266_28, g266_31, g266_32, g266_33, Option.toList, List.nil_append, List.cons_append, va_rf, nI_ltI, nI_leI, nI_eq, nI_add, nI_sub, nI_lt0, nI_e0, nI_m1, m1_nI, Nat.reduceEqDiff, Nat.reduceLT, Nat.reduceLeDiff, Nat.reduceAdd, Nat.reduceSub, Nat.reduceMul, ↓reduceIte, eq_self, hI_I, hI_L, hI_D, hI_R, hL_I, hL_L, hL_D, hL_R, hD_I, hD_L, hD_D, hD_R, hR_I, hR_L, hR_D, ↓reduceIte, Nat.reduceEqDiff, e]
theorem m_doesC (S : am_S g) (hx : x < 256) (hd : dn < 48) (e : am_I g 349 81 = nI dn) (c : am_I g 395 x = nI y) (hy : y < 256) : am_run (d + 1) 266 [some (.ref 349), some (.int (nI x))] g none (faM (dnH g x dn) x (nI 4) (nI 9) (nI y) (nI 0)) := fun Q => by
  have S1 : am_S (dnH g x dn) := S
  have c1 : am_I (dnH g x dn) 395 x = nI y := (dn_o (by decide) (by decide) (by decide) (by decide)).trans c
  have mf := m_failed (d := d) (v1 := nI 4) (v2 := nI 9) (v3 := nI y) (v4 := nI 0) S1 hx
  rw [m_doesTo S hx hd e]
  simp (disch := first | with_reducible assumption | omega | exact Or.inl rfl | exact Or.inr rfl | exact bI_01 | exact c_cat | exact vt_ref | exact vt_null | rfl | with_reducible repeat (first | assumption | omega | apply S_I | apply S_L | apply S_D | apply ob_I | apply ob_L | apply ob_D | apply ob_R | apply ax_I | apply ax_L | apply ax_D | apply ax_R | apply o303 | apply o307 | apply o302 | apply o301 | apply ax304 | apply ax305 | apply ax306 | apply ax308 | apply ax309 | apply ax310 | apply lt_S | apply ar305 | apply ar308 | apply ar309)) only [g266_34, g266_35, g266_38, g266_39, g266_40, g266_41, g266_44, g266_45, g266_46, g266_47, g266_49, g266_50, g266_53, g266_54, g266_55, g266_56, g266_59, Option.toList, List.nil_append, List.cons_append, va_rf, nI_ltI, nI_leI, nI_eq, nI_add, nI_sub, nI_lt0, nI_e0, nI_m1, m1_nI, Nat.reduceEqDiff, Nat.reduceLT, Nat.reduceLeDiff, Nat.reduceAdd, Nat.reduceSub, Nat.reduceMul, ↓reduceIte, eq_self, c1, nI_nem1 (show y < 2 ^ 31 by omega), mf _]
theorem m_doesS (S : am_S g) (hx : x < 256) (hd : dn < 48) (e : am_I g 349 81 = nI dn) (c : am_I g 395 x = -1) (cs : am_I g 381 (x / 64) = nI k) (hk : k ≠ 0) (hk2 : k < 12) : am_run (d + 1) 266 [some (.ref 349), some (.int (nI x))] g none (faM (dnH g x dn) x (nI 3) (nI 10) (nI x) (nI k)) := fun Q => by
  have S1 : am_S (dnH g x dn) := S
  have c1 : am_I (dnH g x dn) 395 x = -1 := (dn_o (by decide) (by decide) (by decide) (by decide)).trans c
  have c2 : am_I (dnH g x dn) 381 (x / 64) = nI k := (dn_o (by decide) (by decide) (by decide) (by decide)).trans cs
  have mf := m_failed (d := d) (v1 := nI 3) (v2 := nI 10) (v3 := nI x) (v4 := nI k) S1 hx
  have n64 : ¬ nI 64 = 0 := by decide
  rw [m_doesTo S hx hd e]
  simp (disch := first | with_reducible assumption | omega | exact Or.inl rfl | exact Or.inr rfl | exact bI_01 | exact c_cat | exact vt_ref | exact vt_null | rfl | with_reducible repeat (first | assumption | omega | apply S_I | apply S_L | apply S_D | apply ob_I | apply ob_L | apply ob_D | apply ob_R | apply ax_I | apply ax_L | apply ax_D | apply ax_R | apply o303 | apply o307 | apply o302 | apply o301 | apply ax304 | apply ax305 | apply ax306 | apply ax308 | apply ax309 | apply ax310 | apply lt_S | apply ar305 | apply ar308 | apply ar309)) only [g266_34, g266_35, g266_38, g266_39, g266_40, g266_41, g266_44, g266_45, g266_46, g266_47, g266_49, g266_50, g266_53, g266_54, g266_55, g266_56, g266_59, g266_60, g266_61, g266_64, g266_65, g266_67, g266_68, g266_69, g266_72, g266_73, g266_74, g266_75, g266_77, g266_78, g266_79, g266_82, g266_83, g266_85, g266_86, g266_87, g266_90, Option.toList, List.nil_append, List.cons_append, va_rf, nI_ltI, nI_leI, nI_eq, nI_add, nI_sub, nI_lt0, nI_e0, nI_m1, m1_nI, Nat.reduceEqDiff, Nat.reduceLT, Nat.reduceLeDiff, Nat.reduceAdd, Nat.reduceSub, Nat.reduceMul, ↓reduceIte, eq_self, nI_div, c1, c2, hk, mf _]
theorem m_doesW {nn kn M z : Nat} {rt : Nat → Nat} {cv : Nat → Option (Option VL)} {cs : Nat → Nat → VL} {pN pF : Nat → List Nat} {P : Nat → Prop} {E L : List Nat} {G : List (Nat × Nat)} {D : List (Int32 × Int64)}
    (S : am_S g) (hx : x < 256) (hdn : dn < 48) (e : am_I g 349 81 = nI dn) (c : am_I g 395 x = -1) (csp : am_I g 381 (x / 64) = nI 0) (es : am_I g 369 x = nI s) (hs : s < 48) (er : am_I g 356 s = nI nn)
    (C : cvH g cv P) (F : FN g rt pF) (hR : Rp false kn (tb g (48 * s)) M pN pF z nn D E L G) (hM : M ≤ 40) (hz : z ≤ 450) (hC : ∀ k, k < kn % 1000 → 5 * (x / 64) + k < 20 ∧ csv g (5 * (x / 64) + k) (cs (x / 64) k)) (hL : ∀ c, c ∈ L → P c) (hd : 1350 ≤ d) :
    ∃ g', am_run (d + 1) 266 [some (.ref 349), some (.int (nI x))] g none g' ∧ MFr x g g' ∧ MOx g g' x (ev (fun s => tb g (48 * s)) rt cv cs 1001 s [] (x / 64) 0 nn (1000, [])).1 ∧ am_I g' 391 x = nI 1 ∧ am_I g' 394 dn = nI x ∧ (∀ j, j ≠ dn → am_I g' 394 j = am_I g 394 j) ∧ am_I g' 349 81 = nI (dn + 1) ∧ am_I g' 373 x = nI (min 24 (ev (fun s => tb g (48 * s)) rt cv cs 1001 s [] (x / 64) 0 nn (1000, [])).2.2.length) ∧ ∀ i, i < 24 → i < (ev (fun s => tb g (48 * s)) rt cv cs 1001 s [] (x / 64) 0 nn (1000, [])).2.2.length → am_I g' 372 (24 * x + i) = nI ((ev (fun s => tb g (48 * s)) rt cv cs 1001 s [] (x / 64) 0 nn (1000, [])).2.2.getD i 0) := by
  have S1 : am_S (dnH g x dn) := S
  have q0 := fun a k h1 h2 h3 h4 => dn_o (g := g) (x := x) (dn := dn) (a := a) (k := k) h1 h2 h3 h4
  obtain ⟨v1, v2, v3, v4, v5⟩ := dn_V (g := g) (x := x) (dn := dn)
  have eT : (fun s => tb (dnH g x dn) (48 * s)) = (fun s => tb g (48 * s)) := by
    funext s n
    unfold tb
    rw [q0 352 _ (by decide) (by decide) (by decide) (by decide), q0 353 _ (by decide) (by decide) (by decide) (by decide), q0 354 _ (by decide) (by decide) (by decide) (by decide), q0 355 _ (by decide) (by decide) (by decide) (by decide)]
    rfl
  have eT' := fun s => congrFun eT s
  have C1 : cvH (dnH g x dn) cv P := fun c hc => by
    have := C c hc
    refine ⟨this.1, ?_⟩
    have r365 := q0 365 c (by decide) (by decide) (by decide) (by decide)
    match cv c, this.2 with
    | none, a1 => exact r365.trans a1
    | some none, ⟨s, a1, a2, a3⟩ => exact ⟨s, a1, a2, r365.trans a3⟩
    | some (some (.inl _)), ⟨a1, a2⟩ => exact ⟨r365.trans a1, a2⟩
    | some (some (.inr _)), ⟨a1, a2, a3⟩ => exact ⟨r365.trans a1, a2, a3⟩
  have F1 : FN (dnH g x dn) rt pF := fun g' v h1 h2 h3 => by
    obtain ⟨b1, pN', m, k, r0, D', E', L', G', b2, b3, b4, b5, b6, b7⟩ := F g' v h1 h2 h3
    exact ⟨b1, pN', m, k, r0, D', E', L', G', b2, b3, b4, by rw [eT' (48 + g')]; exact b5, (q0 356 _ (by decide) (by decide) (by decide) (by decide)).trans b6, b7⟩
  have hC1 : ∀ k, k < kn % 1000 → 5 * (x / 64) + k < 20 ∧ csv (dnH g x dn) (5 * (x / 64) + k) (cs (x / 64) k) := fun k hk => by
    obtain ⟨a1, a2⟩ := hC k hk
    refine ⟨a1, ?_⟩
    have r379 := q0 379 (5 * (x / 64) + k) (by decide) (by decide) (by decide) (by decide)
    match cs (x / 64) k, a2 with
    | .inl _, ⟨b1, b2⟩ => exact ⟨r379.trans b1, b2⟩
    | .inr _, ⟨b1, b2, b3⟩ => exact ⟨r379.trans b1, b2, b3⟩
  have hR1 : Rp false kn (tb (dnH g x dn) (48 * s)) M pN pF z nn D E L G := by rw [eT' s]; exact hR
  obtain ⟨g1, R1, A1, O1⟩ := m_workOut (r := x) S1 C1 (fun _ _ => hx) F1 hR1 hM (by omega) hz (by omega) hC1 hL (by omega) (fun _ => v4) hd
  rw [eT] at A1 O1
  have mb := m_wbegin (d := d) (r := x) S1
  have Smb : am_S (mbH (dnH g x dn) x) := S
  have n64 : ¬ nI 64 = 0 := by decide
  have p395 : am_I (dnH g x dn) 395 x = -1 := (q0 395 x (by decide) (by decide) (by decide) (by decide)).trans c
  have p381 : am_I (dnH g x dn) 381 (x / 64) = nI 0 := (q0 381 _ (by decide) (by decide) (by decide) (by decide)).trans csp
  have p369 : am_I (mbH (dnH g x dn) x) 369 x = nI s := (mb_I (by decide)).trans ((q0 369 x (by decide) (by decide) (by decide) (by decide)).trans es)
  have p356 : am_I (mbH (dnH g x dn) x) 356 s = nI nn := (mb_I (by decide)).trans ((q0 356 s (by decide) (by decide) (by decide) (by decide)).trans er)
  have go : ∀ Q, am_J (d + 1) 266 0 [some (.ref 349), some (.int (nI x))] [] g Q ↔ am_J (d + 1) 266 122 [some (.ref 349), some (.int (nI x))] [] g1 Q := fun Q => by
    rw [m_doesTo S hx hdn e]
    simp (disch := first | with_reducible assumption | omega | exact Or.inl rfl | exact Or.inr rfl | exact bI_01 | exact c_cat | exact vt_ref | exact vt_null | rfl | with_reducible repeat (first | assumption | omega | apply S_I | apply S_L | apply S_D | apply ob_I | apply ob_L | apply ob_D | apply ob_R | apply ax_I | apply ax_L | apply ax_D | apply ax_R | apply o303 | apply o307 | apply o302 | apply o301 | apply ax304 | apply ax305 | apply ax306 | apply ax308 | apply ax309 | apply ax310 | apply lt_S | apply ar305 | apply ar308 | apply ar309)) only [g266_34, g266_35, g266_38, g266_39, g266_40, g266_41, g266_44, g266_45, g266_46, g266_47, g266_49, g266_50, g266_53, g266_54, g266_55, g266_56, g266_59, g266_60, g266_61, g266_64, g266_65, g266_67, g266_68, g266_69, g266_72, g266_73, g266_74, g266_75, g266_77, g266_78, g266_79, g266_82, g266_83, g266_85, g266_86, g266_87, g266_90, g266_91, g266_92, g266_93, g266_96, g266_97, g266_98, g266_101, g266_102, g266_103, g266_104, g266_105, g266_107, g266_108, g266_109, g266_112, g266_113, g266_116, g266_117, g266_118, g266_119, Option.toList, List.nil_append, List.cons_append, va_rf, nI_ltI, nI_leI, nI_eq, nI_add, nI_sub, nI_lt0, nI_e0, nI_m1, m1_nI, Nat.reduceEqDiff, Nat.reduceLT, Nat.reduceLeDiff, Nat.reduceAdd, Nat.reduceSub, Nat.reduceMul, ↓reduceIte, eq_self, nI_div, p395, p381, p369, p356, mb _, R1 _]
  have W1 : MFr x g g1 := MFr_W dn_F A1
  have Sg1 : am_S g1 := MW_S A1 S1
  obtain ⟨f1, f2⟩ := A1.2.2.2.2.2.2.2.2.1 hx
  have w391 : am_I g1 391 x = nI 1 := (fr_rdI A1.1 (by decide)).trans v1
  have w394 : am_I g1 394 dn = nI x := (fr_rdI A1.1 (by decide)).trans v2
  have w394' : ∀ j, j ≠ dn → am_I g1 394 j = am_I g 394 j := fun j hj => (fr_rdI A1.1 (by decide)).trans (v5 j hj)
  have w81 : am_I g1 349 81 = nI (dn + 1) := (A1.2.1 81 (by omega)).trans v3
  generalize ev (fun s => tb g (48 * s)) rt cv cs 1001 s [] (x / 64) 0 nn (1000, []) = r at O1 A1 f1 f2 ⊢
  obtain ⟨o, σ⟩ := r
  match o, O1 with
  | .inl (.inl v), ⟨⟨t1, t2⟩, t3⟩ =>
    refine ⟨am_setD (am_setL (am_setI g1 365 x (nI 1)) 370 x v) 371 x (am_D g1 349 66), fun Q => ?_, MFr_D (MFr_L (MFr_I W1 (by omega) (by omega)) (Or.inl ⟨rfl, rfl⟩)) (Or.inl ⟨rfl, rfl⟩), ⟨?_, ?_⟩, ?_, ?_, fun j hj => ?_, ?_, ?_, fun i h1 h2 => ?_⟩
    · rw [go Q]
      simp (disch := first | with_reducible assumption | omega | exact Or.inl rfl | exact Or.inr rfl | exact bI_01 | exact c_cat | exact vt_ref | exact vt_null | rfl | with_reducible repeat (first | assumption | omega | apply S_I | apply S_L | apply S_D | apply ob_I | apply ob_L | apply ob_D | apply ob_R | apply ax_I | apply ax_L | apply ax_D | apply ax_R | apply o303 | apply o307 | apply o302 | apply o301 | apply ax304 | apply ax305 | apply ax306 | apply ax308 | apply ax309 | apply ax310 | apply lt_S | apply ar305 | apply ar308 | apply ar309)) only [g266_122, g266_123, g266_126, g266_129, g266_130, g266_131, g266_132, g266_135, g266_138, g266_139, g266_142, g266_143, g266_144, g266_147, g266_148, g266_151, g266_152, g266_155, g266_158, g266_161, g266_162, g266_165, g266_166, g266_167, g266_170, g266_171, g266_172, g266_175, g266_176, g266_177, g266_180, g266_181, g266_182, g266_185, g266_186, g266_187, g266_190, g266_191, Option.toList, List.nil_append, List.cons_append, va_rf, nI_ltI, nI_leI, nI_eq, nI_add, nI_sub, nI_lt0, nI_e0, nI_m1, m1_nI, Nat.reduceEqDiff, Nat.reduceLT, Nat.reduceLeDiff, Nat.reduceAdd, Nat.reduceSub, Nat.reduceMul, ↓reduceIte, eq_self, hI_I, hI_L, hI_D, hI_R, hL_I, hL_L, hL_D, hL_R, hD_I, hD_L, hD_D, hD_R, hR_I, hR_L, hR_D, ↓reduceIte, Nat.reduceEqDiff, t1, t2]
    · rw [hI_D, hI_L, rI_eq]
    · rw [hL_D, rL_eq]
    · rw [hI_D, hI_L, rI_a (by decide)]; exact w391
    · rw [hI_D, hI_L, rI_a (by decide)]; exact w394
    · rw [hI_D, hI_L, rI_a (by decide)]; exact w394' j hj
    · rw [hI_D, hI_L, rI_a (by decide)]; exact w81
    · rw [hI_D, hI_L, rI_a (by decide)]; exact f1
    · rw [hI_D, hI_L, rI_a (by decide)]; exact f2 i h1 h2
  | .inl (.inr v), ⟨⟨t1, t2, t4⟩, t3⟩ =>
    refine ⟨am_setD (am_setL (am_setI g1 365 x (nI 2)) 370 x (am_L g1 349 65)) 371 x v, fun Q => ?_, MFr_D (MFr_L (MFr_I W1 (by omega) (by omega)) (Or.inl ⟨rfl, rfl⟩)) (Or.inl ⟨rfl, rfl⟩), ⟨?_, ?_, t4⟩, ?_, ?_, fun j hj => ?_, ?_, ?_, fun i h1 h2 => ?_⟩
    · rw [go Q]
      simp (disch := first | with_reducible assumption | omega | exact Or.inl rfl | exact Or.inr rfl | exact bI_01 | exact c_cat | exact vt_ref | exact vt_null | rfl | with_reducible repeat (first | assumption | omega | apply S_I | apply S_L | apply S_D | apply ob_I | apply ob_L | apply ob_D | apply ob_R | apply ax_I | apply ax_L | apply ax_D | apply ax_R | apply o303 | apply o307 | apply o302 | apply o301 | apply ax304 | apply ax305 | apply ax306 | apply ax308 | apply ax309 | apply ax310 | apply lt_S | apply ar305 | apply ar308 | apply ar309)) only [g266_122, g266_123, g266_126, g266_129, g266_130, g266_131, g266_132, g266_135, g266_138, g266_139, g266_142, g266_143, g266_144, g266_147, g266_148, g266_151, g266_152, g266_155, g266_158, g266_161, g266_162, g266_165, g266_166, g266_167, g266_170, g266_171, g266_172, g266_175, g266_176, g266_177, g266_180, g266_181, g266_182, g266_185, g266_186, g266_187, g266_190, g266_191, Option.toList, List.nil_append, List.cons_append, va_rf, nI_ltI, nI_leI, nI_eq, nI_add, nI_sub, nI_lt0, nI_e0, nI_m1, m1_nI, Nat.reduceEqDiff, Nat.reduceLT, Nat.reduceLeDiff, Nat.reduceAdd, Nat.reduceSub, Nat.reduceMul, ↓reduceIte, eq_self, hI_I, hI_L, hI_D, hI_R, hL_I, hL_L, hL_D, hL_R, hD_I, hD_L, hD_D, hD_R, hR_I, hR_L, hR_D, ↓reduceIte, Nat.reduceEqDiff, t1, t2]
    · rw [hI_D, hI_L, rI_eq]
    · rw [rD_eq]
    · rw [hI_D, hI_L, rI_a (by decide)]; exact w391
    · rw [hI_D, hI_L, rI_a (by decide)]; exact w394
    · rw [hI_D, hI_L, rI_a (by decide)]; exact w394' j hj
    · rw [hI_D, hI_L, rI_a (by decide)]; exact w81
    · rw [hI_D, hI_L, rI_a (by decide)]; exact f1
    · rw [hI_D, hI_L, rI_a (by decide)]; exact f2 i h1 h2
  | .inr (.inl k), ⟨t1, t2, t3, t4, t5, t6⟩ =>
    have mf := m_failed (d := d) (v1 := nI 3) (v2 := nI k) (v3 := nI x) (v4 := nI 0) Sg1 hx
    obtain ⟨u1, u2, u3, u4⟩ := faM_V (g := g1) (x := x) (v1 := nI 3) (v2 := nI k) (v3 := nI x) (v4 := nI 0)
    refine ⟨faM g1 x (nI 3) (nI k) (nI x) (nI 0), fun Q => ?_, fa_F W1, ⟨u1, u2, u3, u4⟩, ?_, ?_, fun j hj => ?_, ?_, ?_, fun i h1 h2 => ?_⟩
    · rw [go Q]
      simp (disch := first | with_reducible assumption | omega | exact Or.inl rfl | exact Or.inr rfl | exact bI_01 | exact c_cat | exact vt_ref | exact vt_null | rfl | with_reducible repeat (first | assumption | omega | apply S_I | apply S_L | apply S_D | apply ob_I | apply ob_L | apply ob_D | apply ob_R | apply ax_I | apply ax_L | apply ax_D | apply ax_R | apply o303 | apply o307 | apply o302 | apply o301 | apply ax304 | apply ax305 | apply ax306 | apply ax308 | apply ax309 | apply ax310 | apply lt_S | apply ar305 | apply ar308 | apply ar309)) only [g266_122, g266_123, g266_126, g266_129, g266_130, g266_131, g266_132, g266_135, g266_138, g266_139, g266_142, g266_143, g266_144, g266_147, g266_148, g266_151, g266_152, g266_155, g266_158, g266_161, g266_162, g266_165, g266_166, g266_167, g266_170, g266_171, g266_172, g266_175, g266_176, g266_177, g266_180, g266_181, g266_182, g266_185, g266_186, g266_187, g266_190, g266_191, Option.toList, List.nil_append, List.cons_append, va_rf, nI_ltI, nI_leI, nI_eq, nI_add, nI_sub, nI_lt0, nI_e0, nI_m1, m1_nI, Nat.reduceEqDiff, Nat.reduceLT, Nat.reduceLeDiff, Nat.reduceAdd, Nat.reduceSub, Nat.reduceMul, ↓reduceIte, eq_self, t1, t2, t3, t4, t5, mf _]
    · rw [faM_o (by decide)]; exact w391
    · rw [faM_o (by decide)]; exact w394
    · rw [faM_o (by decide)]; exact w394' j hj
    · rw [faM_o (by decide)]; exact w81
    · rw [faM_o (by decide)]; exact f1
    · rw [faM_o (by decide)]; exact f2 i h1 h2
  | .inr (.inr c'), ⟨t1, t2, t3, t4, t5, t6⟩ =>
    have mf := m_failed (d := d) (v1 := nI 5) (v2 := am_I (dnH g x dn) 366 c') (v3 := am_I (dnH g x dn) 367 c') (v4 := am_I (dnH g x dn) 368 c') Sg1 hx
    obtain ⟨u1, u2, u3, u4⟩ := faM_V (g := g1) (x := x) (v1 := nI 5) (v2 := am_I (dnH g x dn) 366 c') (v3 := am_I (dnH g x dn) 367 c') (v4 := am_I (dnH g x dn) 368 c')
    refine ⟨faM g1 x (nI 5) (am_I (dnH g x dn) 366 c') (am_I (dnH g x dn) 367 c') (am_I (dnH g x dn) 368 c'), fun Q => ?_, fa_F W1, ⟨u1, u2.trans (q0 366 c' (by decide) (by decide) (by decide) (by decide)), u3.trans (q0 367 c' (by decide) (by decide) (by decide) (by decide)), u4.trans (q0 368 c' (by decide) (by decide) (by decide) (by decide))⟩, ?_, ?_, fun j hj => ?_, ?_, ?_, fun i h1 h2 => ?_⟩
    · rw [go Q]
      simp (disch := first | with_reducible assumption | omega | exact Or.inl rfl | exact Or.inr rfl | exact bI_01 | exact c_cat | exact vt_ref | exact vt_null | rfl | with_reducible repeat (first | assumption | omega | apply S_I | apply S_L | apply S_D | apply ob_I | apply ob_L | apply ob_D | apply ob_R | apply ax_I | apply ax_L | apply ax_D | apply ax_R | apply o303 | apply o307 | apply o302 | apply o301 | apply ax304 | apply ax305 | apply ax306 | apply ax308 | apply ax309 | apply ax310 | apply lt_S | apply ar305 | apply ar308 | apply ar309)) only [g266_122, g266_123, g266_126, g266_129, g266_130, g266_131, g266_132, g266_135, g266_138, g266_139, g266_142, g266_143, g266_144, g266_147, g266_148, g266_151, g266_152, g266_155, g266_158, g266_161, g266_162, g266_165, g266_166, g266_167, g266_170, g266_171, g266_172, g266_175, g266_176, g266_177, g266_180, g266_181, g266_182, g266_185, g266_186, g266_187, g266_190, g266_191, Option.toList, List.nil_append, List.cons_append, va_rf, nI_ltI, nI_leI, nI_eq, nI_add, nI_sub, nI_lt0, nI_e0, nI_m1, m1_nI, Nat.reduceEqDiff, Nat.reduceLT, Nat.reduceLeDiff, Nat.reduceAdd, Nat.reduceSub, Nat.reduceMul, ↓reduceIte, eq_self, t1, t2, t3, t4, t5, mf _]
    · rw [faM_o (by decide)]; exact w391
    · rw [faM_o (by decide)]; exact w394
    · rw [faM_o (by decide)]; exact w394' j hj
    · rw [faM_o (by decide)]; exact w81
    · rw [faM_o (by decide)]; exact f1
    · rw [faM_o (by decide)]; exact f2 i h1 h2
end MDO

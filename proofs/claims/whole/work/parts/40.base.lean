/-! BASE: runs, frames, reading -/
def am_run (d mi : Nat) (ls : am_Lo) (h : am_H) (r : Option Value) (h' : am_H) : Prop := ∀ Q : Option Value → am_H → Prop, am_J d mi 0 ls [] h Q ↔ Q r h'
theorem am_det {n n' d mi pc : Nat} {ls : am_Lo} {st : List Value} {h : am_H} {x y : Option Value × am_H} (h1 : am n d mi pc ls st h = some x) (h2 : am n' d mi pc ls st h = some y) : x = y := by
  have e1 := am_more' (Nat.le_max_left n n') h1
  have e2 := am_more' (Nat.le_max_right n n') h2
  exact Option.some.inj (e1.symm.trans e2)
theorem am_run_of {d mi : Nat} {ls : am_Lo} {h h' : am_H} {r : Option Value} (hJ : am_J d mi 0 ls [] h (fun r' h'' => r' = r ∧ h'' = h')) : am_run d mi ls h r h' := by
  obtain ⟨n, r', h'', ha, rfl, rfl⟩ := hJ
  intro Q
  constructor
  · rintro ⟨n2, r2, h2, ha2, hq⟩
    cases am_det ha ha2
    exact hq
  · intro hq
    exact ⟨n, _, _, ha, hq⟩
theorem am_run_fun {d mi : Nat} {ls : am_Lo} {h h1 h2 : am_H} {r1 r2 : Option Value} (R1 : am_run d mi ls h r1 h1) (R2 : am_run d mi ls h r2 h2) : r1 = r2 ∧ h1 = h2 := by
  have := (R2 (fun r h' => r = r1 ∧ h' = h1)).mp ((R1 _).mpr ⟨rfl, rfl⟩)
  exact ⟨this.1.symm, this.2.symm⟩
/-- frames: nothing outside P has changed, no reference, no tag, no size -/
def am_fr (P : Nat → Prop) (h h' : am_H) : Prop := h'.1 = h.1 ∧ h'.2.1 = h.2.1 ∧ am_tg h' = am_tg h ∧ am_R h' = am_R h ∧ ∀ a, ¬ P a → ∀ k, am_I h' a k = am_I h a k ∧ am_L h' a k = am_L h a k ∧ am_D h' a k = am_D h a k
section FRS
variable {P P' : Nat → Prop} {h g g' : am_H} {a b k j c kd q : Nat}
theorem fr_refl : am_fr P h h := ⟨rfl, rfl, rfl, rfl, fun _ _ _ => ⟨rfl, rfl, rfl⟩⟩
theorem fr_trans (F : am_fr P h g) (G : am_fr P g g') : am_fr P h g' := ⟨G.1.trans F.1, G.2.1.trans F.2.1, G.2.2.1.trans F.2.2.1, G.2.2.2.1.trans F.2.2.2.1, fun a ha k => ⟨(G.2.2.2.2 a ha k).1.trans (F.2.2.2.2 a ha k).1, (G.2.2.2.2 a ha k).2.1.trans (F.2.2.2.2 a ha k).2.1, (G.2.2.2.2 a ha k).2.2.trans (F.2.2.2.2 a ha k).2.2⟩⟩
theorem fr_mono (hP : ∀ a, P a → P' a) (F : am_fr P h g) : am_fr P' h g := ⟨F.1, F.2.1, F.2.2.1, F.2.2.2.1, fun a ha k => F.2.2.2.2 a (fun q => ha (hP a q)) k⟩
theorem fr_I {x : Int32} (F : am_fr P h g) (hP : P a) : am_fr P h (am_setI g a k x) := ⟨F.1, F.2.1, F.2.2.1, F.2.2.2.1, fun b hb j => ⟨by rw [hI_I, if_neg (fun q => hb (by rw [q]; exact hP))]; exact (F.2.2.2.2 b hb j).1, (F.2.2.2.2 b hb j).2⟩⟩
theorem fr_L {x : Int64} (F : am_fr P h g) (hP : P a) : am_fr P h (am_setL g a k x) := ⟨F.1, F.2.1, F.2.2.1, F.2.2.2.1, fun b hb j => ⟨(F.2.2.2.2 b hb j).1, by rw [hL_L, if_neg (fun q => hb (by rw [q]; exact hP))]; exact (F.2.2.2.2 b hb j).2.1, (F.2.2.2.2 b hb j).2.2⟩⟩
theorem fr_D {x : UInt64} (F : am_fr P h g) (hP : P a) : am_fr P h (am_setD g a k x) := ⟨F.1, F.2.1, F.2.2.1, F.2.2.2.1, fun b hb j => ⟨(F.2.2.2.2 b hb j).1, (F.2.2.2.2 b hb j).2.1, by rw [hD_D, if_neg (fun q => hb (by rw [q]; exact hP))]; exact (F.2.2.2.2 b hb j).2.2⟩⟩
theorem fr_1 (F : am_fr P h g) : g.1 = h.1 := F.1
theorem fr_rdI (F : am_fr P h g) (hb : ¬ P b) : am_I g b j = am_I h b j := (F.2.2.2.2 b hb j).1
theorem fr_rdL (F : am_fr P h g) (hb : ¬ P b) : am_L g b j = am_L h b j := (F.2.2.2.2 b hb j).2.1
theorem fr_rdD (F : am_fr P h g) (hb : ¬ P b) : am_D g b j = am_D h b j := (F.2.2.2.2 b hb j).2.2
theorem fr_rdR (F : am_fr P h g) : am_R g b j = am_R h b j := congrFun (congrFun F.2.2.2.1 b) j
theorem fr_tg (F : am_fr P h g) : am_tg g b = am_tg h b := congrFun F.2.2.1 b
theorem fr_S (F : am_fr P h g) (S : am_S h) : am_S g := by
  unfold am_S at S ⊢
  rw [F.1, F.2.2.1, F.2.2.2.1]
  exact S
theorem fr_ob (F : am_fr P h g) (O : am_ob h a c) : am_ob g a c := ⟨by rw [F.1]; exact O.1, by rw [fr_tg F]; exact O.2⟩
theorem fr_ax (F : am_fr P h g) (X : am_ax h a kd q) : am_ax g a kd q := ⟨by rw [F.1]; exact X.1, by rw [fr_tg F]; exact X.2.1, by rw [fr_tg F]; exact X.2.2.1, X.2.2.2⟩
theorem S_I {x : Int32} (S : am_S h) : am_S (am_setI h a k x) := S
theorem S_L {x : Int64} (S : am_S h) : am_S (am_setL h a k x) := S
theorem S_D {x : UInt64} (S : am_S h) : am_S (am_setD h a k x) := S
theorem rI_eq {x : Int32} : am_I (am_setI h a k x) a k = x := by rw [hI_I, if_pos rfl, if_pos rfl]
theorem rI_k {x : Int32} (hj : j ≠ k) : am_I (am_setI h a k x) a j = am_I h a j := by rw [hI_I, if_pos rfl, if_neg hj]
theorem rI_a {x : Int32} (hb : b ≠ a) : am_I (am_setI h a k x) b j = am_I h b j := by rw [hI_I, if_neg hb]
theorem rL_eq {x : Int64} : am_L (am_setL h a k x) a k = x := by rw [hL_L, if_pos rfl, if_pos rfl]
theorem rL_k {x : Int64} (hj : j ≠ k) : am_L (am_setL h a k x) a j = am_L h a j := by rw [hL_L, if_pos rfl, if_neg hj]
theorem rL_a {x : Int64} (hb : b ≠ a) : am_L (am_setL h a k x) b j = am_L h b j := by rw [hL_L, if_neg hb]
theorem rD_eq {x : UInt64} : am_D (am_setD h a k x) a k = x := by rw [hD_D, if_pos rfl, if_pos rfl]
theorem rD_k {x : UInt64} (hj : j ≠ k) : am_D (am_setD h a k x) a j = am_D h a j := by rw [hD_D, if_pos rfl, if_neg hj]
theorem rD_a {x : UInt64} (hb : b ≠ a) : am_D (am_setD h a k x) b j = am_D h b j := by rw [hD_D, if_neg hb]
end FRS
/-- where the class's parser writes; where the model writes -/
def rX (a : Nat) : Prop := 301 ≤ a ∧ a ≤ 310
def rM (a : Nat) : Prop := 349 ≤ a ∧ a ≤ 401
theorem nI_sub {a b : Nat} (h : b ≤ a) : nI a - nI b = nI (a - b) := by
  obtain ⟨c, rfl⟩ : ∃ c, a = b + c := ⟨a - b, by omega⟩
  rw [show b + c - b = c by omega, ← nI_add]
  apply Int32.toBitVec_inj.mp
  rw [Int32.toBitVec_sub, Int32.toBitVec_add, BitVec.add_comm, BitVec.add_sub_cancel]
theorem nI_m1lt {a : Nat} (h : a < 2 ^ 31) : (-1 : Int32) < nI a := by
  rw [Int32.lt_iff_toInt_lt, nI_toInt h]
  have : (-1 : Int32).toInt = -1 := by decide
  omega
theorem nI_nem1 {a : Nat} (h : a < 2 ^ 31) : ¬ nI a = -1 := by
  intro e
  have := congrArg Int32.toInt e
  rw [nI_toInt h] at this
  have h2 : (-1 : Int32).toInt = -1 := by decide
  omega
/-- a byte as the class keeps it -/
def by8 (k : Nat) : Int32 := (nI k).toInt8.toInt32
set_option maxRecDepth 10000 in
theorem by8_and : ∀ k, k < 256 → by8 k &&& nI 255 = nI k := by decide +kernel
set_option maxRecDepth 10000 in
theorem by8_lo : ∀ k, k < 128 → by8 k = nI k := by decide +kernel
set_option maxRecDepth 10000 in
theorem by8_hi : ∀ k, k < 256 → 128 ≤ k → by8 k < nI 0 := by decide +kernel
section COL
variable {h : am_H} {a k b j c kd q : Nat}
theorem setI_setI {x y : Int32} : am_setI (am_setI h a k x) a k y = am_setI h a k y := by
  have e : am_u (am_u h.2.2.2.1 a k x) a k y = am_u h.2.2.2.1 a k y := by
    funext b j; unfold am_u
    by_cases h1 : b = a
    · by_cases h2 : j = k <;> simp [h1, h2]
    · simp [h1]
  show (h.1, h.2.1, h.2.2.1, am_u (am_u h.2.2.2.1 a k x) a k y, _) = _
  rw [e]; rfl
theorem setL_setL {x y : Int64} : am_setL (am_setL h a k x) a k y = am_setL h a k y := by
  have e : am_u (am_u h.2.2.2.2.1 a k x) a k y = am_u h.2.2.2.2.1 a k y := by
    funext b j; unfold am_u
    by_cases h1 : b = a
    · by_cases h2 : j = k <;> simp [h1, h2]
    · simp [h1]
  show (h.1, h.2.1, h.2.2.1, h.2.2.2.1, am_u (am_u h.2.2.2.2.1 a k x) a k y, _) = _
  rw [e]; rfl
theorem setI_same {x : Int32} (hx : am_I h a k = x) : am_setI h a k x = h := by
  have e : am_u h.2.2.2.1 a k x = h.2.2.2.1 := by
    funext b j; unfold am_u
    by_cases h1 : b = a
    · by_cases h2 : j = k
      · subst h1; subst h2; simp; exact hx.symm
      · simp [h2]
    · simp [h1]
  show (h.1, h.2.1, h.2.2.1, am_u h.2.2.2.1 a k x, _) = _
  rw [e]
theorem setL_same {x : Int64} (hx : am_L h a k = x) : am_setL h a k x = h := by
  have e : am_u h.2.2.2.2.1 a k x = h.2.2.2.2.1 := by
    funext b j; unfold am_u
    by_cases h1 : b = a
    · by_cases h2 : j = k
      · subst h1; subst h2; simp; exact hx.symm
      · simp [h2]
    · simp [h1]
  show (h.1, h.2.1, h.2.2.1, h.2.2.2.1, am_u h.2.2.2.2.1 a k x, _) = _
  rw [e]
theorem setL_setI {x : Int32} {y : Int64} : am_setL (am_setI h a k x) b j y = am_setI (am_setL h b j y) a k x := rfl
theorem ob_I {x : Int32} (O : am_ob h b c) : am_ob (am_setI h a k x) b c := O
theorem ob_L {x : Int64} (O : am_ob h b c) : am_ob (am_setL h a k x) b c := O
theorem ob_D {x : UInt64} (O : am_ob h b c) : am_ob (am_setD h a k x) b c := O
theorem ob_R {x : Option Nat} (O : am_ob h b c) : am_ob (am_setR h a k x) b c := O
theorem ax_I {x : Int32} (O : am_ax h b kd q) : am_ax (am_setI h a k x) b kd q := O
theorem ax_L {x : Int64} (O : am_ax h b kd q) : am_ax (am_setL h a k x) b kd q := O
theorem ax_D {x : UInt64} (O : am_ax h b kd q) : am_ax (am_setD h a k x) b kd q := O
theorem ax_R {x : Option Nat} (O : am_ax h b kd q) : am_ax (am_setR h a k x) b kd q := O
theorem nI_lt0 {n : Nat} (h : n < 2 ^ 31) : (nI n < 0) = False := eq_false (nI_pos h)
theorem nI_ltn0 {n : Nat} (h : n < 2 ^ 31) : (nI n < nI 0) = False := eq_false (nI_nlt (Nat.zero_le _) h)
theorem m1_nI {n : Nat} (h : n < 2 ^ 31) : ((-1 : Int32) = nI n) = False := eq_false (fun e => nI_nem1 h e.symm)
theorem nI_m1 {n : Nat} (h : n < 2 ^ 31) : (nI n = (-1 : Int32)) = False := eq_false (nI_nem1 h)
theorem nI_le_m1 {n : Nat} (h : n < 2 ^ 31) : (nI n ≤ (-1 : Int32)) = False := eq_false (by
  rw [Int32.le_iff_toInt_le, nI_toInt h]
  have : (-1 : Int32).toInt = -1 := by decide
  omega)
theorem m1_lt_nI {n : Nat} (h : n < 2 ^ 31) : ((-1 : Int32) < nI n) = True := eq_true (nI_m1lt h)
theorem nI_lt_m1 {n : Nat} (h : n < 2 ^ 31) : (nI n < (-1 : Int32)) = False := eq_false (by
  rw [Int32.lt_iff_toInt_lt, nI_toInt h]
  have : (-1 : Int32).toInt = -1 := by decide
  omega)
theorem m1_le_nI {n : Nat} (h : n < 2 ^ 31) : ((-1 : Int32) ≤ nI n) = True := eq_true (by
  rw [Int32.le_iff_toInt_le, nI_toInt h]
  have : (-1 : Int32).toInt = -1 := by decide
  omega)
theorem nI_e0 {n : Nat} (h : n < 2 ^ 31) : (nI n = 0) = (n = 0) := propext (by
  rw [← nI_0]; exact nI_eq h (by decide))
end COL
def bI (b : Bool) : Int32 := if b = true then nI 1 else nI 0
theorem bI_z {b : Bool} : (bI b = 0) = (b = false) := by cases b <;> decide
theorem bI_t : bI true = nI 1 := rfl
theorem bI_f : bI false = nI 0 := rfl
theorem bI_01 {b : Bool} : bI b = nI 0 ∨ bI b = nI 1 := by cases b <;> simp [bI]

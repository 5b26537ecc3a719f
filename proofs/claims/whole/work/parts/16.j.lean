/-! J: am's run from a frame comes to an end with Q; rows that walk it -/
theorem am_more : ∀ (n d mi pc : Nat) (ls : am_Lo) (st : List Value) (h : am_H) (x : Option Value × am_H), am n d mi pc ls st h = some x → am (n + 1) d mi pc ls st h = some x := by
  intro n
  induction n with
  | zero => intro d mi pc ls st h x ha; cases ha
  | succ n ih =>
    intro d mi pc ls st h x ha
    unfold am at ha ⊢
    split at ha
    · cases ha
    · split at ha
      · cases ha
      · split at ha
        · exact ha
        · split at ha
          · split at ha
            next hl => rw [if_pos hl]; exact ih _ _ _ _ _ _ _ ha
            next => cases ha
          · split at ha
            · exact ih _ _ _ _ _ _ _ ha
            · split at ha
              · split at ha
                next hl => rw [if_pos hl]; exact ih _ _ _ _ _ _ _ ha
                next => cases ha
              · split at ha
                · split at ha
                  next hl => rw [if_pos hl]; exact ih _ _ _ _ _ _ _ ha
                  next => cases ha
                · split at ha
                  · split at ha
                    · cases ha
                    · split at ha
                      · rename_i hh
                        have := ih _ _ _ _ _ _ _ hh
                        rw [this]
                        split at ha
                        next hl => simp only [if_pos hl]; exact ih _ _ _ _ _ _ _ ha
                        next => cases ha
                      · cases ha
                  · cases ha
theorem am_more' {n k d mi pc : Nat} {ls : am_Lo} {st : List Value} {h : am_H} {x : Option Value × am_H} (hk : n ≤ k) (ha : am n d mi pc ls st h = some x) : am k d mi pc ls st h = some x := by
  induction hk with
  | refl => exact ha
  | step _ ih => exact am_more _ _ _ _ _ _ _ _ ih
def am_at (mi pc : Nat) : Option (Instr × Nat) := match am_mt[mi]? with
  | some e => (match decode e.2.2.2.1 pc with | .ok x => some x | .error _ => none)
  | none => none
/-- owner, is it a constructor, what it returns -/
def am_me (mi : Nat) : Nat × Bool × Option FieldType × Nat := match am_mt[mi]? with
  | some e => (e.1, e.2.1 == "<init>", e.2.2.2.2.2, e.2.2.2.2.1)
  | none => (0, false, none, 0)
def am_J (d mi pc : Nat) (ls : am_Lo) (st : List Value) (h : am_H) (Q : Option Value → am_H → Prop) : Prop := ∃ n r h', am n d mi pc ls st h = some (r, h') ∧ Q r h'
theorem am_at_inv {mi pc : Nat} {i : Instr} {len : Nat} (A : am_at mi pc = some (i, len)) : ∃ e, am_mt[mi]? = some e ∧ decode e.2.2.2.1 pc = .ok (i, len) ∧ am_me mi = (e.1, e.2.1 == "<init>", e.2.2.2.2.2, e.2.2.2.2.1) := by
  unfold am_at at A
  split at A
  · rename_i e he
    split at A
    · rename_i x hx
      cases A
      exact ⟨e, he, hx, by unfold am_me; rw [he]⟩
    · cases A
  · cases A
section AMJ
variable {d mi pc : Nat} {ls ls' : am_Lo} {st st' : List Value} {h h' : am_H} {Q : Option Value → am_H → Prop} {i : Instr} {len k : Nat}
theorem j_rt (A : am_at mi pc = some (i, 1)) {r : Option Value} (hr : am_rt (am_me mi).2.2.1 i st = some r) : am_J d mi pc ls st h Q ↔ Q r h := by
  obtain ⟨e, he, hd, hm⟩ := am_at_inv A
  rw [hm] at hr
  have key : ∀ n, am (n + 1) d mi pc ls st h = some (r, h) := by
    intro n; unfold am; simp only [he, hd, hr, if_true]
  constructor
  · rintro ⟨n, r', h', ha, hq⟩
    have := am_more' (Nat.le_succ n) ha
    rw [key] at this
    cases this
    exact hq
  · intro hq
    exact ⟨1, r, h, key 0, hq⟩
/-- one step that isn't a call -/
theorem j_step {pc' : Nat} (key : ∀ n, am (n + 1) d mi pc ls st h = am n d mi pc' ls' st' h') : am_J d mi pc ls st h Q ↔ am_J d mi pc' ls' st' h' Q := by
  constructor
  · rintro ⟨n, r, h2, ha, hq⟩
    cases n with
    | zero => cases ha
    | succ n => rw [key] at ha; exact ⟨n, r, h2, ha, hq⟩
  · rintro ⟨n, r, h2, ha, hq⟩
    exact ⟨n + 1, r, h2, by rw [key]; exact ha, hq⟩
theorem j_ps (A : am_at mi pc = some (i, k)) (h0 : ∀ ret, am_rt ret i st = none) (hp : am_ps i st = some (k, st')) : am_J d mi pc ls st h Q ↔ am_J d mi (pc + k) ls st' h Q := by
  obtain ⟨e, he, hd, hm⟩ := am_at_inv A
  refine j_step fun n => ?_
  conv => lhs; unfold am
  simp only [he, hd, h0, hp, if_true]
theorem j_br (A : am_at mi pc = some (i, len)) (h0 : ∀ ret, am_rt ret i st = none) (h1 : am_ps i st = none) {t : Nat} (hp : am_br i pc len st = some (t, st')) : am_J d mi pc ls st h Q ↔ am_J d mi t ls st' h Q := by
  obtain ⟨e, he, hd, hm⟩ := am_at_inv A
  refine j_step fun n => ?_
  conv => lhs; unfold am
  simp only [he, hd, h0, h1, hp]
theorem j_lc (A : am_at mi pc = some (i, k)) (h0 : ∀ ret, am_rt ret i st = none) (h1 : am_ps i st = none) (h2 : am_br i pc k st = none) (hp : am_lc i ls st = some (k, ls', st')) : am_J d mi pc ls st h Q ↔ am_J d mi (pc + k) ls' st' h Q := by
  obtain ⟨e, he, hd, hm⟩ := am_at_inv A
  refine j_step fun n => ?_
  conv => lhs; unfold am
  simp only [he, hd, h0, h1, h2, hp, if_true]
theorem j_hp (A : am_at mi pc = some (i, k)) (h0 : ∀ ret, am_rt ret i st = none) (h1 : am_ps i st = none) (h2 : am_br i pc k st = none) (h3 : am_lc i ls st = none) (hp : am_hp (am_me mi).1 (am_me mi).2.1 d i st h = some (k, st', h')) : am_J d mi pc ls st h Q ↔ am_J d mi (pc + k) ls st' h' Q := by
  obtain ⟨e, he, hd, hm⟩ := am_at_inv A
  rw [hm] at hp
  refine j_step fun n => ?_
  conv => lhs; unfold am
  simp only [he, hd, h0, h1, h2, h3, hp, if_true]
theorem j_cl (A : am_at mi pc = some (i, 3)) (h0 : ∀ ret, am_rt ret i st = none) (h1 : am_ps i st = none) (h2 : am_br i pc 3 st = none) (h3 : am_lc i ls st = none) (h4 : am_hp (am_me mi).1 (am_me mi).2.1 d i st h = none) {mj : Nat} {as rest : List Value} (hp : am_cl (am_me mi).1 d i st h = some (mj, as, rest)) (hj : mj < 285) :
    am_J d mi pc ls st h Q ↔ am_J (d - 1) mj 0 (am_en (am_me mj).2.2.2 as) [] h (fun r h' => am_J d mi (pc + 3) ls (r.toList ++ rest) h' Q) := by
  obtain ⟨e, he, hd, hm⟩ := am_at_inv A
  rw [hm] at hp h4
  have hlen : am_mt.length = 285 := by decide +kernel
  obtain ⟨e', he'⟩ : ∃ e', am_mt[mj]? = some e' := ⟨am_mt[mj]'(by omega), List.getElem?_eq_getElem (by omega)⟩
  have hm' : (am_me mj).2.2.2 = e'.2.2.2.2.1 := by unfold am_me; rw [he']
  rw [hm']
  have key : ∀ n, am (n + 1) d mi pc ls st h = (match am n (d - 1) mj 0 (am_en e'.2.2.2.2.1 as) [] h with
      | some (r, h') => am n d mi (pc + 3) ls (r.toList ++ rest) h'
      | none => none) := by
    intro n
    conv => lhs; unfold am
    simp only [he, hd, h0, h1, h2, h3, h4, hp, he', if_true]
    rfl
  constructor
  · rintro ⟨n, r, h2, ha, hq⟩
    cases n with
    | zero => cases ha
    | succ n =>
      rw [key] at ha
      split at ha
      · rename_i r1 h1 hh
        exact ⟨n, r1, h1, hh, n, r, h2, ha, hq⟩
      · cases ha
  · rintro ⟨n, r1, h1, hh, n2, r, h2, ha, hq⟩
    refine ⟨max n n2 + 1, r, h2, ?_, hq⟩
    rw [key, am_more' (Nat.le_max_left n n2) hh]
    exact am_more' (Nat.le_max_right n n2) ha
theorem j_mono {Q' : Option Value → am_H → Prop} (hJ : am_J d mi pc ls st h Q) (hQ : ∀ r h', Q r h' → Q' r h') : am_J d mi pc ls st h Q' := by
  obtain ⟨n, r, h', ha, hq⟩ := hJ
  exact ⟨n, r, h', ha, hQ r h' hq⟩
/-! by kinds of instruction -/
def am_ob (h : am_H) (a c : Nat) : Prop := a < h.1 ∧ (am_tg h a).1 = c
def am_ax (h : am_H) (a kd q : Nat) : Prop := a < h.1 ∧ (am_tg h a).1 = kd ∧ q < (am_tg h a).2 ∧ q < 2 ^ 31
theorem j_goto {off : Int} {t : Nat} (A : am_at mi pc = some (.goto off, 3)) (ht : am_tg? pc off = some t) : am_J d mi pc ls st h Q ↔ am_J d mi t ls st h Q :=
  j_br (st' := st) A (fun _ => rfl) rfl (by simp only [am_br, va_rf, ht, if_true, Option.map_some])
theorem j_if {c : Jvm.ClassFile.Cond} {off : Int} {t : Nat} {x : Int32} {P : Prop} [Decidable P] (A : am_at mi pc = some (.ifCond c off, 3)) (ht : am_tg? pc off = some t) (hP : am_cx c x 0 = decide P) : am_J d mi pc ls (.int x :: st) h Q ↔ (if P then am_J d mi t ls st h Q else am_J d mi (pc + 3) ls st h Q) := by
  rw [j_br (st' := st) (t := if am_cx c x 0 = true then t else pc + 3) A (fun _ => rfl) rfl (by simp only [am_br, va_rf, ht, if_true, Option.map_some]), hP]
  by_cases hp : P
  · rw [if_pos (decide_eq_true hp), if_pos hp]
  · rw [if_neg (fun q => hp (of_decide_eq_true q)), if_neg hp]
theorem j_ic {c : Jvm.ClassFile.Cond} {off : Int} {t : Nat} {x y : Int32} {P : Prop} [Decidable P] (A : am_at mi pc = some (.if_icmp c off, 3)) (ht : am_tg? pc off = some t) (hP : am_cx c x y = decide P) : am_J d mi pc ls (.int y :: .int x :: st) h Q ↔ (if P then am_J d mi t ls st h Q else am_J d mi (pc + 3) ls st h Q) := by
  rw [j_br (st' := st) (t := if am_cx c x y = true then t else pc + 3) A (fun _ => rfl) rfl (by simp only [am_br, va_rf, ht, if_true, Option.map_some]), hP]
  by_cases hp : P
  · rw [if_pos (decide_eq_true hp), if_pos hp]
  · rw [if_neg (fun q => hp (of_decide_eq_true q)), if_neg hp]
theorem j_ifN {off : Int} {t : Nat} {x : Int32} (A : am_at mi pc = some (.ifCond .ne off, 3)) (ht : am_tg? pc off = some t) : am_J d mi pc ls (.int x :: st) h Q ↔ (if x = 0 then am_J d mi (pc + 3) ls st h Q else am_J d mi t ls st h Q) := by
  rw [j_if (P := ¬ x = 0) A ht rfl]
  by_cases hp : x = 0
  · rw [if_neg (fun q => q hp), if_pos hp]
  · rw [if_pos hp, if_neg hp]
theorem j_icN {off : Int} {t : Nat} {x y : Int32} (A : am_at mi pc = some (.if_icmp .ne off, 3)) (ht : am_tg? pc off = some t) : am_J d mi pc ls (.int y :: .int x :: st) h Q ↔ (if x = y then am_J d mi (pc + 3) ls st h Q else am_J d mi t ls st h Q) := by
  rw [j_ic (P := ¬ x = y) A ht rfl]
  by_cases hp : x = y
  · rw [if_neg (fun q => q hp), if_pos hp]
  · rw [if_pos hp, if_neg hp]
/-- a reference by its being null -/
def am_isn (v : Value) : Prop := v = .null
theorem j_ifnull {off : Int} {t : Nat} {r : Option Nat} (A : am_at mi pc = some (.ifnull off, 3)) (ht : am_tg? pc off = some t) : am_J d mi pc ls (va_rf r :: st) h Q ↔ (if r = none then am_J d mi t ls st h Q else am_J d mi (pc + 3) ls st h Q) := by
  cases r with
  | none => rw [if_pos rfl]; exact j_br (st' := st) A (fun _ => rfl) rfl (by simp only [am_br, va_rf, ht, if_true, Option.map_some])
  | some a => rw [if_neg (by intro q; cases q)]; exact j_br (st' := st) A (fun _ => rfl) rfl (by simp only [am_br, va_rf, if_true])
theorem j_ifnonnull {off : Int} {t : Nat} {r : Option Nat} (A : am_at mi pc = some (.ifnonnull off, 3)) (ht : am_tg? pc off = some t) : am_J d mi pc ls (va_rf r :: st) h Q ↔ (if r = none then am_J d mi (pc + 3) ls st h Q else am_J d mi t ls st h Q) := by
  cases r with
  | none => rw [if_pos rfl]; exact j_br (st' := st) A (fun _ => rfl) rfl (by simp only [am_br, va_rf, if_true])
  | some a => rw [if_neg (by intro q; cases q)]; exact j_br (st' := st) A (fun _ => rfl) rfl (by simp only [am_br, va_rf, ht, if_true, Option.map_some])
theorem j_get {idx a c k : Nat} {v : Value} (A : am_at mi pc = some (.getfield idx, 3)) (F : am_fkf (am_me mi).1 idx = some (c, k)) (hc : c < 100) (hk : k < am_nF c) (hv : am_val (am_fT c k) h a k = v) (O : am_ob h a c) : am_J d mi pc ls (.ref a :: st) h Q ↔ am_J d mi (pc + 3) ls (v :: st) h Q := by
  refine j_hp A (fun _ => rfl) rfl rfl rfl ?_
  unfold am_hp
  simp only [F]
  rw [if_pos ⟨O.1, O.2, hc, hk⟩, hv]
theorem j_put {idx a c k : Nat} {v : Value} {h1 : am_H} (A : am_at mi pc = some (.putfield idx, 3)) (F : am_fkf (am_me mi).1 idx = some (c, k)) (hc : c < 100) (hk : k < am_nF c) (hf : (am_T c k).2.2.2 = false ∨ ((am_me mi).2.1 = true ∧ (am_me mi).1 = c)) (hv : am_put (am_fT c k) h a k v = some h1) (O : am_ob h a c) (ha : 4 ≤ a) : am_J d mi pc ls (v :: .ref a :: st) h Q ↔ am_J d mi (pc + 3) ls st h1 Q := by
  refine j_hp A (fun _ => rfl) rfl rfl rfl ?_
  unfold am_hp
  simp only [F]
  rw [if_pos ⟨O.1, ha, O.2, hc, hk, hf⟩, hv]
  rfl
theorem am_nI_ok {q : Nat} (hq : q < 2 ^ 31) : ¬ nI q < 0 ∧ (nI q).toNatClampNeg = q := ⟨nI_pos hq, nI_clamp hq⟩
theorem am_ax_ok {a kd q : Nat} (X : am_ax h a kd q) (hk : 100 ≤ kd) : am_ok h a (nI q) = true := by
  obtain ⟨x1, x2, x3, x4⟩ := X
  unfold am_ok
  simp only [Bool.and_eq_true, decide_eq_true_eq]
  obtain ⟨y1, y2⟩ := am_nI_ok x4
  exact ⟨⟨⟨x1, by rw [x2]; exact hk⟩, y1⟩, by rw [y2]; exact x3⟩
theorem j_ald {a kd q : Nat} {v : Value} {tys : List FieldType} (A : am_at mi pc = some (i, 1)) (ht : (i = .iaload ∧ tys = [.int]) ∨ (i = .laload ∧ tys = [.long]) ∨ (i = .daload ∧ tys = [.double]) ∨ (i = .baload ∧ tys = [.byte, .boolean])) (hk : 100 ≤ kd) (hty : am_aT kd ∈ tys) (hv : am_val (am_aT kd) h a q = v) (X : am_ax h a kd q) : am_J d mi pc ls (.int (nI q) :: .ref a :: st) h Q ↔ am_J d mi (pc + 1) ls (v :: st) h Q := by
  have e : am_al tys (.int (nI q) :: .ref a :: st) h = some (1, v :: st, h) := by
    unfold am_al
    simp only
    rw [if_pos ⟨am_ax_ok X hk, by rw [X.2.1]; exact hty⟩, X.2.1, (am_nI_ok X.2.2.2).2, hv]
  rcases ht with ⟨rfl, rfl⟩ | ⟨rfl, rfl⟩ | ⟨rfl, rfl⟩ | ⟨rfl, rfl⟩ <;> exact j_hp A (fun _ => rfl) rfl rfl rfl e
theorem j_ast {a kd q : Nat} {v : Value} {tys : List FieldType} {h1 : am_H} (A : am_at mi pc = some (i, 1)) (ht : (i = .iastore ∧ tys = [.int]) ∨ (i = .lastore ∧ tys = [.long]) ∨ (i = .dastore ∧ tys = [.double]) ∨ (i = .bastore ∧ tys = [.byte, .boolean])) (hk : 100 ≤ kd) (hty : am_aT kd ∈ tys) (hv : am_pu (am_aT kd) h a q v = some h1) (X : am_ax h a kd q) (ha : 4 ≤ a) : am_J d mi pc ls (v :: .int (nI q) :: .ref a :: st) h Q ↔ am_J d mi (pc + 1) ls st h1 Q := by
  have e : am_as tys (v :: .int (nI q) :: .ref a :: st) h = some (1, st, h1) := by
    unfold am_as
    simp only
    rw [if_pos ⟨am_ax_ok X hk, ha, by rw [X.2.1]; exact hty⟩, X.2.1, (am_nI_ok X.2.2.2).2, hv]
    rfl
  rcases ht with ⟨rfl, rfl⟩ | ⟨rfl, rfl⟩ | ⟨rfl, rfl⟩ | ⟨rfl, rfl⟩ <;> exact j_hp A (fun _ => rfl) rfl rfl rfl e
theorem j_aald {a c q : Nat} (A : am_at mi pc = some (.aaload, 1)) (X : am_ax h a (200 + c) q) : am_J d mi pc ls (.int (nI q) :: .ref a :: st) h Q ↔ am_J d mi (pc + 1) ls (va_rf (am_R h a q) :: st) h Q := by
  refine j_hp A (fun _ => rfl) rfl rfl rfl ?_
  unfold am_hp
  simp only
  rw [if_pos ⟨am_ax_ok X (by omega), by rw [X.2.1]; omega⟩, (am_nI_ok X.2.2.2).2]
theorem j_aast {a c q v : Nat} (A : am_at mi pc = some (.aastore, 1)) (X : am_ax h a (200 + c) q) (V : am_ob h v c) (hc : c < 13) (ha : 4 ≤ a) (hv : 4 ≤ v) : am_J d mi pc ls (.ref v :: .int (nI q) :: .ref a :: st) h Q ↔ am_J d mi (pc + 1) ls st (am_setR h a q (some v)) Q := by
  refine j_hp A (fun _ => rfl) rfl rfl rfl ?_
  unfold am_hp
  simp only
  rw [if_pos ⟨am_ax_ok X (by omega), ha, hv, V.1, by rw [V.2]; exact hc, by rw [X.2.1, V.2]⟩, (am_nI_ok X.2.2.2).2]
theorem j_alen {a : Nat} (A : am_at mi pc = some (.arraylength, 1)) (h1 : a < h.1) (h2 : 100 ≤ (am_tg h a).1) : am_J d mi pc ls (.ref a :: st) h Q ↔ am_J d mi (pc + 1) ls (.int (nI (am_tg h a).2) :: st) h Q := by
  refine j_hp A (fun _ => rfl) rfl rfl rfl ?_
  unfold am_hp
  simp only
  rw [if_pos ⟨h1, h2⟩]
  rfl
end AMJ
/-! more kinds, for the printed rows -/
def am_nn (r : UInt64) : Prop := r &&& 0x7fffffffffffffff ≤ 0x7ff0000000000000
section AMK
variable {d mi pc : Nat} {ls ls' : am_Lo} {st st' : List Value} {h h' : am_H} {Q : Option Value → am_H → Prop} {i : Instr} {len k : Nat}
theorem j_iconst {n : Int} {v : Int32} (A : am_at mi pc = some (.iconst n, 1)) (hv : Int32.ofInt n = v) : am_J d mi pc ls st h Q ↔ am_J d mi (pc + 1) ls (.int v :: st) h Q := j_ps A (fun _ => rfl) (by subst hv; rfl)
theorem j_bipush {n : Int} {v : Int32} (A : am_at mi pc = some (.bipush n, 2)) (hv : (Int8.ofInt n).toInt32 = v) : am_J d mi pc ls st h Q ↔ am_J d mi (pc + 2) ls (.int v :: st) h Q := j_ps A (fun _ => rfl) (by subst hv; rfl)
theorem j_sipush {n : Int} {v : Int32} (A : am_at mi pc = some (.sipush n, 3)) (hv : (Int16.ofInt n).toInt32 = v) : am_J d mi pc ls st h Q ↔ am_J d mi (pc + 3) ls (.int v :: st) h Q := j_ps A (fun _ => rfl) (by subst hv; rfl)
theorem j_iinc {j : Nat} {n : Int} {c x : Int32} (A : am_at mi pc = some (.iinc j n, 3)) (hc : Int32.ofInt n = c) (hl : am_ld ls j = some (.int x)) (hs : am_st ls j (.int (x + c)) = some ls') : am_J d mi pc ls st h Q ↔ am_J d mi (pc + 3) ls' st h Q := j_lc A (fun _ => rfl) rfl rfl (by subst hc; simp only [am_lc, hl, hs, Option.map_some])
theorem am_vt3 {v : Value} (hv : am_vt v = 3) : v.category = 1 := by cases v <;> first | rfl | cases hv
theorem j_aload {j n : Nat} {v : Value} (A : am_at mi pc = some (i, n)) (hi : (∃ q : Fin 4, i = .aload_n q ∧ (q : Nat) = j ∧ n = 1) ∨ (i = .aload j ∧ n = 2)) (hl : ls[j]? = some (some v)) (hv : am_vt v = 3) : am_J d mi pc ls st h Q ↔ am_J d mi (pc + n) ls (v :: st) h Q := by
  have e : am_lo 3 ls j n st = some (n, ls, v :: st) := by
    have : am_ld ls j = some v := by unfold am_ld; rw [hl]; simp only; rw [if_neg (by rw [am_vt3 hv]; decide)]
    unfold am_lo; rw [this]; simp only; rw [if_pos hv]
  rcases hi with ⟨q, rfl, rfl, rfl⟩ | ⟨rfl, rfl⟩
  · exact j_lc A (fun _ => rfl) rfl rfl e
  · exact j_lc A (fun _ => rfl) rfl rfl e
theorem j_astore {j n : Nat} {v : Value} (A : am_at mi pc = some (i, n)) (hi : (∃ q : Fin 4, i = .astore_n q ∧ (q : Nat) = j ∧ n = 1) ∨ (i = .astore j ∧ n = 2)) (hl : ls.set j (some v) = ls') (hj : j < ls.length) (hv : am_vt v = 3) : am_J d mi pc ls (v :: st) h Q ↔ am_J d mi (pc + n) ls' st h Q := by
  have e : am_so 3 ls j n (v :: st) = some (n, ls', st) := by
    have : am_st ls j v = some ls' := by unfold am_st; rw [if_neg (by rw [am_vt3 hv]; decide), if_pos hj, hl]
    unfold am_so; simp only; rw [if_pos hv, this]; rfl
  rcases hi with ⟨q, rfl, rfl, rfl⟩ | ⟨rfl, rfl⟩
  · exact j_lc A (fun _ => rfl) rfl rfl e
  · exact j_lc A (fun _ => rfl) rfl rfl e
theorem j_idiv {x y : Int32} (A : am_at mi pc = some (.idiv, 1)) (hy : ¬ y = 0) : am_J d mi pc ls (.int y :: .int x :: st) h Q ↔ am_J d mi (pc + 1) ls (.int (x / y) :: st) h Q := j_ps A (fun _ => rfl) (by simp only [am_ps, am_i2, if_neg hy, Option.map_some])
theorem j_irem {x y : Int32} (A : am_at mi pc = some (.irem, 1)) (hy : ¬ y = 0) : am_J d mi pc ls (.int y :: .int x :: st) h Q ↔ am_J d mi (pc + 1) ls (.int (x - x / y * y) :: st) h Q := j_ps A (fun _ => rfl) (by simp only [am_ps, am_i2, if_neg hy, Option.map_some])
theorem j_ldiv {x y : Int64} (A : am_at mi pc = some (.ldiv, 1)) (hy : ¬ y = 0) : am_J d mi pc ls (.long y :: .long x :: st) h Q ↔ am_J d mi (pc + 1) ls (.long (x / y) :: st) h Q := j_ps A (fun _ => rfl) (by simp only [am_ps, am_l2, if_neg hy, Option.map_some])
theorem j_lrem {x y : Int64} (A : am_at mi pc = some (.lrem, 1)) (hy : ¬ y = 0) : am_J d mi pc ls (.long y :: .long x :: st) h Q ↔ am_J d mi (pc + 1) ls (.long (x - x / y * y) :: st) h Q := j_ps A (fun _ => rfl) (by simp only [am_ps, am_l2, if_neg hy, Option.map_some])
theorem j_dadd {x y : UInt64} (A : am_at mi pc = some (.dadd, 1)) (hn : am_nn (FP.dadd x y)) : am_J d mi pc ls (.double y :: .double x :: st) h Q ↔ am_J d mi (pc + 1) ls (.double (FP.dadd x y) :: st) h Q := j_ps A (fun _ => rfl) (by simp only [am_ps, am_d2]; exact if_pos hn)
theorem j_dsub {x y : UInt64} (A : am_at mi pc = some (.dsub, 1)) (hn : am_nn (FP.dsub x y)) : am_J d mi pc ls (.double y :: .double x :: st) h Q ↔ am_J d mi (pc + 1) ls (.double (FP.dsub x y) :: st) h Q := j_ps A (fun _ => rfl) (by simp only [am_ps, am_d2]; exact if_pos hn)
theorem j_dmul {x y : UInt64} (A : am_at mi pc = some (.dmul, 1)) (hn : am_nn (FP.dmul x y)) : am_J d mi pc ls (.double y :: .double x :: st) h Q ↔ am_J d mi (pc + 1) ls (.double (FP.dmul x y) :: st) h Q := j_ps A (fun _ => rfl) (by simp only [am_ps, am_d2]; exact if_pos hn)
theorem j_ddiv {x y : UInt64} (A : am_at mi pc = some (.ddiv, 1)) (hn : am_nn (FP.ddiv x y)) : am_J d mi pc ls (.double y :: .double x :: st) h Q ↔ am_J d mi (pc + 1) ls (.double (FP.ddiv x y) :: st) h Q := j_ps A (fun _ => rfl) (by simp only [am_ps, am_d2]; exact if_pos hn)
theorem j_drem {x y : UInt64} (A : am_at mi pc = some (.drem, 1)) (hn : am_nn (FP.drem x y)) : am_J d mi pc ls (.double y :: .double x :: st) h Q ↔ am_J d mi (pc + 1) ls (.double (FP.drem x y) :: st) h Q := j_ps A (fun _ => rfl) (by simp only [am_ps, am_d2]; exact if_pos hn)
theorem j_pop {v : Value} (A : am_at mi pc = some (.pop, 1)) (hv : v.category = 1) : am_J d mi pc ls (v :: st) h Q ↔ am_J d mi (pc + 1) ls st h Q := j_ps A (fun _ => rfl) (by simp only [am_ps]; exact if_pos hv)
theorem j_dup {v : Value} (A : am_at mi pc = some (.dup, 1)) (hv : v.category = 1) : am_J d mi pc ls (v :: st) h Q ↔ am_J d mi (pc + 1) ls (v :: v :: st) h Q := j_ps A (fun _ => rfl) (by simp only [am_ps]; exact if_pos hv)
theorem j_ldc {idx : Nat} {v : Int32} (A : am_at mi pc = some (.ldc idx, 2)) (K : am_kcf (am_me mi).1 idx = some (.int v)) : am_J d mi pc ls st h Q ↔ am_J d mi (pc + 2) ls (.int v :: st) h Q := j_hp A (fun _ => rfl) rfl rfl rfl (by simp only [am_hp, K])
theorem j_ldcs (A : am_at mi pc = some (.ldc 242, 2)) (ho : (am_me mi).1 = 12) : am_J d mi pc ls st h Q ↔ am_J d mi (pc + 2) ls (.ref 2 :: st) h Q := j_hp A (fun _ => rfl) rfl rfl rfl (by
  have e : am_kcf 12 242 = none := by decide +kernel
  simp only [am_hp, ho, e, and_self, if_true])
theorem j_ldc2 {idx : Nat} {v : Value} (A : am_at mi pc = some (.ldc2_w idx, 3)) (K : am_kcf (am_me mi).1 idx = some v) (hv : (∃ x, v = .long x) ∨ ∃ x, v = .double x) : am_J d mi pc ls st h Q ↔ am_J d mi (pc + 3) ls (v :: st) h Q := j_hp A (fun _ => rfl) rfl rfl rfl (by rcases hv with ⟨x, rfl⟩ | ⟨x, rfl⟩ <;> simp only [am_hp, K])
theorem j_gets {idx : Nat} {v : Value} (A : am_at mi pc = some (.getstatic idx, 3)) (K : am_skf (am_me mi).1 idx = some v) : am_J d mi pc ls st h Q ↔ am_J d mi (pc + 3) ls (v :: st) h Q := j_hp A (fun _ => rfl) rfl rfl rfl (by simp only [am_hp, K])
theorem j_new {idx c : Nat} (A : am_at mi pc = some (.new idx, 3)) (K : am_ckf (am_me mi).1 idx = some c) (hc : c < 13) : am_J d mi pc ls st h Q ↔ am_J d mi (pc + 3) ls (.ref h.1 :: st) (am_new h (c, 0) (am_nF c)) Q := j_hp A (fun _ => rfl) rfl rfl rfl (by simp only [am_hp, K]; exact if_pos hc)
theorem j_newa {t : ArrayType} {kd q : Nat} (A : am_at mi pc = some (.newarray t, 2)) (K : am_ak t = some kd) (hq : q ≤ 65536) : am_J d mi pc ls (.int (nI q) :: st) h Q ↔ am_J d mi (pc + 2) ls (.ref h.1 :: st) (am_new h (kd, q) q) Q := j_hp A (fun _ => rfl) rfl rfl rfl (by
  obtain ⟨y1, y2⟩ := am_nI_ok (q := q) (by omega)
  simp only [am_hp, K, y2]; exact if_pos ⟨y1, hq⟩)
theorem j_anewa {idx c q : Nat} (A : am_at mi pc = some (.anewarray idx, 3)) (K : am_ckf (am_me mi).1 idx = some c) (hc : 200 + c ∈ am_kds) (hq : q ≤ 65536) : am_J d mi pc ls (.int (nI q) :: st) h Q ↔ am_J d mi (pc + 3) ls (.ref h.1 :: st) (am_new h (200 + c, q) q) Q := j_hp A (fun _ => rfl) rfl rfl rfl (by
  obtain ⟨y1, y2⟩ := am_nI_ok (q := q) (by omega)
  simp only [am_hp, K, y2]; exact if_pos ⟨y1, hq, hc⟩)
theorem j_oinit {idx a m n : Nat} (A : am_at mi pc = some (.invokespecial idx, 3)) (K : am_mkf (am_me mi).1 idx = some (9, m, n)) (hs : (st.map fun v => v.category).sum ≤ 8) : am_J (d + 1) mi pc ls (.ref a :: st) h Q ↔ am_J (d + 1) mi (pc + 3) ls st h Q := j_hp A (fun _ => rfl) rfl rfl rfl (by simp only [am_hp, K]; exact if_pos ⟨by omega, hs⟩)
theorem j_max {idx m n : Nat} {x y : Int32} (A : am_at mi pc = some (.invokestatic idx, 3)) (K : am_mkf (am_me mi).1 idx = some (4, m, n)) (hs : (st.map fun v => v.category).sum ≤ 8) : am_J (d + 1) mi pc ls (.int y :: .int x :: st) h Q ↔ am_J (d + 1) mi (pc + 3) ls (.int (if x < y then y else x) :: st) h Q := j_hp A (fun _ => rfl) rfl rfl rfl (by simp only [am_hp, K]; exact if_pos ⟨by omega, hs⟩)
theorem j_min {idx m n : Nat} {x y : Int32} (A : am_at mi pc = some (.invokestatic idx, 3)) (K : am_mkf (am_me mi).1 idx = some (5, m, n)) (hs : (st.map fun v => v.category).sum ≤ 8) : am_J (d + 1) mi pc ls (.int y :: .int x :: st) h Q ↔ am_J (d + 1) mi (pc + 3) ls (.int (if y < x then y else x) :: st) h Q := j_hp A (fun _ => rfl) rfl rfl rfl (by simp only [am_hp, K]; exact if_pos ⟨by omega, hs⟩)
theorem j_d2l {idx m n : Nat} {x : UInt64} (A : am_at mi pc = some (.invokestatic idx, 3)) (K : am_mkf (am_me mi).1 idx = some (7, m, n)) (hs : (st.map fun v => v.category).sum ≤ 8) : am_J (d + 1) mi pc ls (.double x :: st) h Q ↔ am_J (d + 1) mi (pc + 3) ls (.long x.toInt64 :: st) h Q := j_hp A (fun _ => rfl) rfl rfl rfl (by simp only [am_hp, K]; exact if_pos ⟨by omega, hs⟩)
theorem j_cki {idx m n : Nat} {x y : Int32} (A : am_at mi pc = some (.invokestatic idx, 3)) (K : am_mkf (am_me mi).1 idx = some (6, m, n)) (hs : (st.map fun v => v.category).sum ≤ 8) (h0 : ¬ x < 0) (hn : x < y) : am_J (d + 2) mi pc ls (.int y :: .int x :: st) h Q ↔ am_J (d + 2) mi (pc + 3) ls st h Q := j_hp A (fun _ => rfl) rfl rfl rfl (by simp only [am_hp, K]; exact if_pos ⟨by omega, hs, h0, hn⟩)
theorem j_callV {idx kd mj n b c ml : Nat} {as rest : List Value} (A : am_at mi pc = some (.invokevirtual idx, 3)) (M : am_mkf (am_me mi).1 idx = some (kd, mj, n)) (hkd : kd = 0 ∨ kd = 10) (E : (am_mt[mj]?).map (fun e => (e.1, e.2.2.2.2.1)) = some (c, ml)) (hml : ml ≤ 41) (hst : st = as.reverse ++ .ref b :: rest) (hn : as.length = n) (hfl : (am_fl (.ref b :: as)).length ≤ ml) (hs : (rest.map fun v => v.category).sum ≤ 8) (O : am_ob h b c) :
    am_J (d + 1) mi pc ls st h Q ↔ am_J d mj 0 (am_en ml (.ref b :: as)) [] h (fun r h' => am_J (d + 1) mi (pc + 3) ls (r.toList ++ rest) h' Q) := by
  obtain ⟨e, he, hce⟩ := am_map1 E
  have hme : (am_me mj).2.2.2 = ml := by unfold am_me; rw [he]; exact congrArg Prod.snd hce
  have hlt : mj < 285 := by
    have h1 := (List.getElem?_eq_some_iff.mp he).1
    have : am_mt.length = 285 := by decide +kernel
    omega
  have hr : as.reverse.length = n := by rw [List.length_reverse]; exact hn
  have h1 : st[n]? = some (.ref b) := by rw [hst, ← hr]; simp
  have h2 : st.take n = as.reverse := by rw [hst, ← hr]; simp
  have h3 : st.drop (n + 1) = rest := by
    have : st.drop (n + 1) = (st.drop n).drop 1 := by rw [List.drop_drop]
    rw [this, hst, ← hr, List.drop_left]; rfl
  have hcl : am_cl (am_me mi).1 (d + 1) (.invokevirtual idx) st h = some (mj, .ref b :: as, rest) := by
    simp only [am_cl, M, h1, he, h2, h3, List.reverse_reverse]
    cases hce
    exact if_pos ⟨hkd, O.1, O.2, by omega, hs, hfl, hml⟩
  have := j_cl (ls := ls) (Q := Q) A (fun _ => rfl) rfl rfl rfl rfl hcl hlt
  rw [hme] at this
  exact this
theorem j_callI {idx kd mj n b ml : Nat} {as rest : List Value} (A : am_at mi pc = some (.invokespecial idx, 3)) (M : am_mkf (am_me mi).1 idx = some (kd, mj, n)) (hkd : kd = 1 ∨ kd = 11) (E : (am_mt[mj]?).map (fun e => e.2.2.2.2.1) = some ml) (hml : ml ≤ 41) (hst : st = as.reverse ++ .ref b :: rest) (hn : as.length = n) (hfl : (am_fl (.ref b :: as)).length ≤ ml) (hs : (rest.map fun v => v.category).sum ≤ 8) :
    am_J (d + 1) mi pc ls st h Q ↔ am_J d mj 0 (am_en ml (.ref b :: as)) [] h (fun r h' => am_J (d + 1) mi (pc + 3) ls (r.toList ++ rest) h' Q) := by
  obtain ⟨e, he, hce⟩ := am_map1 E
  have hme : (am_me mj).2.2.2 = ml := by unfold am_me; rw [he]; exact hce
  have hlt : mj < 285 := by
    have h1 := (List.getElem?_eq_some_iff.mp he).1
    have : am_mt.length = 285 := by decide +kernel
    omega
  have hr : as.reverse.length = n := by rw [List.length_reverse]; exact hn
  have h1 : st[n]? = some (.ref b) := by rw [hst, ← hr]; simp
  have h2 : st.take n = as.reverse := by rw [hst, ← hr]; simp
  have h3 : st.drop (n + 1) = rest := by
    have : st.drop (n + 1) = (st.drop n).drop 1 := by rw [List.drop_drop]
    rw [this, hst, ← hr, List.drop_left]; rfl
  have hcl : am_cl (am_me mi).1 (d + 1) (.invokespecial idx) st h = some (mj, .ref b :: as, rest) := by
    simp only [am_cl, M, h1, he, h2, h3, List.reverse_reverse]
    cases hce
    exact if_pos ⟨hkd, by omega, hs, hfl, hml⟩
  have hhp : am_hp (am_me mi).1 (am_me mi).2.1 (d + 1) (.invokespecial idx) st h = none := by
    rcases hkd with rfl | rfl <;> (unfold am_hp; simp only [M])
  have := j_cl (ls := ls) (Q := Q) A (fun _ => rfl) rfl rfl rfl hhp hcl hlt
  rw [hme] at this
  exact this
theorem j_callS {idx kd mj n ml : Nat} {as rest : List Value} (A : am_at mi pc = some (.invokestatic idx, 3)) (M : am_mkf (am_me mi).1 idx = some (kd, mj, n)) (hkd : kd = 2 ∨ kd = 12) (E : (am_mt[mj]?).map (fun e => e.2.2.2.2.1) = some ml) (hml : ml ≤ 41) (hst : st = as.reverse ++ rest) (hn : as.length = n) (hfl : (am_fl as).length ≤ ml) (hs : (rest.map fun v => v.category).sum ≤ 8) :
    am_J (d + 1) mi pc ls st h Q ↔ am_J d mj 0 (am_en ml as) [] h (fun r h' => am_J (d + 1) mi (pc + 3) ls (r.toList ++ rest) h' Q) := by
  obtain ⟨e, he, hce⟩ := am_map1 E
  have hme : (am_me mj).2.2.2 = ml := by unfold am_me; rw [he]; exact hce
  have hlt : mj < 285 := by
    have h1 := (List.getElem?_eq_some_iff.mp he).1
    have : am_mt.length = 285 := by decide +kernel
    omega
  have hr : as.reverse.length = n := by rw [List.length_reverse]; exact hn
  have h2 : st.take n = as.reverse := by rw [hst, ← hr]; simp
  have h3 : st.drop n = rest := by rw [hst, ← hr]; simp
  have hcl : am_cl (am_me mi).1 (d + 1) (.invokestatic idx) st h = some (mj, as, rest) := by
    simp only [am_cl, M, he, h2, h3, List.reverse_reverse]
    cases hce
    exact if_pos ⟨hkd, by rw [hst, List.length_append]; omega, by omega, hs, hfl, hml⟩
  have hhp : am_hp (am_me mi).1 (am_me mi).2.1 (d + 1) (.invokestatic idx) st h = none := by
    rcases hkd with rfl | rfl <;> (unfold am_hp; simp only [M])
  have := j_cl (ls := ls) (Q := Q) A (fun _ => rfl) rfl rfl rfl hhp hcl hlt
  rw [hme] at this
  exact this
theorem j_iret {x : Int32} (A : am_at mi pc = some (.ireturn, 1)) (R : (am_me mi).2.2.1 = some .int) : am_J d mi pc ls [.int x] h Q ↔ Q (some (.int x)) h := j_rt A (by rw [R]; exact if_pos ⟨rfl, Or.inl rfl⟩)
theorem j_zret {x : Int32} (A : am_at mi pc = some (.ireturn, 1)) (R : (am_me mi).2.2.1 = some .boolean) (hx : x = nI 0 ∨ x = nI 1) : am_J d mi pc ls [.int x] h Q ↔ Q (some (.int x)) h := j_rt A (by
  rw [R]
  refine if_pos ⟨?_, Or.inr (Or.inl rfl)⟩
  rcases hx with rfl | rfl <;> decide +kernel)
theorem j_cret {x : Int32} (A : am_at mi pc = some (.ireturn, 1)) (R : (am_me mi).2.2.1 = some .char) (hx : narrow .char (.int x) = .int x) : am_J d mi pc ls [.int x] h Q ↔ Q (some (.int x)) h := j_rt A (by
  rw [R]
  exact if_pos ⟨hx, Or.inr (Or.inr rfl)⟩)
theorem j_aret {r : Option Nat} {ty : FieldType} (A : am_at mi pc = some (.areturn, 1)) (R : (am_me mi).2.2.1 = some ty) (ht : (∃ n, ty = .object n) ∨ ∃ t, ty = .array t) : am_J d mi pc ls [va_rf r] h Q ↔ Q (some (va_rf r)) h := j_rt A (by
  rw [R]
  rcases ht with ⟨n, rfl⟩ | ⟨t, rfl⟩ <;> cases r <;> rfl)
end AMK

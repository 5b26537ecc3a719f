/-! WHAT MAKES NOTHING NEW: the runs -/
theorem am_dec_ge {c : ByteArray} {pc : Nat} (h : c.size ≤ pc) : ∃ e, decode c pc = .error e := by
  have h' : ¬ pc < c.size := by omega
  have e : (Jvm.ClassFile.Reader.u1 : Jvm.ClassFile.Decoder Nat) c pc = .error (.truncated pc) := by
    have : (Jvm.ClassFile.Reader.u1 : Jvm.ClassFile.Decoder Nat) c pc = (if h : pc < c.size then (do set (pc + 1); pure (c[pc].toNat) : Jvm.ClassFile.Decoder Nat) else throw (Jvm.ClassFile.HasTruncated.truncated pc)) c pc := rfl
    rw [this, dif_neg h']; rfl
  have key : ∀ (f : Nat → Jvm.ClassFile.Decoder Instr), Jvm.ClassFile.Reader.runAt (Jvm.ClassFile.Reader.u1 >>= f) c pc = .error (.truncated pc) := fun f => by
    have : Jvm.ClassFile.Reader.runAt (Jvm.ClassFile.Reader.u1 >>= f) c pc = Except.bind ((Jvm.ClassFile.Reader.u1 : Jvm.ClassFile.Decoder Nat) c pc) (fun v => f v.1 c v.2) := rfl
    rw [this, e]; rfl
  refine ⟨.truncated pc, ?_⟩
  unfold decode Jvm.ClassFile.Decoder.instr
  rw [key]
  rfl
theorem am_na_put {ty : FieldType} {h h1 : am_H} {a k : Nat} {v : Value} (q : am_put ty h a k v = some h1) : h1.1 = h.1 ∧ h1.2.1 = h.2.1 := by
  unfold am_put at q
  split at q
  · split at q
    · cases q; exact ⟨rfl, rfl⟩
    · cases q
  · split at q
    · split at q
      · cases q; exact ⟨rfl, rfl⟩
      · cases q
    · cases q
  · split at q
    · cases q; exact ⟨rfl, rfl⟩
    · cases q
  · split at q
    · cases q; exact ⟨rfl, rfl⟩
    · cases q
  · obtain ⟨x, h2, h3⟩ := am_map1 q; subst h3; exact ⟨rfl, rfl⟩
  · obtain ⟨x, h2, h3⟩ := am_map1 q; subst h3; exact ⟨rfl, rfl⟩
  · cases q
theorem am_na_pu {ty : FieldType} {h h1 : am_H} {a k : Nat} {v : Value} (q : am_pu ty h a k v = some h1) : h1.1 = h.1 ∧ h1.2.1 = h.2.1 := by
  unfold am_pu at q
  split at q
  · split at q
    · cases q; exact ⟨rfl, rfl⟩
    · cases q
  · exact am_na_put q
theorem am_na_as {tys : List FieldType} {st st' : List Value} {h h1 : am_H} {k : Nat} (q : am_as tys st h = some (k, st', h1)) : h1.1 = h.1 ∧ h1.2.1 = h.2.1 := by
  unfold am_as at q
  split at q
  · split at q
    · obtain ⟨x, h2, h3⟩ := am_map1 q
      cases h3
      exact am_na_pu h2
    · cases q
  · cases q
theorem am_na_al {tys : List FieldType} {st st' : List Value} {h h1 : am_H} {k : Nat} (q : am_al tys st h = some (k, st', h1)) : h1.1 = h.1 ∧ h1.2.1 = h.2.1 := by
  unfold am_al at q
  split at q
  · split at q
    · cases q; exact ⟨rfl, rfl⟩
    · cases q
  · cases q
theorem am_na_hp {own d k : Nat} {ini : Bool} {i : Instr} {st st' : List Value} {h h1 : am_H} {S : List Nat} (hI : am_naI own S i = true) (q : am_hp own ini d i st h = some (k, st', h1)) : h1.1 = h.1 ∧ h1.2.1 = h.2.1 := by
  unfold am_hp at q
  split at q
  case h_17 => exact absurd (show false = true from hI) Bool.false_ne_true
  case h_18 => exact absurd (show false = true from hI) Bool.false_ne_true
  case h_19 => exact absurd (show false = true from hI) Bool.false_ne_true
  all_goals (repeat' (split at q))
  all_goals first
    | exact am_na_al q
    | exact am_na_as q
    | (obtain ⟨x, h2, h3⟩ := am_map1 q; cases h3; exact am_na_put h2)
    | (cases q; exact ⟨rfl, rfl⟩)
    | cases q
theorem am_na_cl {own d mj : Nat} {i : Instr} {st as rest : List Value} {h : am_H} {S : List Nat} (hI : am_naI own S i = true) (q : am_cl own d i st h = some (mj, as, rest)) : mj ∈ S := by
  have key : ∀ (idx kd mj n : Nat), am_naC own S idx = true → am_mkf own idx = some (kd, mj, n) → kd ∈ [0, 1, 2, 10, 11, 12] → mj ∈ S := fun idx kd mj n h1 h2 h3 => by
    unfold am_naC at h1
    rw [h2] at h1
    have h4 : [0, 1, 2, 10, 11, 12].contains kd = true := List.contains_iff_mem.mpr h3
    have h5 : (!([0, 1, 2, 10, 11, 12].contains kd) || S.contains mj) = true := h1
    rw [h4, Bool.not_true, Bool.false_or] at h5
    exact List.contains_iff_mem.mp h5
  unfold am_cl at q
  split at q
  · split at q
    · rename_i idx kd mj' n hm
      split at q
      · split at q
        · rename_i hc
          cases q
          refine key _ _ _ _ hI hm ?_
          rcases hc.1 with rfl | rfl <;> decide
        · cases q
      · cases q
    · cases q
  · split at q
    · rename_i idx kd mj' n hm
      split at q
      · split at q
        · rename_i hc
          cases q
          refine key _ _ _ _ hI hm ?_
          rcases hc.1 with rfl | rfl <;> decide
        · cases q
      · cases q
    · cases q
  · split at q
    · rename_i idx kd mj' n hm
      split at q
      · split at q
        · rename_i hc
          cases q
          refine key _ _ _ _ hI hm ?_
          rcases hc.1 with rfl | rfl <;> decide
        · cases q
      · cases q
    · cases q
  · cases q
theorem am_na : ∀ (n d mi pc : Nat) (ls : am_Lo) (st : List Value) (h : am_H) (x : Option Value × am_H), mi ∈ am_naS → am n d mi pc ls st h = some x → x.2.1 = h.1 ∧ x.2.2.1 = h.2.1 := by
  intro n
  induction n with
  | zero => intro d mi pc ls st h x _ ha; cases ha
  | succ n ih =>
    intro d mi pc ls st h x hm ha
    have ck := am_naM_all mi hm
    unfold am at ha
    split at ha
    · cases ha
    · rename_i e he
      unfold am_naM at ck
      rw [he] at ck
      have ck := List.all_eq_true.mp ck pc
      split at ha
      · cases ha
      · rename_i i len hd
        have hI : am_naI e.1 am_naS i = true := by
          by_cases c : pc < e.2.2.2.1.size
          · have := ck (List.mem_range.mpr c)
            rw [hd] at this
            exact this
          · obtain ⟨er, h1⟩ := am_dec_ge (c := e.2.2.2.1) (pc := pc) (by omega)
            rw [hd] at h1; cases h1
        split at ha
        · split at ha
          · cases ha; exact ⟨rfl, rfl⟩
          · cases ha
        · split at ha
          · split at ha
            · exact ih _ _ _ _ _ _ _ hm ha
            · cases ha
          · split at ha
            · exact ih _ _ _ _ _ _ _ hm ha
            · split at ha
              · split at ha
                · exact ih _ _ _ _ _ _ _ hm ha
                · cases ha
              · split at ha
                · rename_i hh
                  have s1 := am_na_hp hI hh
                  split at ha
                  · have s2 := ih _ _ _ _ _ _ _ hm ha
                    exact ⟨s2.1.trans s1.1, s2.2.trans s1.2⟩
                  · cases ha
                · split at ha
                  · rename_i hh
                    have s0 := am_na_cl hI hh
                    split at ha
                    · cases ha
                    · split at ha
                      · rename_i hc
                        have s1 := ih _ _ _ _ _ _ _ s0 hc
                        split at ha
                        · have s2 := ih _ _ _ _ _ _ _ hm ha
                          exact ⟨s2.1.trans s1.1, s2.2.trans s1.2⟩
                        · cases ha
                      · cases ha
                  · cases ha
theorem am_run_na {d mi : Nat} {ls : am_Lo} {h h' : am_H} {r : Option Value} (hm : mi ∈ am_naS) (R : am_run d mi ls h r h') : h'.1 = h.1 ∧ h'.2.1 = h.2.1 := by
  obtain ⟨n, r1, h1, ha, rfl, rfl⟩ := (R (fun r1 h1 => r1 = r ∧ h1 = h')).mpr ⟨rfl, rfl⟩
  exact am_na _ _ _ _ _ _ _ _ hm ha

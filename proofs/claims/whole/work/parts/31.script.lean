/-! what never touches the script doesn't depend on it -/
def am_nz (v : Value) : Prop := v ≠ .ref 0
def am_sz0 (st : List Value) : Prop := ∀ v ∈ st, am_nz v
def am_lz (ls : am_Lo) : Prop := ∀ v, some v ∈ ls → am_nz v
def am_Rz (h : am_H) : Prop := h.1 ≠ 0 ∧ ∀ a k, am_R h a k ≠ some 0
def am_rp (L : Nat) (xs : Nat → Int32) (h : am_H) : am_H := (h.1, h.2.1, (fun k => if k = 0 then (110, L) else am_tg h k), (fun a j => if a = 0 then xs j else am_I h a j), h.2.2.2.2.1, h.2.2.2.2.2.1, h.2.2.2.2.2.2)
theorem am_sz0_cons {v : Value} {r : List Value} : am_sz0 (v :: r) ↔ am_nz v ∧ am_sz0 r := by
  unfold am_sz0; exact List.forall_mem_cons
theorem am_ps_z {i : Instr} {st st' : List Value} {k : Nat} (h : am_ps i st = some (k, st')) (hz : am_sz0 st) : am_sz0 st' := by
  unfold am_ps at h
  split at h
  case h_5 =>
    split at h
    · cases h; exact am_sz0_cons.mpr ⟨fun q => (by cases q), hz⟩
    · split at h
      · cases h; exact am_sz0_cons.mpr ⟨fun q => (by cases q), hz⟩
      · cases h
  case h_1 | h_2 | h_3 | h_4 | h_6 => cases h; exact am_sz0_cons.mpr ⟨fun q => (by cases q), hz⟩
  case h_7 | h_8 | h_9 | h_10 | h_11 | h_12 | h_13 | h_14 | h_15 =>
    obtain ⟨x, y, z, r, rfl, hf, rfl, rfl⟩ := am_i2_inv h
    exact am_sz0_cons.mpr ⟨fun q => (by cases q), (am_sz0_cons.mp (am_sz0_cons.mp hz).2).2⟩
  case h_16 | h_17 | h_18 | h_19 | h_20 | h_21 | h_22 | h_23 =>
    obtain ⟨x, y, z, r, rfl, hf, rfl, rfl⟩ := am_l2_inv h
    exact am_sz0_cons.mpr ⟨fun q => (by cases q), (am_sz0_cons.mp (am_sz0_cons.mp hz).2).2⟩
  case h_25 | h_26 | h_27 =>
    obtain ⟨x, y, r, rfl, rfl, rfl⟩ := am_ls_inv h
    exact am_sz0_cons.mpr ⟨fun q => (by cases q), (am_sz0_cons.mp (am_sz0_cons.mp hz).2).2⟩
  case h_28 | h_29 | h_30 | h_31 | h_32 =>
    obtain ⟨x, y, r, rfl, hn, rfl, rfl⟩ := am_d2_inv h
    exact am_sz0_cons.mpr ⟨fun q => (by cases q), (am_sz0_cons.mp (am_sz0_cons.mp hz).2).2⟩
  case h_24 | h_33 | h_34 | h_35 | h_36 | h_37 | h_38 | h_39 =>
    split at h
    · cases h; exact am_sz0_cons.mpr ⟨fun q => (by cases q), (am_sz0_cons.mp hz).2⟩
    · cases h
  case h_40 | h_41 =>
    split at h
    · cases h; exact am_sz0_cons.mpr ⟨fun q => (by cases q), (am_sz0_cons.mp (am_sz0_cons.mp hz).2).2⟩
    · cases h
  case h_42 =>
    split at h
    · split at h
      · cases h; exact am_sz0_cons.mpr ⟨(am_sz0_cons.mp hz).1, hz⟩
      · cases h
    · cases h
  case h_43 =>
    split at h
    · split at h
      · cases h; exact am_sz0_cons.mpr ⟨(am_sz0_cons.mp hz).1, am_sz0_cons.mpr ⟨(am_sz0_cons.mp (am_sz0_cons.mp hz).2).1, hz⟩⟩
      · cases h
    · cases h
  case h_44 | h_45 =>
    split at h
    · split at h
      · cases h; exact (am_sz0_cons.mp hz).2
      · cases h
    · cases h
  case h_46 => cases h
theorem am_br_z {i : Instr} {pc len t : Nat} {st st' : List Value} (h : am_br i pc len st = some (t, st')) (hz : am_sz0 st) : am_sz0 st' := by
  unfold am_br at h
  split at h
  · split at h
    · obtain ⟨t', ht, he⟩ := am_map1 h; cases he; exact hz
    · cases h
  · split at h
    · split at h
      · obtain ⟨t', ht, he⟩ := am_map1 h; cases he; exact (am_sz0_cons.mp hz).2
      · cases h
    · cases h
  · split at h
    · split at h
      · obtain ⟨t', ht, he⟩ := am_map1 h; cases he; exact (am_sz0_cons.mp (am_sz0_cons.mp hz).2).2
      · cases h
    · cases h
  · split at h
    · split at h
      · obtain ⟨t', ht, he⟩ := am_map1 h; cases he; exact (am_sz0_cons.mp hz).2
      · cases h
    · split at h
      · cases h; exact (am_sz0_cons.mp hz).2
      · cases h
    · cases h
  · split at h
    · split at h
      · obtain ⟨t', ht, he⟩ := am_map1 h; cases he; exact (am_sz0_cons.mp hz).2
      · cases h
    · split at h
      · cases h; exact (am_sz0_cons.mp hz).2
      · cases h
    · cases h
  · split at h
    · split at h
      · obtain ⟨t', ht, he⟩ := am_map1 h; cases he; exact (am_sz0_cons.mp hz).2
      · obtain ⟨off, ho, h⟩ := Option.bind_eq_some_iff.mp h
        obtain ⟨t', ht, he⟩ := am_map1 h; cases he; exact (am_sz0_cons.mp hz).2
    · cases h
  · split at h
    · split at h
      · obtain ⟨t', ht, he⟩ := am_map1 h; cases he; exact (am_sz0_cons.mp hz).2
      · cases h
    · cases h
  · cases h
theorem am_ld_z {ls : am_Lo} {j : Nat} {v : Value} (hl : am_ld ls j = some v) (hz : am_lz ls) : am_nz v := by
  unfold am_ld at hl
  split at hl
  · rename_i w hw
    have hm := hz w (List.mem_of_getElem? hw)
    split at hl
    · split at hl
      · cases hl; exact hm
      · cases hl
    · cases hl; exact hm
  · cases hl
theorem am_st_z {ls ls' : am_Lo} {j : Nat} {v : Value} (hs : am_st ls j v = some ls') (hz : am_lz ls) (hv : am_nz v) : am_lz ls' := by
  unfold am_st at hs
  split at hs
  · split at hs
    · cases hs
      intro w hw
      rcases List.mem_or_eq_of_mem_set hw with h1 | h1
      · rcases List.mem_or_eq_of_mem_set h1 with h2 | h2
        · exact hz w h2
        · cases h2; exact hv
      · cases h1
    · cases hs
  · split at hs
    · cases hs
      intro w hw
      rcases List.mem_or_eq_of_mem_set hw with h2 | h2
      · exact hz w h2
      · cases h2; exact hv
    · cases hs
theorem am_lc_z {i : Instr} {ls ls' : am_Lo} {st st' : List Value} {k : Nat} (h : am_lc i ls st = some (k, ls', st')) (hz : am_sz0 st) (hl : am_lz ls) : am_sz0 st' ∧ am_lz ls' := by
  unfold am_lc at h
  split at h
  case h_1 | h_2 | h_3 | h_4 | h_5 | h_6 | h_7 | h_8 =>
    obtain ⟨v, hv, ht, rfl, rfl, rfl⟩ := am_lo_inv h
    exact ⟨am_sz0_cons.mpr ⟨am_ld_z hv hl, hz⟩, hl⟩
  case h_17 =>
    split at h
    · obtain ⟨x, h1, h2⟩ := am_map1 h
      cases h2
      exact ⟨hz, am_st_z h1 hl (fun q => by cases q)⟩
    · cases h
  case h_18 => cases h
  all_goals
    obtain ⟨v, r, rfl, ht, hst, rfl, rfl⟩ := am_so_inv h
    exact ⟨(am_sz0_cons.mp hz).2, am_st_z hst hl (am_sz0_cons.mp hz).1⟩
section RP
variable {L : Nat} {xs : Nat → Int32} {h : am_H}
theorem am_rp_val {ty : FieldType} {a k : Nat} (ha : a ≠ 0) : am_val ty (am_rp L xs h) a k = am_val ty h a k := by
  have e : am_I (am_rp L xs h) a k = am_I h a k := if_neg ha
  unfold am_val
  split <;> first | rfl | rw [e]
theorem am_rp_tg {a : Nat} (ha : a ≠ 0) : am_tg (am_rp L xs h) a = am_tg h a := if_neg ha
theorem am_rp_setI {a k : Nat} {x : Int32} (ha : a ≠ 0) : am_setI (am_rp L xs h) a k x = am_rp L xs (am_setI h a k x) := by
  unfold am_setI am_rp am_u
  simp only [Prod.mk.injEq, true_and, and_true]
  funext b j
  show (if b = a then if j = k then x else (if b = 0 then xs j else am_I h b j) else (if b = 0 then xs j else am_I h b j)) = if b = 0 then xs j else (if b = a then if j = k then x else am_I h b j else am_I h b j)
  by_cases h1 : b = a
  · subst h1; rw [if_pos rfl, if_neg ha, if_neg ha, if_pos rfl]
  · rw [if_neg h1, if_neg h1]
theorem am_rp_setL {a k : Nat} {x : Int64} : am_setL (am_rp L xs h) a k x = am_rp L xs (am_setL h a k x) := rfl
theorem am_rp_setD {a k : Nat} {x : UInt64} : am_setD (am_rp L xs h) a k x = am_rp L xs (am_setD h a k x) := rfl
theorem am_rp_setR {a k : Nat} {x : Option Nat} : am_setR (am_rp L xs h) a k x = am_rp L xs (am_setR h a k x) := rfl
theorem am_rp_new {tag : Nat × Nat} {n : Nat} (hz : h.1 ≠ 0) : am_new (am_rp L xs h) tag n = am_rp L xs (am_new h tag n) := by
  unfold am_new am_rp am_t am_z
  simp only [Prod.mk.injEq, true_and, and_true]
  refine ⟨?_, ?_⟩
  · funext b
    show (if b = h.1 then tag else if b = 0 then (110, L) else am_tg h b) = if b = 0 then (110, L) else (if b = h.1 then tag else am_tg h b)
    by_cases h1 : b = h.1
    · subst h1; rw [if_pos rfl, if_neg hz, if_pos rfl]
    · rw [if_neg h1, if_neg h1]
  · funext b j
    show (if b = h.1 then (0 : Int32) else if b = 0 then xs j else am_I h b j) = if b = 0 then xs j else (if b = h.1 then 0 else am_I h b j)
    by_cases h1 : b = h.1
    · subst h1; rw [if_pos rfl, if_neg hz, if_pos rfl]
    · rw [if_neg h1, if_neg h1]
theorem am_rp_put {ty : FieldType} {a k : Nat} {v : Value} (ha : a ≠ 0) : am_put ty (am_rp L xs h) a k v = (am_put ty h a k v).map (am_rp L xs) := by
  unfold am_put
  split
  · split
    · rw [am_rp_setI ha]; rfl
    · rfl
  · split
    · split
      · rw [am_rp_setI ha]; rfl
      · rfl
    · rfl
  · split <;> rfl
  · split <;> rfl
  · cases am_rfo v <;> rfl
  · cases am_rfo v <;> rfl
  · rfl
theorem am_put_Rz {ty : FieldType} {a k : Nat} {v : Value} {h1 : am_H} (hp : am_put ty h a k v = some h1) (hz : am_Rz h) (hv : am_nz v) : am_Rz h1 := by
  have hR : ∀ x : Option Nat, x ≠ some 0 → am_Rz (am_setR h a k x) := fun x hx => ⟨hz.1, fun b j => by
    show am_u _ _ _ _ _ _ ≠ _
    unfold am_u
    split
    · split
      · exact hx
      · exact hz.2 b j
    · exact hz.2 b j⟩
  have hr : ∀ x, am_rfo v = some x → x ≠ some 0 := fun x hx q => by
    subst q
    exact hv (am_rfo_inv hx)
  unfold am_put at hp
  split at hp
  · split at hp
    · cases hp; exact hz
    · cases hp
  · split at hp
    · split at hp
      · cases hp; exact hz
      · cases hp
    · cases hp
  · split at hp
    · cases hp; exact hz
    · cases hp
  · split at hp
    · cases hp; exact hz
    · cases hp
  · obtain ⟨x, h2, h3⟩ := am_map1 hp; subst h3; exact hR x (hr x h2)
  · obtain ⟨x, h2, h3⟩ := am_map1 hp; subst h3; exact hR x (hr x h2)
  · cases hp
theorem am_val_nz {ty : FieldType} {a k : Nat} (hz : am_Rz h) : am_nz (am_val ty h a k) := by
  have hr : am_nz (va_rf (am_R h a k)) := by
    cases hq : am_R h a k with
    | none => intro q; cases q
    | some x => intro q; cases q; exact hz.2 a k hq
  unfold am_val
  split <;> first | exact hr | (intro q; cases q)
end RP
theorem am_rp_1 {L : Nat} {xs : Nat → Int32} {h : am_H} : (am_rp L xs h).1 = h.1 := rfl
theorem am_nz_ref {a : Nat} (h : am_nz (.ref a)) : a ≠ 0 := fun q => h (by rw [q])
theorem am_nz_of {a : Nat} (h : a ≠ 0) : am_nz (.ref a) := fun q => h (by cases q; rfl)
section RH
variable {L : Nat} {xs : Nat → Int32} {h : am_H}
theorem am_rp_ok {a : Nat} {j : Int32} (ha : a ≠ 0) : am_ok (am_rp L xs h) a j = am_ok h a j := by
  unfold am_ok; rw [am_rp_tg ha]; rfl
abbrev am_rq (L : Nat) (xs : Nat → Int32) (q : Nat × List Value × am_H) : Nat × List Value × am_H := (q.1, q.2.1, am_rp L xs q.2.2)
theorem am_rp_al {tys : List FieldType} {st : List Value} (hz : am_sz0 st) : am_al tys st (am_rp L xs h) = (am_al tys st h).map (am_rq L xs) := by
  unfold am_al
  split
  · rename_i j a r
    have ha := am_nz_ref (am_sz0_cons.mp (am_sz0_cons.mp hz).2).1
    rw [am_rp_ok ha, am_rp_tg ha, am_rp_val ha]
    split <;> rfl
  · rfl
theorem am_rp_pu {ty : FieldType} {a k : Nat} {v : Value} (ha : a ≠ 0) : am_pu ty (am_rp L xs h) a k v = (am_pu ty h a k v).map (am_rp L xs) := by
  unfold am_pu
  split
  · split
    · rw [am_rp_setI ha]; rfl
    · rfl
  · exact am_rp_put ha
theorem am_rp_as {tys : List FieldType} {st : List Value} (hz : am_sz0 st) : am_as tys st (am_rp L xs h) = (am_as tys st h).map (am_rq L xs) := by
  unfold am_as
  split
  · rename_i v j a r
    have ha := am_nz_ref (am_sz0_cons.mp (am_sz0_cons.mp (am_sz0_cons.mp hz).2).2).1
    rw [am_rp_ok ha, am_rp_tg ha, am_rp_pu ha]
    split
    · cases am_pu (am_aT (am_tg h a).1) h a j.toNatClampNeg v <;> rfl
    · rfl
  · rfl
theorem am_rp_cpI {a0 sp a dp n : Nat} (h0 : a0 ≠ 0) (ha : a ≠ 0) : am_cpI (am_rp L xs h) a0 sp a dp n = am_rp L xs (am_cpI h a0 sp a dp n) := by
  unfold am_cpI am_rp am_cpy
  simp only [Prod.mk.injEq, true_and, and_true]
  funext b k
  show (if b = a then if dp ≤ k ∧ k < dp + n then (if a0 = 0 then xs (sp + (k - dp)) else am_I h a0 (sp + (k - dp))) else (if b = 0 then xs k else am_I h b k) else (if b = 0 then xs k else am_I h b k)) = if b = 0 then xs k else (if b = a then if dp ≤ k ∧ k < dp + n then am_I h a0 (sp + (k - dp)) else am_I h b k else am_I h b k)
  by_cases h1 : b = a
  · subst h1; rw [if_pos rfl, if_neg ha, if_neg ha, if_pos rfl, if_neg h0]
  · rw [if_neg h1, if_neg h1]
theorem am_rp_hp {own d : Nat} {ini : Bool} {i : Instr} {st : List Value} (hz : am_sz0 st) (hR : am_Rz h) : am_hp own ini d i st (am_rp L xs h) = (am_hp own ini d i st h).map (am_rq L xs) := by
  unfold am_hp
  split
  · split
    · rfl
    · rfl
    · split <;> rfl
  · split <;> rfl
  · split <;> rfl
  · split
    · rename_i c k a r hq
      have ha := am_nz_ref (am_sz0_cons.mp hz).1
      rw [am_rp_tg ha, am_rp_val ha]
      rw [am_rp_1]
      split <;> rfl
    · rfl
  · split
    · rename_i c k v a r hq
      have ha := am_nz_ref (am_sz0_cons.mp (am_sz0_cons.mp hz).2).1
      rw [am_rp_tg ha, am_rp_put ha]
      rw [am_rp_1]
      split
      · cases am_put (am_fT c k) h a k v <;> rfl
      · rfl
    · rfl
  · exact am_rp_al hz
  · exact am_rp_al hz
  · exact am_rp_al hz
  · exact am_rp_al hz
  · split
    · rename_i j a r
      have ha := am_nz_ref (am_sz0_cons.mp (am_sz0_cons.mp hz).2).1
      rw [am_rp_ok ha, am_rp_tg ha]
      split <;> rfl
    · rfl
  · exact am_rp_as hz
  · exact am_rp_as hz
  · exact am_rp_as hz
  · exact am_rp_as hz
  · split
    · rename_i v j a r
      have hv := am_nz_ref (am_sz0_cons.mp hz).1
      have ha := am_nz_ref (am_sz0_cons.mp (am_sz0_cons.mp (am_sz0_cons.mp hz).2).2).1
      rw [am_rp_ok ha, am_rp_tg ha, am_rp_tg hv]
      rw [am_rp_1]
      split <;> rfl
    · rfl
  · split
    · rename_i a r
      have ha := am_nz_ref (am_sz0_cons.mp hz).1
      rw [am_rp_tg ha]
      rw [am_rp_1]
      split <;> rfl
    · rfl
  · split
    · split
      · rw [am_rp_new hR.1]; rfl
      · rfl
    · rfl
  · split
    · split
      · rw [am_rp_new hR.1]; rfl
      · rfl
    · rfl
  · split
    · split
      · rw [am_rp_new hR.1]; rfl
      · rfl
    · rfl
  · split
    · split <;> rfl
    · rfl
  · split
    · split <;> rfl
    · split <;> rfl
    · split <;> rfl
    · split <;> rfl
    · rename_i n dp a sp a0 r hq
      have ha := am_nz_ref (am_sz0_cons.mp (am_sz0_cons.mp (am_sz0_cons.mp hz).2).2).1
      have h0 := am_nz_ref (am_sz0_cons.mp (am_sz0_cons.mp (am_sz0_cons.mp (am_sz0_cons.mp (am_sz0_cons.mp hz).2).2).2).2).1
      rw [am_rp_tg ha, am_rp_tg h0, am_rp_cpI h0 ha]
      rw [am_rp_1]
      split
      · split
        · rfl
        · split <;> rfl
      · rfl
    · rfl
  · rfl
end RH
section RZ
variable {h : am_H}
theorem am_new_Rz {tag : Nat × Nat} {n : Nat} (hR : am_Rz h) : am_Rz (am_new h tag n) := ⟨Nat.succ_ne_zero _, fun a k => by
  show (if a = h.1 then none else am_R h a k) ≠ _
  split
  · intro q; cases q
  · exact hR.2 a k⟩
theorem am_al_z {tys : List FieldType} {st st' : List Value} {k : Nat} {h' : am_H} (q : am_al tys st h = some (k, st', h')) (hz : am_sz0 st) (hR : am_Rz h) : am_sz0 st' ∧ am_Rz h' := by
  unfold am_al at q
  split at q
  · split at q
    · cases q; exact ⟨am_sz0_cons.mpr ⟨am_val_nz hR, (am_sz0_cons.mp (am_sz0_cons.mp hz).2).2⟩, hR⟩
    · cases q
  · cases q
theorem am_pu_Rz {ty : FieldType} {a k : Nat} {v : Value} {h1 : am_H} (hp : am_pu ty h a k v = some h1) (hz : am_Rz h) (hv : am_nz v) : am_Rz h1 := by
  unfold am_pu at hp
  split at hp
  · split at hp
    · cases hp; exact hz
    · cases hp
  · exact am_put_Rz hp hz hv
theorem am_as_z {tys : List FieldType} {st st' : List Value} {k : Nat} {h' : am_H} (q : am_as tys st h = some (k, st', h')) (hz : am_sz0 st) (hR : am_Rz h) : am_sz0 st' ∧ am_Rz h' := by
  unfold am_as at q
  split at q
  · split at q
    · obtain ⟨x, h1, h2⟩ := am_map1 q
      cases h2
      exact ⟨(am_sz0_cons.mp (am_sz0_cons.mp (am_sz0_cons.mp hz).2).2).2, am_pu_Rz h1 hR (am_sz0_cons.mp hz).1⟩
    · cases q
  · cases q
theorem am_skf_z {own idx : Nat} {v : Value} (q : am_skf own idx = some v) : am_nz v := by
  unfold am_skf at q
  obtain ⟨e, h1, h2⟩ := am_map1 q
  have hm := List.mem_of_find?_eq_some h1
  have : ∀ e ∈ am_sk, e.2.2 ≠ .ref 0 := by decide
  exact h2 ▸ this e hm
theorem am_setR_Rz {a k v : Nat} (hR : am_Rz h) (hv : v ≠ 0) : am_Rz (am_setR h a k (some v)) := ⟨hR.1, fun b j => by
    show am_u _ _ _ _ _ _ ≠ _
    unfold am_u
    split
    · split
      · intro q; cases q; exact hv rfl
      · exact hR.2 b j
    · exact hR.2 b j⟩
theorem am_hp_z {own d k : Nat} {ini : Bool} {i : Instr} {st st' : List Value} {h' : am_H} (q : am_hp own ini d i st h = some (k, st', h')) (hz : am_sz0 st) (hR : am_Rz h) : am_sz0 st' ∧ am_Rz h' := by
  unfold am_hp at q
  split at q
  · split at q
    · cases q; exact ⟨am_sz0_cons.mpr ⟨fun q => (by cases q), hz⟩, hR⟩
    · cases q
    · split at q
      · cases q; exact ⟨am_sz0_cons.mpr ⟨fun q => (by cases q), hz⟩, hR⟩
      · cases q
  · split at q
    · cases q; exact ⟨am_sz0_cons.mpr ⟨fun q => (by cases q), hz⟩, hR⟩
    · cases q; exact ⟨am_sz0_cons.mpr ⟨fun q => (by cases q), hz⟩, hR⟩
    · cases q
  · split at q
    · rename_i v hv
      cases q; exact ⟨am_sz0_cons.mpr ⟨am_skf_z hv, hz⟩, hR⟩
    · cases q
  · split at q
    · split at q
      · cases q; exact ⟨am_sz0_cons.mpr ⟨am_val_nz hR, (am_sz0_cons.mp hz).2⟩, hR⟩
      · cases q
    · cases q
  · split at q
    · split at q
      · obtain ⟨x, h1, h2⟩ := am_map1 q
        cases h2
        exact ⟨(am_sz0_cons.mp (am_sz0_cons.mp hz).2).2, am_put_Rz h1 hR (am_sz0_cons.mp hz).1⟩
      · cases q
    · cases q
  · exact am_al_z q hz hR
  · exact am_al_z q hz hR
  · exact am_al_z q hz hR
  · exact am_al_z q hz hR
  · split at q
    · split at q
      · cases q; exact ⟨am_sz0_cons.mpr ⟨am_val_nz (ty := .object "") hR, (am_sz0_cons.mp (am_sz0_cons.mp hz).2).2⟩, hR⟩
      · cases q
    · cases q
  · exact am_as_z q hz hR
  · exact am_as_z q hz hR
  · exact am_as_z q hz hR
  · exact am_as_z q hz hR
  · split at q
    · split at q
      · cases q; exact ⟨(am_sz0_cons.mp (am_sz0_cons.mp (am_sz0_cons.mp hz).2).2).2, am_setR_Rz hR (am_nz_ref (am_sz0_cons.mp hz).1)⟩
      · cases q
    · cases q
  · split at q
    · split at q
      · cases q; exact ⟨am_sz0_cons.mpr ⟨fun q => (by cases q), (am_sz0_cons.mp hz).2⟩, hR⟩
      · cases q
    · cases q
  · split at q
    · split at q
      · cases q; exact ⟨am_sz0_cons.mpr ⟨am_nz_of hR.1, hz⟩, am_new_Rz hR⟩
      · cases q
    · cases q
  · split at q
    · split at q
      · cases q; exact ⟨am_sz0_cons.mpr ⟨am_nz_of hR.1, (am_sz0_cons.mp hz).2⟩, am_new_Rz hR⟩
      · cases q
    · cases q
  · split at q
    · split at q
      · cases q; exact ⟨am_sz0_cons.mpr ⟨am_nz_of hR.1, (am_sz0_cons.mp hz).2⟩, am_new_Rz hR⟩
      · cases q
    · cases q
  · split at q
    · split at q
      · cases q; exact ⟨(am_sz0_cons.mp hz).2, hR⟩
      · cases q
    · cases q
  · split at q
    · split at q
      · cases q; exact ⟨am_sz0_cons.mpr ⟨fun q => (by cases q), (am_sz0_cons.mp (am_sz0_cons.mp hz).2).2⟩, hR⟩
      · cases q
    · split at q
      · cases q; exact ⟨am_sz0_cons.mpr ⟨fun q => (by cases q), (am_sz0_cons.mp (am_sz0_cons.mp hz).2).2⟩, hR⟩
      · cases q
    · split at q
      · cases q; exact ⟨(am_sz0_cons.mp (am_sz0_cons.mp hz).2).2, hR⟩
      · cases q
    · split at q
      · cases q; exact ⟨am_sz0_cons.mpr ⟨fun q => (by cases q), (am_sz0_cons.mp hz).2⟩, hR⟩
      · cases q
    · have hr := (am_sz0_cons.mp (am_sz0_cons.mp (am_sz0_cons.mp (am_sz0_cons.mp (am_sz0_cons.mp hz).2).2).2).2).2
      split at q
      · split at q
        · cases q; exact ⟨hr, hR⟩
        · split at q
          · cases q; exact ⟨hr, hR⟩
          · cases q
      · cases q
    · cases q
  · cases q
theorem am_sz0_sub {st s : List Value} (hz : am_sz0 st) (hs : ∀ v ∈ s, v ∈ st) : am_sz0 s := fun v hv => hz v (hs v hv)
theorem am_cl_rp {L : Nat} {xs : Nat → Int32} {own d : Nat} {i : Instr} {st : List Value} (hz : am_sz0 st) : am_cl own d i st (am_rp L xs h) = am_cl own d i st h := by
  unfold am_cl
  split
  · split
    · split
      · rename_i b e hb he
        have ha := am_nz_ref (hz _ (List.mem_of_getElem? hb))
        rw [am_rp_tg ha, am_rp_1]
      · rfl
    · rfl
  · rfl
  · rfl
  · rfl
theorem am_cl_z {own d mj : Nat} {i : Instr} {st as rest : List Value} (q : am_cl own d i st h = some (mj, as, rest)) (hz : am_sz0 st) : am_sz0 as ∧ am_sz0 rest := by
  have hb : ∀ (n b : Nat), st[n]? = some (.ref b) → am_sz0 (.ref b :: (st.take n).reverse) := fun n b hb => am_sz0_cons.mpr ⟨hz _ (List.mem_of_getElem? hb), am_sz0_sub hz fun v hv => List.mem_of_mem_take (List.mem_reverse.mp hv)⟩
  unfold am_cl at q
  split at q
  · split at q
    · split at q
      · rename_i b e h1 h2
        split at q
        · cases q; exact ⟨hb _ _ h1, am_sz0_sub hz fun v hv => List.mem_of_mem_drop hv⟩
        · cases q
      · cases q
    · cases q
  · split at q
    · split at q
      · rename_i b e h1 h2
        split at q
        · cases q; exact ⟨hb _ _ h1, am_sz0_sub hz fun v hv => List.mem_of_mem_drop hv⟩
        · cases q
      · cases q
    · cases q
  · split at q
    · split at q
      · split at q
        · cases q; exact ⟨am_sz0_sub hz fun v hv => List.mem_of_mem_take (List.mem_reverse.mp hv), am_sz0_sub hz fun v hv => List.mem_of_mem_drop hv⟩
        · cases q
      · cases q
    · cases q
  · cases q
theorem am_rt_z {ret : Option FieldType} {i : Instr} {st : List Value} {r : Option Value} (q : am_rt ret i st = some r) (hz : am_sz0 st) : am_sz0 r.toList := by
  unfold am_rt at q
  split at q
  · split at q
    · split at q
      · cases q; exact am_sz0_cons.mpr ⟨fun q => (by cases q), fun v hv => nomatch hv⟩
      · cases q
    · cases q
  · split at q
    · cases q; exact hz
    · cases q
  · split at q
    · cases q; exact hz
    · cases q
  · split at q
    · obtain ⟨x, h1, h2⟩ := am_map1 q; cases h2; exact hz
    · obtain ⟨x, h1, h2⟩ := am_map1 q; cases h2; exact hz
    · cases q
  · split at q
    · cases q; exact hz
    · cases q
  · cases q
theorem am_en_z {n : Nat} {as : List Value} (hz : am_sz0 as) : am_lz (am_en n as) := by
  intro v hv
  unfold am_en at hv
  rcases List.mem_append.mp hv with h1 | h1
  · unfold am_fl at h1
    obtain ⟨w, hw, h2⟩ := List.mem_flatMap.mp h1
    split at h2
    · rcases List.mem_cons.mp h2 with h3 | h3
      · cases h3; exact hz _ hw
      · rcases List.mem_cons.mp h3 with h4 | h4
        · cases h4
        · cases h4
    · rcases List.mem_cons.mp h2 with h3 | h3
      · cases h3; exact hz _ hw
      · cases h3
  · cases (List.mem_replicate.mp h1).2
end RZ
/-- a run that never holds the script goes the same whatever the script is -/
theorem am_rp_run (L : Nat) (xs : Nat → Int32) : ∀ (n d mi pc : Nat) (ls : am_Lo) (st : List Value) (h : am_H) (r : Option Value) (h' : am_H), am_sz0 st → am_lz ls → am_Rz h → am n d mi pc ls st h = some (r, h') → am n d mi pc ls st (am_rp L xs h) = some (r, am_rp L xs h') ∧ am_sz0 r.toList ∧ am_Rz h'
  | 0, _, _, _, _, _, _, _, _ => fun _ _ _ q => by cases q
  | n + 1, d, mi, pc, ls, st, h, r, h' => fun hz hl hR q => by
    unfold am at q ⊢
    split at q
    · cases q
    rename_i e he
    try simp only [he]
    split at q
    · cases q
    rename_i i len hi
    try simp only [hi]
    split at q
    · rename_i r1 hr
      try simp only [hr]
      split at q
      · rename_i hlen
        cases q
        exact ⟨if_pos hlen, am_rt_z hr hz, hR⟩
      · cases q
    rename_i hr
    try simp only [hr]
    split at q
    · rename_i k st' hp
      try simp only [hp]
      split at q
      · rename_i hlen
        rw [if_pos hlen]
        exact am_rp_run L xs n _ _ _ _ _ _ _ _ (am_ps_z hp hz) hl hR q
      · cases q
    rename_i hp
    try simp only [hp]
    split at q
    · rename_i t st' hb
      try simp only [hb]
      exact am_rp_run L xs n _ _ _ _ _ _ _ _ (am_br_z hb hz) hl hR q
    rename_i hb
    try simp only [hb]
    split at q
    · rename_i k ls' st' hc
      try simp only [hc]
      split at q
      · rename_i hlen
        rw [if_pos hlen]
        have := am_lc_z hc hz hl
        exact am_rp_run L xs n _ _ _ _ _ _ _ _ this.1 this.2 hR q
      · cases q
    rename_i hc
    try simp only [hc]
    split at q
    · rename_i k st' h1 hh
      have e1 := am_rp_hp (L := L) (xs := xs) (own := e.1) (d := d) (ini := (e.2.1 == "<init>")) (i := i) hz hR
      rw [hh] at e1
      simp only [e1, Option.map_some]
      split at q
      · rename_i hlen
        rw [if_pos hlen]
        have := am_hp_z hh hz hR
        exact am_rp_run L xs n _ _ _ _ _ _ _ _ this.1 hl this.2 q
      · cases q
    rename_i hh
    have e1 := am_rp_hp (L := L) (xs := xs) (own := e.1) (d := d) (ini := (e.2.1 == "<init>")) (i := i) hz hR
    rw [hh] at e1
    simp only [e1, Option.map_none, am_cl_rp hz]
    split at q
    · rename_i mj as rest hcl
      try simp only [hcl]
      have hc2 := am_cl_z hcl hz
      split at q
      · cases q
      rename_i e' he'
      try simp only [he']
      split at q
      · rename_i r1 h1 hrun
        obtain ⟨a1, a2, a3⟩ := am_rp_run L xs n _ _ _ _ [] _ _ _ (fun v hv => (List.not_mem_nil hv).elim) (am_en_z hc2.1) hR hrun
        simp only [a1]
        split at q
        · rename_i hlen
          rw [if_pos hlen]
          exact am_rp_run L xs n _ _ _ _ _ _ _ _ (fun v hv => (List.mem_append.mp hv).elim (a2 v) (hc2.2 v)) hl a3 q
        · cases q
      · cases q
    · cases q

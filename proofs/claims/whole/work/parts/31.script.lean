/-! what never touches the script doesn't depend on it -/
def am_nz (v : Value) : Prop := v ≠ .ref 0
def am_sz0 (st : List Value) : Prop := ∀ v ∈ st, am_nz v
def am_lz (ls : am_Lo) : Prop := ∀ v, some v ∈ ls → am_nz v
def am_Rz (h : am_H) : Prop := h.1 ≠ 0 ∧ ∀ a k, am_R h a k ≠ some 0
def am_rp (L : Nat) (xs : Nat → Int32) (h : am_H) : am_H := (h.1, h.2.1, (fun k => if k = 0 then (110, L) else am_tg h k), (fun a j => if a = 0 then xs j else am_I h a j), h.2.2.2.2.1, h.2.2.2.2.2.1, h.2.2.2.2.2.2)
theorem am_sz0_cons {v : Value} {r : List Value} : am_sz0 (v :: r) ↔ am_nz v ∧ am_sz0 r := by
  unfold am_sz0; exact List.forall_mem_cons
theorem am_ps_z {i : Instr} {st st' : List Value} {k : Nat} (h : am_ps i st = some (k, st')) (hz : am_sz0 st) : am_sz0 st' := by
  unfold am_ps at h
  split at h
  case h_5 =>
    split at h
    · cases h; exact am_sz0_cons.mpr ⟨fun q => (by cases q), hz⟩
    · split at h
      · cases h; exact am_sz0_cons.mpr ⟨fun q => (by cases q), hz⟩
      · cases h
  case h_1 | h_2 | h_3 | h_4 | h_6 => cases h; exact am_sz0_cons.mpr ⟨fun q => (by cases q), hz⟩
  case h_7 | h_8 | h_9 | h_10 | h_11 | h_12 | h_13 | h_14 | h_15 =>
    obtain ⟨x, y, z, r, rfl, hf, rfl, rfl⟩ := am_i2_inv h
    exact am_sz0_cons.mpr ⟨fun q => (by cases q), (am_sz0_cons.mp (am_sz0_cons.mp hz).2).2⟩
  case h_16 | h_17 | h_18 | h_19 | h_20 | h_21 | h_22 | h_23 =>
    obtain ⟨x, y, z, r, rfl, hf, rfl, rfl⟩ := am_l2_inv h
    exact am_sz0_cons.mpr ⟨fun q => (by cases q), (am_sz0_cons.mp (am_sz0_cons.mp hz).2).2⟩
  case h_25 | h_26 | h_27 =>
    obtain ⟨x, y, r, rfl, rfl, rfl⟩ := am_ls_inv h
    exact am_sz0_cons.mpr ⟨fun q => (by cases q), (am_sz0_cons.mp (am_sz0_cons.mp hz).2).2⟩
  case h_28 | h_29 | h_30 | h_31 | h_32 =>
    obtain ⟨x, y, r, rfl, hn, rfl, rfl⟩ := am_d2_inv h
    exact am_sz0_cons.mpr ⟨fun q => (by cases q), (am_sz0_cons.mp (am_sz0_cons.mp hz).2).2⟩
  case h_24 | h_33 | h_34 | h_35 | h_36 | h_37 | h_38 | h_39 =>
    split at h
    · cases h; exact am_sz0_cons.mpr ⟨fun q => (by cases q), (am_sz0_cons.mp hz).2⟩
    · cases h
  case h_40 | h_41 =>
    split at h
    · cases h; exact am_sz0_cons.mpr ⟨fun q => (by cases q), (am_sz0_cons.mp (am_sz0_cons.mp hz).2).2⟩
    · cases h
  case h_42 =>
    split at h
    · split at h
      · cases h; exact am_sz0_cons.mpr ⟨(am_sz0_cons.mp hz).1, hz⟩
      · cases h
    · cases h
  case h_43 =>
    split at h
    · split at h
      · cases h; exact am_sz0_cons.mpr ⟨(am_sz0_cons.mp hz).1, am_sz0_cons.mpr ⟨(am_sz0_cons.mp (am_sz0_cons.mp hz).2).1, hz⟩⟩
      · cases h
    · cases h
  case h_44 | h_45 =>
    split at h
    · split at h
      · cases h; exact (am_sz0_cons.mp hz).2
      · cases h
    · cases h
  case h_46 => cases h
theorem am_br_z {i : Instr} {pc len t : Nat} {st st' : List Value} (h : am_br i pc len st = some (t, st')) (hz : am_sz0 st) : am_sz0 st' := by
  unfold am_br at h
  split at h
  · split at h
    · obtain ⟨t', ht, he⟩ := am_map1 h; cases he; exact hz
    · cases h
  · split at h
    · split at h
      · obtain ⟨t', ht, he⟩ := am_map1 h; cases he; exact (am_sz0_cons.mp hz).2
      · cases h
    · cases h
  · split at h
    · split at h
      · obtain ⟨t', ht, he⟩ := am_map1 h; cases he; exact (am_sz0_cons.mp (am_sz0_cons.mp hz).2).2
      · cases h
    · cases h
  · split at h
    · split at h
      · obtain ⟨t', ht, he⟩ := am_map1 h; cases he; exact (am_sz0_cons.mp hz).2
      · cases h
    · split at h
      · cases h; exact (am_sz0_cons.mp hz).2
      · cases h
    · cases h
  · split at h
    · split at h
      · obtain ⟨t', ht, he⟩ := am_map1 h; cases he; exact (am_sz0_cons.mp hz).2
      · cases h
    · split at h
      · cases h; exact (am_sz0_cons.mp hz).2
      · cases h
    · cases h
  · split at h
    · split at h
      · obtain ⟨t', ht, he⟩ := am_map1 h; cases he; exact (am_sz0_cons.mp hz).2
      · obtain ⟨off, ho, h⟩ := Option.bind_eq_some_iff.mp h
        obtain ⟨t', ht, he⟩ := am_map1 h; cases he; exact (am_sz0_cons.mp hz).2
    · cases h
  · split at h
    · split at h
      · obtain ⟨t', ht, he⟩ := am_map1 h; cases he; exact (am_sz0_cons.mp hz).2
      · cases h
    · cases h
  · cases h
theorem am_ld_z {ls : am_Lo} {j : Nat} {v : Value} (hl : am_ld ls j = some v) (hz : am_lz ls) : am_nz v := by
  unfold am_ld at hl
  split at hl
  · rename_i w hw
    have hm := hz w (List.mem_of_getElem? hw)
    split at hl
    · split at hl
      · cases hl; exact hm
      · cases hl
    · cases hl; exact hm
  · cases hl
theorem am_st_z {ls ls' : am_Lo} {j : Nat} {v : Value} (hs : am_st ls j v = some ls') (hz : am_lz ls) (hv : am_nz v) : am_lz ls' := by
  unfold am_st at hs
  split at hs
  · split at hs
    · cases hs
      intro w hw
      rcases List.mem_or_eq_of_mem_set hw with h1 | h1
      · rcases List.mem_or_eq_of_mem_set h1 with h2 | h2
        · exact hz w h2
        · cases h2; exact hv
      · cases h1
    · cases hs
  · split at hs
    · cases hs
      intro w hw
      rcases List.mem_or_eq_of_mem_set hw with h2 | h2
      · exact hz w h2
      · cases h2; exact hv
    · cases hs
theorem am_lc_z {i : Instr} {ls ls' : am_Lo} {st st' : List Value} {k : Nat} (h : am_lc i ls st = some (k, ls', st')) (hz : am_sz0 st) (hl : am_lz ls) : am_sz0 st' ∧ am_lz ls' := by
  unfold am_lc at h
  split at h
  case h_1 | h_2 | h_3 | h_4 | h_5 | h_6 | h_7 | h_8 =>
    obtain ⟨v, hv, ht, rfl, rfl, rfl⟩ := am_lo_inv h
    exact ⟨am_sz0_cons.mpr ⟨am_ld_z hv hl, hz⟩, hl⟩
  case h_17 =>
    split at h
    · obtain ⟨x, h1, h2⟩ := am_map1 h
      cases h2
      exact ⟨hz, am_st_z h1 hl (fun q => by cases q)⟩
    · cases h
  case h_18 => cases h
  all_goals
    obtain ⟨v, r, rfl, ht, hst, rfl, rfl⟩ := am_so_inv h
    exact ⟨(am_sz0_cons.mp hz).2, am_st_z hst hl (am_sz0_cons.mp hz).1⟩
section RP
variable {L : Nat} {xs : Nat → Int32} {h : am_H}
theorem am_rp_val {ty : FieldType} {a k : Nat} (ha : a ≠ 0) : am_val ty (am_rp L xs h) a k = am_val ty h a k := by
  have e : am_I (am_rp L xs h) a k = am_I h a k := if_neg ha
  unfold am_val
  split <;> first | rfl | rw [e]
theorem am_rp_tg {a : Nat} (ha : a ≠ 0) : am_tg (am_rp L xs h) a = am_tg h a := if_neg ha
theorem am_rp_setI {a k : Nat} {x : Int32} (ha : a ≠ 0) : am_setI (am_rp L xs h) a k x = am_rp L xs (am_setI h a k x) := by
  unfold am_setI am_rp am_u
  simp only [Prod.mk.injEq, true_and, and_true]
  funext b j
  show (if b = a then if j = k then x else (if b = 0 then xs j else am_I h b j) else (if b = 0 then xs j else am_I h b j)) = if b = 0 then xs j else (if b = a then if j = k then x else am_I h b j else am_I h b j)
  by_cases h1 : b = a
  · subst h1; rw [if_pos rfl, if_neg ha, if_neg ha, if_pos rfl]
  · rw [if_neg h1, if_neg h1]
theorem am_rp_setL {a k : Nat} {x : Int64} : am_setL (am_rp L xs h) a k x = am_rp L xs (am_setL h a k x) := rfl
theorem am_rp_setD {a k : Nat} {x : UInt64} : am_setD (am_rp L xs h) a k x = am_rp L xs (am_setD h a k x) := rfl
theorem am_rp_setR {a k : Nat} {x : Option Nat} : am_setR (am_rp L xs h) a k x = am_rp L xs (am_setR h a k x) := rfl
theorem am_rp_new {tag : Nat × Nat} {n : Nat} (hz : h.1 ≠ 0) : am_new (am_rp L xs h) tag n = am_rp L xs (am_new h tag n) := by
  unfold am_new am_rp am_t am_z
  simp only [Prod.mk.injEq, true_and, and_true]
  refine ⟨?_, ?_⟩
  · funext b
    show (if b = h.1 then tag else if b = 0 then (110, L) else am_tg h b) = if b = 0 then (110, L) else (if b = h.1 then tag else am_tg h b)
    by_cases h1 : b = h.1
    · subst h1; rw [if_pos rfl, if_neg hz, if_pos rfl]
    · rw [if_neg h1, if_neg h1]
  · funext b j
    show (if b = h.1 then (0 : Int32) else if b = 0 then xs j else am_I h b j) = if b = 0 then xs j else (if b = h.1 then 0 else am_I h b j)
    by_cases h1 : b = h.1
    · subst h1; rw [if_pos rfl, if_neg hz, if_pos rfl]
    · rw [if_neg h1, if_neg h1]
theorem am_rp_put {ty : FieldType} {a k : Nat} {v : Value} (ha : a ≠ 0) : am_put ty (am_rp L xs h) a k v = (am_put ty h a k v).map (am_rp L xs) := by
  unfold am_put
  split
  · split
    · rw [am_rp_setI ha]; rfl
    · rfl
  · split
    · split
      · rw [am_rp_setI ha]; rfl
      · rfl
    · rfl
  · split <;> rfl
  · split <;> rfl
  · cases am_rfo v <;> rfl
  · cases am_rfo v <;> rfl
  · rfl
theorem am_put_Rz {ty : FieldType} {a k : Nat} {v : Value} {h1 : am_H} (hp : am_put ty h a k v = some h1) (hz : am_Rz h) (hv : am_nz v) : am_Rz h1 := by
  have hR : ∀ x : Option Nat, x ≠ some 0 → am_Rz (am_setR h a k x) := fun x hx => ⟨hz.1, fun b j => by
    show am_u _ _ _ _ _ _ ≠ _
    unfold am_u
    split
    · split
      · exact hx
      · exact hz.2 b j
    · exact hz.2 b j⟩
  have hr : ∀ x, am_rfo v = some x → x ≠ some 0 := fun x hx q => by
    subst q
    exact hv (am_rfo_inv hx)
  unfold am_put at hp
  split at hp
  · split at hp
    · cases hp; exact hz
    · cases hp
  · split at hp
    · split at hp
      · cases hp; exact hz
      · cases hp
    · cases hp
  · split at hp
    · cases hp; exact hz
    · cases hp
  · split at hp
    · cases hp; exact hz
    · cases hp
  · obtain ⟨x, h2, h3⟩ := am_map1 hp; subst h3; exact hR x (hr x h2)
  · obtain ⟨x, h2, h3⟩ := am_map1 hp; subst h3; exact hR x (hr x h2)
  · cases hp
theorem am_val_nz {ty : FieldType} {a k : Nat} (hz : am_Rz h) : am_nz (am_val ty h a k) := by
  have hr : am_nz (va_rf (am_R h a k)) := by
    cases hq : am_R h a k with
    | none => intro q; cases q
    | some x => intro q; cases q; exact hz.2 a k hq
  unfold am_val
  split <;> first | exact hr | (intro q; cases q)
end RP

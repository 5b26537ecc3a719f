/-! what the machine does for am's stack instructions, branches, locals -/
def am_up (ad : Nat → Nat) (v : Value) : Value := match v with
  | .ref a => .ref (ad a)
  | v => v
theorem am_up_cat (ad : Nat → Nat) (v : Value) : (am_up ad v).category = v.category := by cases v <;> rfl
section AM1
variable {p : Program} {l : Launch} {e : Env} {R : Room} {s : State} {m : MethodId} {args : Array Value} {below : List Frame} {meth : Method} {c : Code} {H : Heap} {locs : List Loc} {cells slots : Nat} {Q : State → Prop}
variable {cc : ByteArray} {pc : Nat} {ls : Array Slot} {ad : Nat → Nat}
theorem am_i2_inv {f : Int32 → Int32 → Option Int32} {st : List Value} {k : Nat} {st' : List Value} (h : am_i2 f st = some (k, st')) : ∃ x y z r, st = .int y :: .int x :: r ∧ f x y = some z ∧ k = 1 ∧ st' = .int z :: r := by
  unfold am_i2 at h
  split at h
  · rename_i y x r
    cases hf : f x y with
    | none => rw [hf] at h; cases h
    | some z => rw [hf] at h; cases h; exact ⟨x, y, z, r, rfl, hf, rfl, rfl⟩
  · cases h
theorem am_l2_inv {f : Int64 → Int64 → Option Int64} {st : List Value} {k : Nat} {st' : List Value} (h : am_l2 f st = some (k, st')) : ∃ x y z r, st = .long y :: .long x :: r ∧ f x y = some z ∧ k = 1 ∧ st' = .long z :: r := by
  unfold am_l2 at h
  split at h
  · rename_i y x r
    cases hf : f x y with
    | none => rw [hf] at h; cases h
    | some z => rw [hf] at h; cases h; exact ⟨x, y, z, r, rfl, hf, rfl, rfl⟩
  · cases h
theorem am_ls_inv {f : Int64 → Int32 → Int64} {st : List Value} {k : Nat} {st' : List Value} (h : am_ls f st = some (k, st')) : ∃ x y r, st = .int y :: .long x :: r ∧ k = 1 ∧ st' = .long (f x y) :: r := by
  unfold am_ls at h
  split at h
  · cases h; exact ⟨_, _, _, rfl, rfl, rfl⟩
  · cases h
theorem am_d2_inv {f : UInt64 → UInt64 → UInt64} {st : List Value} {k : Nat} {st' : List Value} (h : am_d2 f st = some (k, st')) : ∃ x y r, st = .double y :: .double x :: r ∧ vf_n64 (f x y) ∧ k = 1 ∧ st' = .double (f x y) :: r := by
  unfold am_d2 at h
  split at h
  · split at h
    next hn => cases h; exact ⟨_, _, _, rfl, hn, rfl, rfl⟩
    next => cases h
  · cases h
theorem am_ps_ok (hexec : p.tables.exec = Jvm.exec) (hb : c.code = cc) {i : Instr} {st st' : List Value} {k : Nat} (h : am_ps i st = some (k, st')) (hdg : decode cc pc = .ok (i, k))
    (kk : W p l e R s m args below meth c H locs cells slots Q (F0 m (pc + k) ls (st'.map (am_up ad)))) : W p l e R s m args below meth c H locs cells slots Q (F0 m pc ls (st.map (am_up ad))) := by
  unfold am_ps at h
  split at h
  case h_1 n => cases h; exact lv_iconst hexec hb hdg rfl kk
  case h_2 n => cases h; exact lv_bipush hexec hb hdg rfl kk
  case h_3 n => cases h; exact lv_sipush hexec hb hdg rfl kk
  case h_4 n => cases h; exact lv_lconst hexec hb hdg rfl kk
  case h_5 n =>
    split at h
    · rename_i hn; subst hn; cases h; exact lv_dconst0 hexec hb hdg kk
    · split at h
      · rename_i hn; subst hn; cases h; exact lv_dconst1 hexec hb hdg kk
      · cases h
  case h_6 => cases h; exact lv_null hexec hb hdg kk
  case h_7 => obtain ⟨x, y, z, r, rfl, hf, rfl, rfl⟩ := am_i2_inv h; cases hf; exact lv_iadd hexec hb hdg kk
  case h_8 => obtain ⟨x, y, z, r, rfl, hf, rfl, rfl⟩ := am_i2_inv h; cases hf; exact lv_isub hexec hb hdg kk
  case h_9 => obtain ⟨x, y, z, r, rfl, hf, rfl, rfl⟩ := am_i2_inv h; cases hf; exact lv_imul hexec hb hdg kk
  case h_10 => obtain ⟨x, y, z, r, rfl, hf, rfl, rfl⟩ := am_i2_inv h; cases hf; exact lv_iand hexec hb hdg kk
  case h_11 => obtain ⟨x, y, z, r, rfl, hf, rfl, rfl⟩ := am_i2_inv h; cases hf; exact lv_ior hexec hb hdg kk
  case h_12 =>
    obtain ⟨x, y, z, r, rfl, hf, rfl, rfl⟩ := am_i2_inv h
    by_cases hy : y = 0
    · rw [if_pos hy] at hf; cases hf
    · rw [if_neg hy] at hf; cases hf; exact lv_idiv hexec hb hdg hy kk
  case h_13 =>
    obtain ⟨x, y, z, r, rfl, hf, rfl, rfl⟩ := am_i2_inv h
    by_cases hy : y = 0
    · rw [if_pos hy] at hf; cases hf
    · rw [if_neg hy] at hf; cases hf; exact lv_irem hexec hb hdg hy kk
  case h_14 => obtain ⟨x, y, z, r, rfl, hf, rfl, rfl⟩ := am_i2_inv h; cases hf; exact lv_ishl hexec hb hdg kk
  case h_15 => obtain ⟨x, y, z, r, rfl, hf, rfl, rfl⟩ := am_i2_inv h; cases hf; exact lv_ishr hexec hb hdg kk
  case h_16 => obtain ⟨x, y, z, r, rfl, hf, rfl, rfl⟩ := am_l2_inv h; cases hf; exact lv_ladd hexec hb hdg kk
  case h_17 => obtain ⟨x, y, z, r, rfl, hf, rfl, rfl⟩ := am_l2_inv h; cases hf; exact lv_lsub hexec hb hdg kk
  case h_18 => obtain ⟨x, y, z, r, rfl, hf, rfl, rfl⟩ := am_l2_inv h; cases hf; exact lv_lmul hexec hb hdg kk
  case h_19 => obtain ⟨x, y, z, r, rfl, hf, rfl, rfl⟩ := am_l2_inv h; cases hf; exact lv_land hexec hb hdg kk
  case h_20 => obtain ⟨x, y, z, r, rfl, hf, rfl, rfl⟩ := am_l2_inv h; cases hf; exact lv_lor hexec hb hdg kk
  case h_21 => obtain ⟨x, y, z, r, rfl, hf, rfl, rfl⟩ := am_l2_inv h; cases hf; exact lv_lxor hexec hb hdg kk
  case h_22 =>
    obtain ⟨x, y, z, r, rfl, hf, rfl, rfl⟩ := am_l2_inv h
    by_cases hy : y = 0
    · rw [if_pos hy] at hf; cases hf
    · rw [if_neg hy] at hf; cases hf; exact lv_ldiv hexec hb hdg hy kk
  case h_23 =>
    obtain ⟨x, y, z, r, rfl, hf, rfl, rfl⟩ := am_l2_inv h
    by_cases hy : y = 0
    · rw [if_pos hy] at hf; cases hf
    · rw [if_neg hy] at hf; cases hf; exact lv_lrem hexec hb hdg hy kk
  case h_24 =>
    split at h
    · cases h; exact lv_lneg hexec hb hdg kk
    · cases h
  case h_25 => obtain ⟨x, y, r, rfl, rfl, rfl⟩ := am_ls_inv h; exact lv_lshl hexec hb hdg rfl kk
  case h_26 => obtain ⟨x, y, r, rfl, rfl, rfl⟩ := am_ls_inv h; exact lv_lshr hexec hb hdg rfl kk
  case h_27 => obtain ⟨x, y, r, rfl, rfl, rfl⟩ := am_ls_inv h; exact lv_lushr hexec hb hdg rfl kk
  case h_28 => obtain ⟨x, y, r, rfl, hn, rfl, rfl⟩ := am_d2_inv h; exact lv_dadd hexec hb hdg hn kk
  case h_29 => obtain ⟨x, y, r, rfl, hn, rfl, rfl⟩ := am_d2_inv h; exact lv_dsub hexec hb hdg hn kk
  case h_30 => obtain ⟨x, y, r, rfl, hn, rfl, rfl⟩ := am_d2_inv h; exact lv_dmul hexec hb hdg hn kk
  case h_31 => obtain ⟨x, y, r, rfl, hn, rfl, rfl⟩ := am_d2_inv h; exact lv_ddiv hexec hb hdg hn kk
  case h_32 => obtain ⟨x, y, r, rfl, hn, rfl, rfl⟩ := am_d2_inv h; exact lv_drem hexec hb hdg hn kk
  case h_33 =>
    split at h
    · cases h; exact lv_dneg hexec hb hdg kk
    · cases h
  case h_34 =>
    split at h
    · cases h; exact lv_i2l hexec hb hdg rfl kk
    · cases h
  case h_35 =>
    split at h
    · cases h; exact lv_l2i hexec hb hdg rfl kk
    · cases h
  case h_36 =>
    split at h
    · cases h; exact lv_i2b hexec hb hdg rfl kk
    · cases h
  case h_37 =>
    split at h
    · cases h; exact lv_i2c hexec hb hdg rfl kk
    · cases h
  case h_38 =>
    split at h
    · cases h; exact lv_l2d hexec hb hdg kk
    · cases h
  case h_39 =>
    split at h
    · cases h; exact lv_d2l hexec hb hdg kk
    · cases h
  case h_40 =>
    split at h
    · cases h; exact W.lcmp hexec hb hdg kk
    · cases h
  case h_41 =>
    split at h
    · cases h; exact lv_dcmp hexec hb hdg kk
    · cases h
  case h_42 =>
    split at h
    · split at h
      next hc => cases h; exact lv_dup hexec hb hdg (by rw [am_up_cat]; exact hc) kk
      next => cases h
    · cases h
  case h_43 =>
    split at h
    · split at h
      next hc => cases h; exact lv_dup2_11 hexec hb hdg (by rw [am_up_cat]; exact hc.1) (by rw [am_up_cat]; exact hc.2) kk
      next => cases h
    · cases h
  case h_44 =>
    split at h
    · split at h
      next hc => cases h; exact lv_pop hexec hb hdg (by rw [am_up_cat]; exact hc) kk
      next => cases h
    · cases h
  case h_45 =>
    split at h
    · split at h
      next hc => cases h; exact lv_pop2_2 hexec hb hdg (by rw [am_up_cat]; exact hc) kk
      next => cases h
    · cases h
  case h_46 => cases h
theorem am_tgo {pc : Nat} {off : Int} {t : Nat} (h : am_tg? pc off = some t) : (pc : Int) + off = (t : Int) := by
  unfold am_tg? at h
  split at h
  · cases h; omega
  · cases h
theorem am_map1 {α β : Type} {o : Option α} {f : α → β} {b : β} (h : o.map f = some b) : ∃ a, o = some a ∧ f a = b := by
  cases o with
  | none => cases h
  | some a => exact ⟨a, rfl, Option.some.inj h⟩
theorem am_ifb {P : Prop} [Decidable P] {t u : Nat} {A : Nat → Prop} (h : A (if decide P = true then t else u)) : (P → A t) ∧ (¬ P → A u) := by
  by_cases hp : P
  · rw [if_pos (decide_eq_true hp)] at h
    exact ⟨fun _ => h, fun hn => absurd hp hn⟩
  · rw [if_neg (fun q => hp (of_decide_eq_true q))] at h
    exact ⟨fun q => absurd q hp, fun _ => h⟩
theorem am_br_ok (hexec : p.tables.exec = Jvm.exec) (hb : c.code = cc) {i : Instr} {st st' : List Value} {t len : Nat} (h : am_br i pc len st = some (t, st')) (hdg : decode cc pc = .ok (i, len))
    (kk : W p l e R s m args below meth c H locs cells slots Q (F0 m t ls (st'.map (am_up ad)))) : W p l e R s m args below meth c H locs cells slots Q (F0 m pc ls (st.map (am_up ad))) := by
  unfold am_br at h
  split at h
  · split at h
    next hl =>
      subst hl
      obtain ⟨t', ht, he⟩ := am_map1 h
      cases he
      exact lv_goto hexec hb hdg (am_tgo ht) kk
    next => cases h
  · rename_i cd off
    split at h
    · rename_i x r
      split at h
      next hl =>
        subst hl
        obtain ⟨t', ht, he⟩ := am_map1 h
        cases he
        cases cd
        · have q := am_ifb (A := fun z => W p l e R s m args below meth c H locs cells slots Q (F0 m z ls (st'.map (am_up ad)))) kk; exact lv_if_eq hexec hb hdg (am_tgo ht) q.1 q.2
        · have q := am_ifb (A := fun z => W p l e R s m args below meth c H locs cells slots Q (F0 m z ls (st'.map (am_up ad)))) kk; exact lv_if_ne hexec hb hdg (am_tgo ht) q.1 (fun z => q.2 (fun w => w z))
        · have q := am_ifb (A := fun z => W p l e R s m args below meth c H locs cells slots Q (F0 m z ls (st'.map (am_up ad)))) kk; exact lv_if_lt hexec hb hdg (am_tgo ht) q.1 q.2
        · have q := am_ifb (A := fun z => W p l e R s m args below meth c H locs cells slots Q (F0 m z ls (st'.map (am_up ad)))) kk; exact lv_if_ge hexec hb hdg (am_tgo ht) q.1 q.2
        · have q := am_ifb (A := fun z => W p l e R s m args below meth c H locs cells slots Q (F0 m z ls (st'.map (am_up ad)))) kk; exact lv_if_gt hexec hb hdg (am_tgo ht) q.1 q.2
        · have q := am_ifb (A := fun z => W p l e R s m args below meth c H locs cells slots Q (F0 m z ls (st'.map (am_up ad)))) kk; exact lv_if_le hexec hb hdg (am_tgo ht) q.1 q.2
      next => cases h
    · cases h
  · rename_i cd off
    split at h
    · rename_i y x r
      split at h
      next hl =>
        subst hl
        obtain ⟨t', ht, he⟩ := am_map1 h
        cases he
        cases cd
        · have q := am_ifb (A := fun z => W p l e R s m args below meth c H locs cells slots Q (F0 m z ls (st'.map (am_up ad)))) kk; exact lv_icmp_eq hexec hb hdg (am_tgo ht) q.1 q.2
        · have q := am_ifb (A := fun z => W p l e R s m args below meth c H locs cells slots Q (F0 m z ls (st'.map (am_up ad)))) kk; exact lv_icmp_ne hexec hb hdg (am_tgo ht) q.1 (fun z => q.2 (fun w => w z))
        · have q := am_ifb (A := fun z => W p l e R s m args below meth c H locs cells slots Q (F0 m z ls (st'.map (am_up ad)))) kk; exact lv_icmp_lt hexec hb hdg (am_tgo ht) q.1 q.2
        · have q := am_ifb (A := fun z => W p l e R s m args below meth c H locs cells slots Q (F0 m z ls (st'.map (am_up ad)))) kk; exact lv_icmp_ge hexec hb hdg (am_tgo ht) q.1 q.2
        · have q := am_ifb (A := fun z => W p l e R s m args below meth c H locs cells slots Q (F0 m z ls (st'.map (am_up ad)))) kk; exact lv_icmp_gt hexec hb hdg (am_tgo ht) q.1 q.2
        · have q := am_ifb (A := fun z => W p l e R s m args below meth c H locs cells slots Q (F0 m z ls (st'.map (am_up ad)))) kk; exact lv_icmp_le hexec hb hdg (am_tgo ht) q.1 q.2
      next => cases h
    · cases h
  · split at h
    · split at h
      next hl =>
        subst hl
        obtain ⟨t', ht, he⟩ := am_map1 h
        cases he
        exact lv_ifnullN hexec hb hdg (am_tgo ht) kk
      next => cases h
    · split at h
      next hl => subst hl; cases h; exact lv_ifnull hexec hb hdg kk
      next => cases h
    · cases h
  · split at h
    · split at h
      next hl =>
        subst hl
        obtain ⟨t', ht, he⟩ := am_map1 h
        cases he
        exact lv_ifnonnull hexec hb hdg (am_tgo ht) kk
      next => cases h
    · split at h
      next hl => subst hl; cases h; exact lv_ifnonnullN hexec hb hdg kk
      next => cases h
    · cases h
  · split at h
    · rename_i dflt lo hi offs x r
      split at h
      next hc =>
        obtain ⟨t', ht, he⟩ := am_map1 h
        cases he
        exact lv_tableOut hexec hb hdg hc (am_tgo ht) kk
      next hc =>
        obtain ⟨off, ho, h⟩ := Option.bind_eq_some_iff.mp h
        obtain ⟨t', ht, he⟩ := am_map1 h
        cases he
        exact lv_tableIn hexec hb hdg (fun z => hc (Or.inl z)) (fun z => hc (Or.inr z)) ho (am_tgo ht) kk
    · cases h
  · split at h
    · split at h
      next hp =>
        obtain ⟨t', ht, he⟩ := am_map1 h
        cases he
        exact lv_lookup hexec hb hdg hp rfl (am_tgo ht) kk
      next => cases h
    · cases h
  · cases h
end AM1
/-! locals -/
def am_as1 (ad : Nat → Nat) (ls : am_Lo) : List (Nat × Value) := (List.range ls.length).filterMap fun i => (am_ld ls i).map fun v => (i, am_up ad v)
theorem am_ld_lt {ls : am_Lo} {i : Nat} {v : Value} (h : am_ld ls i = some v) : i < ls.length := by
  unfold am_ld at h
  split at h
  · rename_i w hw; exact (List.getElem?_eq_some_iff.mp hw).1
  · cases h
theorem am_mem {ad : Nat → Nat} {ls : am_Lo} {q : Nat × Value} : q ∈ am_as1 ad ls ↔ ∃ v, am_ld ls q.1 = some v ∧ q.2 = am_up ad v := by
  unfold am_as1
  rw [List.mem_filterMap]
  constructor
  · rintro ⟨i, -, hi⟩
    obtain ⟨v, h1, h2⟩ := am_map1 hi
    subst h2
    exact ⟨v, h1, rfl⟩
  · rintro ⟨v, h1, h2⟩
    refine ⟨q.1, List.mem_range.mpr (am_ld_lt h1), ?_⟩
    rw [h1, Option.map_some, ← h2]
theorem am_has_sub {ls : Array Slot} {n : Nat} {l1 l2 : List (Nat × Value)} (h : lv_has ls n l1) (hs : ∀ q ∈ l2, q ∈ l1) : lv_has ls n l2 := ⟨h.1, h.2.1, fun q hq => h.2.2 q (hs q hq)⟩
theorem am_st_len {ls ls' : am_Lo} {i : Nat} {v : Value} (h : am_st ls i v = some ls') : ls'.length = ls.length := by
  unfold am_st at h
  split at h
  · split at h
    · cases h; simp
    · cases h
  · split at h
    · cases h; simp
    · cases h
theorem am_st1 {ad : Nat → Nat} {ls ls' : am_Lo} {i : Nat} {v : Value} (hc : v.category = 1) (h : am_st ls i v = some ls') : i < ls.length ∧ ∀ q ∈ am_as1 ad ls', q ∈ (i, am_up ad v) :: (am_as1 ad ls).filter (fun q => !(q.1 == i) && !(q.1 + 1 == i && q.2.category == 2)) := by
  unfold am_st at h
  rw [if_neg (by omega)] at h
  split at h
  · rename_i hi
    cases h
    refine ⟨hi, fun q hq => ?_⟩
    obtain ⟨w, h1, h2⟩ := am_mem.mp hq
    obtain ⟨j, u⟩ := q
    simp only at h1 h2
    subst h2
    by_cases hj : j = i
    · subst hj
      unfold am_ld at h1
      rw [List.getElem?_set_self hi] at h1
      simp only at h1
      rw [if_neg (by omega)] at h1
      cases h1
      exact List.mem_cons_self
    · refine List.mem_cons_of_mem _ (List.mem_filter.mpr ⟨am_mem.mpr ⟨w, ?_, rfl⟩, ?_⟩)
      · simp only
        unfold am_ld at h1 ⊢
        rw [List.getElem?_set_ne (Ne.symm hj)] at h1
        split at h1
        · rename_i w' hw'
          rw [hw']
          simp only
          split at h1
          next hc2 =>
            rw [if_pos hc2]
            by_cases hj1 : j + 1 = i
            · subst hj1
              rw [List.getElem?_set_self hi] at h1
              cases h1
            · rw [List.getElem?_set_ne (Ne.symm hj1)] at h1
              exact h1
          next hc2 => rw [if_neg hc2]; exact h1
        · cases h1
      · simp only [Bool.and_eq_true, Bool.not_eq_true', beq_eq_false_iff_ne, Bool.and_eq_false_iff, am_up_cat]
        refine ⟨hj, ?_⟩
        by_cases hj1 : j + 1 = i
        · right
          intro hw
          subst hj1
          unfold am_ld at h1
          split at h1
          · rename_i w' hw'
            rw [List.getElem?_set_self hi] at h1
            split at h1
            · cases h1
            · rename_i hc2; cases h1; exact hc2 hw
          · cases h1
        · left; exact hj1
  · cases h
theorem am_st2 {ad : Nat → Nat} {ls ls' : am_Lo} {i : Nat} {v : Value} (hc : v.category = 2) (h : am_st ls i v = some ls') : i + 1 < ls.length ∧ ∀ q ∈ am_as1 ad ls', q ∈ (i, am_up ad v) :: (am_as1 ad ls).filter (fun q => !(q.1 == i) && (!(q.1 == i + 1) && !(q.1 + 1 == i && q.2.category == 2))) := by
  unfold am_st at h
  rw [if_pos hc] at h
  split at h
  · rename_i hi
    cases h
    refine ⟨hi, fun q hq => ?_⟩
    obtain ⟨w, h1, h2⟩ := am_mem.mp hq
    obtain ⟨j, u⟩ := q
    simp only at h1 h2
    subst h2
    have g1 : ((ls.set i (some v)).set (i + 1) none)[i + 1]? = some none := List.getElem?_set_self (by simpa using hi)
    have g0 : ((ls.set i (some v)).set (i + 1) none)[i]? = some (some v) := by
      rw [List.getElem?_set_ne (by omega), List.getElem?_set_self (by omega)]
    have gn : ∀ k, k ≠ i → k ≠ i + 1 → ((ls.set i (some v)).set (i + 1) none)[k]? = ls[k]? := fun k a b => by
      rw [List.getElem?_set_ne (Ne.symm b), List.getElem?_set_ne (Ne.symm a)]
    by_cases hj : j = i
    · subst hj
      unfold am_ld at h1
      rw [g0] at h1
      simp only at h1
      rw [if_pos hc, g1] at h1
      cases h1
      exact List.mem_cons_self
    · by_cases hj2 : j = i + 1
      · subst hj2
        unfold am_ld at h1
        rw [g1] at h1
        cases h1
      · refine List.mem_cons_of_mem _ (List.mem_filter.mpr ⟨am_mem.mpr ⟨w, ?_, rfl⟩, ?_⟩)
        · simp only
          unfold am_ld at h1 ⊢
          rw [gn j hj hj2] at h1
          split at h1
          · rename_i w' hw'
            split at h1
            next hc2 =>
              rw [if_pos hc2]
              by_cases hj1 : j + 1 = i
              · subst hj1
                rw [g0] at h1
                cases h1
              · rw [gn (j + 1) hj1 (by omega)] at h1
                exact h1
            next hc2 => rw [if_neg hc2]; exact h1
          · cases h1
        · simp only [Bool.and_eq_true, Bool.not_eq_true', beq_eq_false_iff_ne, Bool.and_eq_false_iff, am_up_cat]
          refine ⟨hj, hj2, ?_⟩
          by_cases hj1 : j + 1 = i
          · right
            intro hw
            subst hj1
            unfold am_ld at h1
            split at h1
            · rename_i w' hw'
              rw [g0] at h1
              split at h1
              · cases h1
              · rename_i hc2; cases h1; exact hc2 hw
            · cases h1
          · left; exact hj1
  · cases h
section AM2
variable {p : Program} {l : Launch} {e : Env} {R : Room} {s : State} {m : MethodId} {args : Array Value} {below : List Frame} {meth : Method} {c : Code} {H : Heap} {locs : List Loc} {cells slots : Nat} {Q : State → Prop}
variable {cc : ByteArray} {pc nL : Nat} {lr : Array Slot} {ad : Nat → Nat}
theorem am_ld_real {ls : am_Lo} {i : Nat} {v : Value} (h : lv_has lr nL (am_as1 ad ls)) (hv : am_ld ls i = some v) : lr[i]? = some (.val (am_up ad v)) := h.2.2 (i, am_up ad v) (am_mem.mpr ⟨v, hv, rfl⟩)
theorem am_lo_inv {ty : Nat} {ls ls' : am_Lo} {i n k : Nat} {st st' : List Value} (h : am_lo ty ls i n st = some (k, ls', st')) : ∃ v, am_ld ls i = some v ∧ am_vt v = ty ∧ k = n ∧ ls' = ls ∧ st' = v :: st := by
  unfold am_lo at h
  split at h
  · rename_i v hv
    split at h
    next ht => cases h; exact ⟨v, hv, ht, rfl, rfl, rfl⟩
    next => cases h
  · cases h
theorem am_so_inv {ty : Nat} {ls ls' : am_Lo} {i n k : Nat} {st st' : List Value} (h : am_so ty ls i n st = some (k, ls', st')) : ∃ v r, st = v :: r ∧ am_vt v = ty ∧ am_st ls i v = some ls' ∧ k = n ∧ st' = r := by
  unfold am_so at h
  split at h
  · rename_i v r
    split at h
    next ht =>
      obtain ⟨x, h1, h2⟩ := am_map1 h
      cases h2
      exact ⟨v, _, rfl, ht, h1, rfl, rfl⟩
    next => cases h
  · cases h
theorem am_lc_ok (hexec : p.tables.exec = Jvm.exec) (hb : c.code = cc) {i : Instr} {ls ls' : am_Lo} {st st' : List Value} {k : Nat} (h : am_lc i ls st = some (k, ls', st')) (hdg : decode cc pc = .ok (i, k)) (hn : ls.length = nL) (hl : lv_has lr nL (am_as1 ad ls))
    (kk : ∀ lr' : Array Slot, ls'.length = nL → lv_has lr' nL (am_as1 ad ls') → W p l e R s m args below meth c H locs cells slots Q (F0 m (pc + k) lr' (st'.map (am_up ad)))) : W p l e R s m args below meth c H locs cells slots Q (F0 m pc lr (st.map (am_up ad))) := by
  unfold am_lc at h
  split at h
  case h_1 =>
    obtain ⟨v, hv, ht, rfl, rfl, rfl⟩ := am_lo_inv h
    have hr := am_ld_real hl hv
    have kk := kk lr hn hl
    cases v with
    | int x => exact lv_iload_n hexec hb hdg rfl hr kk
    | long x => simp [am_vt] at ht
    | float x => simp [am_vt] at ht
    | double x => simp [am_vt] at ht
    | null => simp [am_vt] at ht
    | ref x => simp [am_vt] at ht
    | retAddr x => simp [am_vt] at ht
  case h_2 =>
    obtain ⟨v, hv, ht, rfl, rfl, rfl⟩ := am_lo_inv h
    have hr := am_ld_real hl hv
    have kk := kk lr hn hl
    cases v with
    | int x => exact lv_iload hexec hb hdg hr kk
    | long x => simp [am_vt] at ht
    | float x => simp [am_vt] at ht
    | double x => simp [am_vt] at ht
    | null => simp [am_vt] at ht
    | ref x => simp [am_vt] at ht
    | retAddr x => simp [am_vt] at ht
  case h_3 =>
    obtain ⟨v, hv, ht, rfl, rfl, rfl⟩ := am_lo_inv h
    have hr := am_ld_real hl hv
    have kk := kk lr hn hl
    cases v with
    | int x => simp [am_vt] at ht
    | long x => exact lv_lload_n hexec hb hdg rfl hr kk
    | float x => simp [am_vt] at ht
    | double x => simp [am_vt] at ht
    | null => simp [am_vt] at ht
    | ref x => simp [am_vt] at ht
    | retAddr x => simp [am_vt] at ht
  case h_4 =>
    obtain ⟨v, hv, ht, rfl, rfl, rfl⟩ := am_lo_inv h
    have hr := am_ld_real hl hv
    have kk := kk lr hn hl
    cases v with
    | int x => simp [am_vt] at ht
    | long x => exact lv_lload hexec hb hdg hr kk
    | float x => simp [am_vt] at ht
    | double x => simp [am_vt] at ht
    | null => simp [am_vt] at ht
    | ref x => simp [am_vt] at ht
    | retAddr x => simp [am_vt] at ht
  case h_5 =>
    obtain ⟨v, hv, ht, rfl, rfl, rfl⟩ := am_lo_inv h
    have hr := am_ld_real hl hv
    have kk := kk lr hn hl
    cases v with
    | int x => simp [am_vt] at ht
    | long x => simp [am_vt] at ht
    | float x => simp [am_vt] at ht
    | double x => exact lv_dload_n hexec hb hdg rfl hr kk
    | null => simp [am_vt] at ht
    | ref x => simp [am_vt] at ht
    | retAddr x => simp [am_vt] at ht
  case h_6 =>
    obtain ⟨v, hv, ht, rfl, rfl, rfl⟩ := am_lo_inv h
    have hr := am_ld_real hl hv
    have kk := kk lr hn hl
    cases v with
    | int x => simp [am_vt] at ht
    | long x => simp [am_vt] at ht
    | float x => simp [am_vt] at ht
    | double x => exact lv_dload hexec hb hdg hr kk
    | null => simp [am_vt] at ht
    | ref x => simp [am_vt] at ht
    | retAddr x => simp [am_vt] at ht
  case h_7 =>
    obtain ⟨v, hv, ht, rfl, rfl, rfl⟩ := am_lo_inv h
    have hr := am_ld_real hl hv
    have kk := kk lr hn hl
    cases v with
    | int x => simp [am_vt] at ht
    | long x => simp [am_vt] at ht
    | float x => simp [am_vt] at ht
    | double x => simp [am_vt] at ht
    | null => exact lv_aload_nN hexec hb hdg rfl hr kk
    | ref x => exact lv_aload_n hexec hb hdg rfl hr kk
    | retAddr x => simp [am_vt] at ht
  case h_8 =>
    obtain ⟨v, hv, ht, rfl, rfl, rfl⟩ := am_lo_inv h
    have hr := am_ld_real hl hv
    have kk := kk lr hn hl
    cases v with
    | int x => simp [am_vt] at ht
    | long x => simp [am_vt] at ht
    | float x => simp [am_vt] at ht
    | double x => simp [am_vt] at ht
    | null => exact lv_aloadN hexec hb hdg hr kk
    | ref x => exact lv_aload hexec hb hdg hr kk
    | retAddr x => simp [am_vt] at ht
  case h_9 =>
    obtain ⟨v, r, rfl, ht, hst, rfl, rfl⟩ := am_so_inv h
    have hlen := am_st_len hst
    cases v with
    | int x =>
      obtain ⟨hi, hs⟩ := am_st1 (ad := ad) rfl hst
      exact lv_istore_n hexec hb hdg rfl hl (by omega) rfl (fun lr' hl' => kk lr' (by omega) (am_has_sub hl' hs))
    | long x => simp [am_vt] at ht
    | float x => simp [am_vt] at ht
    | double x => simp [am_vt] at ht
    | null => simp [am_vt] at ht
    | ref x => simp [am_vt] at ht
    | retAddr x => simp [am_vt] at ht
  case h_10 =>
    obtain ⟨v, r, rfl, ht, hst, rfl, rfl⟩ := am_so_inv h
    have hlen := am_st_len hst
    cases v with
    | int x =>
      obtain ⟨hi, hs⟩ := am_st1 (ad := ad) rfl hst
      exact lv_istore hexec hb hdg hl (by omega) rfl (fun lr' hl' => kk lr' (by omega) (am_has_sub hl' hs))
    | long x => simp [am_vt] at ht
    | float x => simp [am_vt] at ht
    | double x => simp [am_vt] at ht
    | null => simp [am_vt] at ht
    | ref x => simp [am_vt] at ht
    | retAddr x => simp [am_vt] at ht
  case h_11 =>
    obtain ⟨v, r, rfl, ht, hst, rfl, rfl⟩ := am_so_inv h
    have hlen := am_st_len hst
    cases v with
    | int x => simp [am_vt] at ht
    | long x =>
      obtain ⟨hi, hs⟩ := am_st2 (ad := ad) rfl hst
      exact lv_lstore_n hexec hb hdg rfl hl (by omega) rfl (fun lr' hl' => kk lr' (by omega) (am_has_sub hl' hs))
    | float x => simp [am_vt] at ht
    | double x => simp [am_vt] at ht
    | null => simp [am_vt] at ht
    | ref x => simp [am_vt] at ht
    | retAddr x => simp [am_vt] at ht
  case h_12 =>
    obtain ⟨v, r, rfl, ht, hst, rfl, rfl⟩ := am_so_inv h
    have hlen := am_st_len hst
    cases v with
    | int x => simp [am_vt] at ht
    | long x =>
      obtain ⟨hi, hs⟩ := am_st2 (ad := ad) rfl hst
      exact lv_lstore hexec hb hdg hl (by omega) rfl (fun lr' hl' => kk lr' (by omega) (am_has_sub hl' hs))
    | float x => simp [am_vt] at ht
    | double x => simp [am_vt] at ht
    | null => simp [am_vt] at ht
    | ref x => simp [am_vt] at ht
    | retAddr x => simp [am_vt] at ht
  case h_13 =>
    obtain ⟨v, r, rfl, ht, hst, rfl, rfl⟩ := am_so_inv h
    have hlen := am_st_len hst
    cases v with
    | int x => simp [am_vt] at ht
    | long x => simp [am_vt] at ht
    | float x => simp [am_vt] at ht
    | double x =>
      obtain ⟨hi, hs⟩ := am_st2 (ad := ad) rfl hst
      exact lv_dstore_n hexec hb hdg rfl hl (by omega) rfl (fun lr' hl' => kk lr' (by omega) (am_has_sub hl' hs))
    | null => simp [am_vt] at ht
    | ref x => simp [am_vt] at ht
    | retAddr x => simp [am_vt] at ht
  case h_14 =>
    obtain ⟨v, r, rfl, ht, hst, rfl, rfl⟩ := am_so_inv h
    have hlen := am_st_len hst
    cases v with
    | int x => simp [am_vt] at ht
    | long x => simp [am_vt] at ht
    | float x => simp [am_vt] at ht
    | double x =>
      obtain ⟨hi, hs⟩ := am_st2 (ad := ad) rfl hst
      exact lv_dstore hexec hb hdg hl (by omega) rfl (fun lr' hl' => kk lr' (by omega) (am_has_sub hl' hs))
    | null => simp [am_vt] at ht
    | ref x => simp [am_vt] at ht
    | retAddr x => simp [am_vt] at ht
  case h_15 =>
    obtain ⟨v, r, rfl, ht, hst, rfl, rfl⟩ := am_so_inv h
    have hlen := am_st_len hst
    cases v with
    | int x => simp [am_vt] at ht
    | long x => simp [am_vt] at ht
    | float x => simp [am_vt] at ht
    | double x => simp [am_vt] at ht
    | null =>
      obtain ⟨hi, hs⟩ := am_st1 (ad := ad) rfl hst
      exact lv_astore_nN hexec hb hdg rfl hl (by omega) rfl (fun lr' hl' => kk lr' (by omega) (am_has_sub hl' hs))
    | ref x =>
      obtain ⟨hi, hs⟩ := am_st1 (ad := ad) rfl hst
      exact lv_astore_n hexec hb hdg rfl hl (by omega) rfl (fun lr' hl' => kk lr' (by omega) (am_has_sub hl' hs))
    | retAddr x => simp [am_vt] at ht
  case h_16 =>
    obtain ⟨v, r, rfl, ht, hst, rfl, rfl⟩ := am_so_inv h
    have hlen := am_st_len hst
    cases v with
    | int x => simp [am_vt] at ht
    | long x => simp [am_vt] at ht
    | float x => simp [am_vt] at ht
    | double x => simp [am_vt] at ht
    | null =>
      obtain ⟨hi, hs⟩ := am_st1 (ad := ad) rfl hst
      exact lv_astoreN hexec hb hdg hl (by omega) rfl (fun lr' hl' => kk lr' (by omega) (am_has_sub hl' hs))
    | ref x =>
      obtain ⟨hi, hs⟩ := am_st1 (ad := ad) rfl hst
      exact lv_astore hexec hb hdg hl (by omega) rfl (fun lr' hl' => kk lr' (by omega) (am_has_sub hl' hs))
    | retAddr x => simp [am_vt] at ht
  case h_17 j n =>
    split at h
    · rename_i x hx
      obtain ⟨ls2, h1, h2⟩ := am_map1 h
      cases h2
      obtain ⟨hi, hs⟩ := am_st1 (ad := ad) rfl h1
      obtain ⟨q, hq⟩ := List.getElem?_of_mem (am_mem.mpr ⟨.int x, hx, rfl⟩ : (j, am_up ad (.int x)) ∈ am_as1 ad ls)
      exact lv_iinc hexec hb hdg hl hq rfl (by omega) rfl (fun lr' hl' => kk lr' (by rw [am_st_len h1]; exact hn) (am_has_sub hl' hs))
    · cases h
  case h_18 => cases h
end AM2

/-! THE MAIN ROW: what am answers, the machine answers -/
theorem am_hp_mono {own d k : Nat} {ini : Bool} {i : Instr} {st st' : List Value} {h h' : am_H} (hh : am_hp own ini d i st h = some (k, st', h')) : h.1 ≤ h'.1 ∧ h.2.1 ≤ h'.2.1 := by
  unfold am_hp at hh
  have al : ∀ {tys : List FieldType}, am_al tys st h = some (k, st', h') → h.1 ≤ h'.1 ∧ h.2.1 ≤ h'.2.1 := by
    intro tys ha
    unfold am_al at ha
    split at ha
    · split at ha
      · cases ha; exact ⟨Nat.le_refl _, Nat.le_refl _⟩
      · cases ha
    · cases ha
  have as : ∀ {tys : List FieldType}, am_as tys st h = some (k, st', h') → h.1 ≤ h'.1 ∧ h.2.1 ≤ h'.2.1 := by
    intro tys ha
    unfold am_as at ha
    split at ha
    · split at ha
      · obtain ⟨h1, hp, hq⟩ := am_map1 ha
        cases hq
        unfold am_pu at hp
        split at hp
        · split at hp
          · cases hp; exact ⟨Nat.le_refl _, Nat.le_refl _⟩
          · cases hp
        · obtain ⟨hd, -⟩ := am_put_inv id hp
          exact ⟨Nat.le_of_eq hd.1.symm, Nat.le_of_eq hd.2.1.symm⟩
      · cases ha
    · cases ha
  split at hh
  case h_6 => exact al hh
  case h_7 => exact al hh
  case h_8 => exact al hh
  case h_9 => exact al hh
  case h_11 => exact as hh
  case h_12 => exact as hh
  case h_13 => exact as hh
  case h_14 => exact as hh
  case h_5 =>
    split at hh
    · split at hh
      · obtain ⟨h1, hp, hq⟩ := am_map1 hh
        cases hq
        obtain ⟨hd, -⟩ := am_put_inv id hp
        exact ⟨Nat.le_of_eq hd.1.symm, Nat.le_of_eq hd.2.1.symm⟩
      · cases hh
    · cases hh
  case h_17 =>
    split at hh
    · split at hh
      · cases hh; exact ⟨Nat.le_succ _, Nat.le_add_right _ _⟩
      · cases hh
    · cases hh
  case h_18 =>
    split at hh
    · split at hh
      · cases hh; exact ⟨Nat.le_succ _, Nat.le_add_right _ _⟩
      · cases hh
    · cases hh
  case h_19 =>
    split at hh
    · split at hh
      · cases hh; exact ⟨Nat.le_succ _, Nat.le_add_right _ _⟩
      · cases hh
    · cases hh
  all_goals (repeat' split at hh) <;> first | (cases hh; exact ⟨Nat.le_refl _, Nat.le_refl _⟩) | (cases hh; done)
theorem am_mono : ∀ (n d mi pc : Nat) (ls : am_Lo) (st : List Value) (h : am_H) (r : Option Value) (h' : am_H), am n d mi pc ls st h = some (r, h') → h.1 ≤ h'.1 ∧ h.2.1 ≤ h'.2.1 := by
  intro n
  induction n with
  | zero => intro d mi pc ls st h r h' ha; cases ha
  | succ n ih =>
    intro d mi pc ls st h r h' ha
    unfold am at ha
    split at ha
    · cases ha
    · split at ha
      · cases ha
      · split at ha
        · split at ha
          · cases ha; exact ⟨Nat.le_refl _, Nat.le_refl _⟩
          · cases ha
        · split at ha
          · split at ha
            · exact ih _ _ _ _ _ _ _ _ ha
            · cases ha
          · split at ha
            · exact ih _ _ _ _ _ _ _ _ ha
            · split at ha
              · split at ha
                · exact ih _ _ _ _ _ _ _ _ ha
                · cases ha
              · split at ha
                · rename_i hh
                  split at ha
                  · have h1 := am_hp_mono hh
                    have h2 := ih _ _ _ _ _ _ _ _ ha
                    exact ⟨Nat.le_trans h1.1 h2.1, Nat.le_trans h1.2 h2.2⟩
                  · cases ha
                · split at ha
                  · split at ha
                    · cases ha
                    · split at ha
                      · rename_i hh
                        split at ha
                        · have h1 := ih _ _ _ _ _ _ _ _ hh
                          have h2 := ih _ _ _ _ _ _ _ _ ha
                          exact ⟨Nat.le_trans h1.1 h2.1, Nat.le_trans h1.2 h2.2⟩
                        · cases ha
                      · cases ha
                  · cases ha
abbrev am_Qc (w : am_X) (r : Option Value) (h' : am_H) : Array Value → State → Outcome → State → Prop := fun _ _ o t => o = .returned (r.map (am_up (am_a w))) ∧ am_Rp w h' t.heap
section AM8
variable {p : Program} {l : Launch} {e : Env} {R : Room} {s : State} {m : MethodId} {args : Array Value} {below : List Frame} {meth : Method} {c : Code} {H : Heap} {locs : List Loc} {cells slots : Nat} {Q : State → Prop}
variable {cc : ByteArray} {pc : Nat} {lr : Array Slot} {w : am_X} {h : am_H} {own : Nat}
theorem am_rt_ok (hx : p.tables.exec = Jvm.exec) (hb : c.code = cc) {ret : Option FieldType} (hr : meth.sig.returnType = ret) (hlocks : meth.locks = false) (hR : am_Rp w h H) (hlo : ∀ q ∈ locs, am_b w ≤ q.base) {i : Instr} {st : List Value} {r : Option Value} (hh : am_rt ret i st = some r) (hdg : decode cc pc = .ok (i, 1)) :
    W p l e R s m args below meth c H locs cells slots (MQ below (am_Qc w r h) args s cells slots (fun q => am_b w ≤ q)) (F0 m pc lr (st.map (am_up (am_a w)))) := by
  have hq : ∀ (v : Option Value) (t : State), t.heap = H → am_Qc w v h args s (.returned (v.map (am_up (am_a w)))) t := fun v t ht => ⟨rfl, by rw [ht]; exact hR⟩
  unfold am_rt at hh
  split at hh
  · split at hh
    · rename_i ty v
      split at hh
      next hc =>
        cases hh
        exact W.zret hx hb hr hc.1 (fun t ht _ => hq (some (.int v)) t ht) hlo hdg hlocks
      next => cases hh
    · cases hh
  · split at hh
    · rename_i v
      cases hh
      exact W.lret hx hb hr (fun t ht _ => hq (some (.long v)) t ht) hlo hdg hlocks
    · cases hh
  · split at hh
    · rename_i v
      cases hh
      exact W.dret hx hb hr (fun t ht _ => hq (some (.double v)) t ht) hlo hdg hlocks
    · cases hh
  · split at hh
    · rename_i nm v
      obtain ⟨x, h1, h2⟩ := am_map1 hh
      subst h2
      obtain rfl := am_rfo_inv h1
      exact W.aret hx hb hr (Or.inl ⟨_, rfl⟩) (by cases x; exact Or.inl rfl; exact Or.inr ⟨_, rfl⟩) (fun t ht _ => hq (some (va_rf x)) t ht) hlo hdg hlocks
    · rename_i ty v
      obtain ⟨x, h1, h2⟩ := am_map1 hh
      subst h2
      obtain rfl := am_rfo_inv h1
      exact W.aret hx hb hr (Or.inr ⟨_, rfl⟩) (by cases x; exact Or.inl rfl; exact Or.inr ⟨_, rfl⟩) (fun t ht _ => hq (some (va_rf x)) t ht) hlo hdg hlocks
    · cases hh
  · split at hh
    · cases hh
      exact W.vret hx hb hr (fun t ht _ => hq none t ht) hlo hdg hlocks
    · cases hh
  · cases hh
/-- behind a call -/
theorem am_after {mc ms : Nat} {r1 : Option Value} {h1 : am_H} {a : Array Value} {rest : List Value} {st0 : List Value} (hr : CallRun p l e R s m args below meth c H locs cells slots mc ms (F0 m pc lr st0) (rest.map (am_up (am_a w))) (am_Qc w r1 h1 a) (fun q => am_b w ≤ q)) (hlo : ∀ q ∈ locs, am_b w ≤ q.base)
    (kk : ∀ (H1 : Heap) (locs1 : List Loc), am_Rp w h1 H1 → (∀ q ∈ locs1, am_b w ≤ q.base) → W p l e R s m args below meth c H1 locs1 (cells + mc) (slots + ms) Q (F0 m (pc + 3) lr ((r1.toList ++ rest).map (am_up (am_a w))))) : W p l e R s m args below meth c H locs cells slots Q (F0 m pc lr st0) := by
  intro T hT X
  obtain ⟨v, st₀, t, T', L, g0, X', hL, g1, ⟨hv, hh⟩, st⟩ := hr T hT X
  cases hv
  obtain ⟨t2, a1, b1⟩ := kk T'.heap (locs ++ L) (by rw [g1]; exact hh) (fun q hq => by
    rcases List.mem_append.mp hq with q1 | q1
    · exact hlo q q1
    · exact hL q q1) T' rfl X'
  refine ⟨t2, st t2 ?_, b1⟩
  have e : (r1.map (am_up (am_a w))).toList ++ rest.map (am_up (am_a w)) = (r1.toList ++ rest).map (am_up (am_a w)) := by
    cases r1 <;> rfl
  rw [e]
  exact a1
end AM8
/-! a method's entry -/
theorem am_ld_app (x : Option Value) (L : am_Lo) (i : Nat) : am_ld (x :: L) (i + 1) = am_ld L i := by
  unfold am_ld
  simp only [List.getElem?_cons_succ]
theorem am_ld_rep (k i : Nat) : am_ld (List.replicate k none) i = none := by
  unfold am_ld
  split
  · rename_i v hv
    have := List.eq_of_mem_replicate (List.mem_of_getElem? hv)
    cases this
  · rfl
theorem am_fl_args (ad : Nat → Nat) (k : Nat) : ∀ (as : List Value) (off i : Nat) (v : Value), am_ld (am_fl as ++ List.replicate k none) i = some v → (i + off, am_up ad v) ∈ lv_args off (as.map (am_up ad)) := by
  intro as
  induction as with
  | nil =>
    intro off i v hv
    rw [show am_fl [] ++ List.replicate k none = List.replicate k none from rfl, am_ld_rep] at hv
    cases hv
  | cons a as ih =>
    intro off i v hv
    show _ ∈ (off, am_up ad a) :: lv_args (if (am_up ad a).category = 2 then off + 2 else off + 1) (as.map (am_up ad))
    rw [am_up_cat]
    by_cases hc : a.category = 2
    · rw [if_pos hc]
      have e : am_fl (a :: as) ++ List.replicate k none = some a :: none :: (am_fl as ++ List.replicate k none) := by simp [am_fl, hc]
      rw [e] at hv
      match i, hv with
      | 0, hv =>
        unfold am_ld at hv
        simp only [List.getElem?_cons_zero, List.getElem?_cons_succ, hc, if_true] at hv
        cases hv
        rw [Nat.zero_add]
        exact List.mem_cons_self
      | 1, hv => rw [am_ld_app] at hv; unfold am_ld at hv; simp only [List.getElem?_cons_zero] at hv; cases hv
      | i + 2, hv =>
        rw [am_ld_app, am_ld_app] at hv
        have := ih (off + 2) i v hv
        rw [show i + 2 + off = i + (off + 2) by omega]
        exact List.mem_cons_of_mem _ this
    · rw [if_neg hc]
      have e : am_fl (a :: as) ++ List.replicate k none = some a :: (am_fl as ++ List.replicate k none) := by simp [am_fl, hc]
      rw [e] at hv
      match i, hv with
      | 0, hv =>
        unfold am_ld at hv
        simp only [List.getElem?_cons_zero, hc, if_false] at hv
        cases hv
        rw [Nat.zero_add]
        exact List.mem_cons_self
      | i + 1, hv =>
        rw [am_ld_app] at hv
        have := ih (off + 1) i v hv
        rw [show i + 1 + off = i + (off + 1) by omega]
        exact List.mem_cons_of_mem _ this
theorem am_fl_len (ad : Nat → Nat) (as : List Value) : (lg_sl (as.map (am_up ad))).length = (am_fl as).length := by
  induction as with
  | nil => rfl
  | cons a as ih =>
    unfold lg_sl am_fl at ih ⊢
    simp only [List.map_cons, List.flatMap_cons, List.length_append, am_up_cat, ih]
    split <;> rfl
theorem am_entry (ad : Nat → Nat) {n : Nat} {as : List Value} (h : (am_fl as).length ≤ n) : (am_en n as).length = n ∧ lv_has ((lg_sl (as.map (am_up ad)) ++ List.replicate (n - (lg_sl (as.map (am_up ad))).length) Slot.unset).toArray) n (am_as1 ad (am_en n as)) := by
  refine ⟨by unfold am_en; simp only [List.length_append, List.length_replicate]; omega, ?_⟩
  refine am_has_sub (lv_entry (as.map (am_up ad)) (n := n) (by rw [am_fl_len]; exact h)) fun q hq => ?_
  obtain ⟨v, h1, h2⟩ := am_mem.mp hq
  obtain ⟨i, u⟩ := q
  simp only at h1 h2
  subst h2
  have := am_fl_args ad _ as 0 i v h1
  rwa [Nat.add_zero] at this
set_option maxRecDepth 100000 in
theorem am_e100 : ∀ e ∈ am_mt, e.1 < 100 := by decide +kernel
set_option maxRecDepth 100000 in
theorem am_nestin : ∀ e ∈ am_mk, 10 ≤ e.2.2.1 → Cond.methodLinkNest (am_cn e.1) e.2.1 (am_y e.2.2.2.1) "LoadBook" ∈ am_nw := by decide +kernel
theorem am_y_eq {mi : Nat} {e0 : Nat × String × String × ByteArray × Nat × Option FieldType} (he : am_mt[mi]? = some e0) : am_y mi = ⟨am_cn e0.1, e0.2.1, e0.2.2.1⟩ := by
  unfold am_y; rw [he]
/-- what am's run from a frame says of the machine -/
def am_Wn (l : Launch) (w : am_X) (n : Nat) : Prop := ∀ (d mi pc : Nat) (ls : am_Lo) (st : List Value) (h : am_H) (r : Option Value) (h' : am_H), am n d mi pc ls st h = some (r, h') → ∀ e0, am_mt[mi]? = some e0 →
  ∀ (p : Program) (e : Env) (R : Room) (s : State) (m : MethodId) (args : Array Value) (below : List Frame) (meth : Method) (c : Code) (H : Heap) (locs : List Loc) (lr : Array Slot) (h0 : am_H),
  p.tables.exec = Jvm.exec → c.code = e0.2.2.2.1 → meth.sig.returnType = e0.2.2.2.2.2 → c.maxLocals = e0.2.2.2.2.1 → meth.locks = false → s.vm.findClass (am_cn e0.1) = some m.cls → (∀ q ∈ am_gw, q.before args s = true) → am_K w s → ((e0.2.1 == "<init>") = true → meth.name = "<init>") →
  am_Rp w h H → (∀ q ∈ locs, am_b w ≤ q.base) → ls.length = e0.2.2.2.2.1 → lv_has lr e0.2.2.2.2.1 (am_as1 (am_a w) ls) → h0.1 ≤ h.1 → h0.2.1 ≤ h.2.1 → d ≤ R.frames → 60 * d ≤ R.locals → h'.1 - h0.1 ≤ R.cells → h'.2.1 - h0.2.1 ≤ R.slots →
  W p l e R s m args below meth c H locs (h.1 - h0.1) (h.2.1 - h0.2.1) (MQ below (am_Qc w r h') args s (h'.1 - h0.1) (h'.2.1 - h0.2.1) (fun q => am_b w ≤ q)) (F0 m pc lr (st.map (am_up (am_a w))))
/-- a method's contract out of am's run from its entry -/
theorem am_Met {l : Launch} {w : am_X} {n : Nat} (ih : am_Wn l w n) {d mj : Nat} {as : List Value} {h h1 : am_H} {r1 : Option Value} {e0 : Nat × String × String × ByteArray × Nat × Option FieldType} (he : am_mt[mj]? = some e0) (hfl : (am_fl as).length ≤ e0.2.2.2.2.1) (ha : am n d mj 0 (am_en e0.2.2.2.2.1 as) [] h = some (r1, h1)) :
    Met l (am_y mj) (am_cd e0 :: am_gw) ({ frames := d, cells := h1.1 - h.1, slots := h1.2.1 - h.2.1, locals := 60 * d }) (va_Pc (as.map (am_up (am_a w))) (fun U => am_Rp w h U.heap ∧ am_K w U)) (am_Qc w r1 h1) (h1.1 - h.1) (h1.2.1 - h.2.1) (fun q => am_b w ≤ q) := by
  have hok := List.all_eq_true.mp am_eok_all e0 (List.mem_of_getElem? he)
  unfold am_eok at hok
  simp only [Bool.and_eq_true] at hok
  have hy := am_y_eq he
  rw [hy]
  refine Met.ofW (cc := e0.2.2.2.1) (maxL := e0.2.2.2.2.1) (ret := e0.2.2.2.2.2) hok.1.1 rfl ?_
  intro p e s m args below meth c s₁ B hml hv
  obtain ⟨rfl, hR, hK⟩ := hv
  have hts := atoms_spec (ws := am_cd e0 :: am_gw) B.pre
  have hts : ∀ q ∈ am_gw, q.before _ s = true := fun q hq => hts q (List.mem_cons_of_mem _ hq)
  obtain ⟨hlen, hl⟩ := am_entry (am_a w) hfl
  rw [lg_entry_eq]
  have := ih d mj 0 _ [] h r1 h1 ha e0 he p e ({ frames := d, cells := h1.1 - h.1, slots := h1.2.1 - h.2.1, locals := 60 * d }) s m (as.map (am_up (am_a w))).toArray below meth c s.heap [] _ h B.exec B.bytes B.returns hml B.notSynchronized (findClass_of_methodNamed B.named) hts hK (fun q => by
    have h3 : meth.name = e0.2.1 := (name_of_methodNamed B.named B.method).1
    rw [h3]; exact eq_of_beq q) hR (fun q hq => absurd hq List.not_mem_nil) hlen hl (Nat.le_refl _) (Nat.le_refl _) (Nat.le_refl _) (Nat.le_refl _) (Nat.le_refl _) (Nat.le_refl _)
  rw [Nat.sub_self, Nat.sub_self] at this
  exact this

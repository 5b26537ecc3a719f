/-! HEAP instructions over the machine -/
theorem am_Rp.put {w : am_X} {h h' : am_H} {H H' : Heap} {a : Nat} (hR : am_Rp w h H) (ha : 4 ≤ a) (hsz : h'.1 = h.1) (hs : ∀ k, k ≠ a → am_same h h' k) (hz : H'.size = H.size) (ho : ∀ q, q ≠ am_a w a → H'[q]? = H[q]?) (hc : am_cell w h' H' a) : am_Rp w h' H' := by
  obtain ⟨r1, r2, r3, r4, r5⟩ := id hR
  refine ⟨by rw [hsz]; exact r1, by rw [hz, hsz]; exact r2, fun q hq => ?_, r4, fun k hk => ?_⟩
  · rw [ho q (by rw [am_a_hi ha]; omega)]; exact r3 q hq
  · by_cases hka : k = a
    · subst hka; exact hc
    · exact (r5 k (by rw [← hsz]; exact hk)).kept (hs k hka) (ho _ (am_a_ne hR ha hka))
theorem am_u_s {α : Type} {f : Nat → Nat → α} {a k : Nat} {v : α} : am_u f a k v a k = v := by simp [am_u]
theorem am_u_k {α : Type} {f : Nat → Nat → α} {a k j : Nat} {v : α} (h : j ≠ k) : am_u f a k v a j = f a j := by simp [am_u, h]
theorem am_u_a {α : Type} {f : Nat → Nat → α} {a k b j : Nat} {v : α} (h : b ≠ a) : am_u f a k v b j = f b j := by simp [am_u, h]
/-- what a store does to am's heap -/
def am_did (ty : FieldType) (h h' : am_H) (a k : Nat) (v : Value) : Prop := h'.1 = h.1 ∧ h'.2.1 = h.2.1 ∧ am_tg h' = am_tg h ∧ am_val ty h' a k = v ∧ (∀ ty' j, j ≠ k → am_val ty' h' a j = am_val ty' h a j) ∧ (∀ b, b ≠ a → am_same h h' b)
theorem am_setI_did {ty : FieldType} {h : am_H} {a k : Nat} {x : Int32} (ht : ty = .int ∨ ty = .boolean ∨ ty = .byte) : am_did ty h (am_setI h a k x) a k (.int x) := by
  refine ⟨rfl, rfl, rfl, ?_, fun ty' j hj => ?_, fun b hb => ⟨rfl, fun j => ⟨am_u_a hb, rfl, rfl, rfl⟩⟩⟩
  · have e : am_I (am_setI h a k x) a k = x := am_u_s
    rcases ht with rfl | rfl | rfl <;> (show Value.int (am_I (am_setI h a k x) a k) = _; rw [e])
  · have e : am_I (am_setI h a k x) a j = am_I h a j := am_u_k hj
    unfold am_val
    split <;> first | rfl | (rw [e])
theorem am_setL_did {h : am_H} {a k : Nat} {x : Int64} : am_did .long h (am_setL h a k x) a k (.long x) := by
  refine ⟨rfl, rfl, rfl, ?_, fun ty' j hj => ?_, fun b hb => ⟨rfl, fun j => ⟨rfl, am_u_a hb, rfl, rfl⟩⟩⟩
  · have e : am_L (am_setL h a k x) a k = x := am_u_s
    show Value.long (am_L (am_setL h a k x) a k) = _
    rw [e]
  · have e : am_L (am_setL h a k x) a j = am_L h a j := am_u_k hj
    unfold am_val
    split <;> first | rfl | (rw [e])
theorem am_setD_did {h : am_H} {a k : Nat} {x : UInt64} : am_did .double h (am_setD h a k x) a k (.double x) := by
  refine ⟨rfl, rfl, rfl, ?_, fun ty' j hj => ?_, fun b hb => ⟨rfl, fun j => ⟨rfl, rfl, am_u_a hb, rfl⟩⟩⟩
  · have e : am_D (am_setD h a k x) a k = x := am_u_s
    show Value.double (am_D (am_setD h a k x) a k) = _
    rw [e]
  · have e : am_D (am_setD h a k x) a j = am_D h a j := am_u_k hj
    unfold am_val
    split <;> first | rfl | (rw [e])
theorem am_setR_did {ty : FieldType} {h : am_H} {a k : Nat} {x : Option Nat} (ht : (∃ n, ty = .object n) ∨ ∃ t, ty = .array t) : am_did ty h (am_setR h a k x) a k (va_rf x) := by
  refine ⟨rfl, rfl, rfl, ?_, fun ty' j hj => ?_, fun b hb => ⟨rfl, fun j => ⟨rfl, rfl, rfl, am_u_a hb⟩⟩⟩
  · have e : am_R (am_setR h a k x) a k = x := am_u_s
    rcases ht with ⟨n, rfl⟩ | ⟨t, rfl⟩ <;> (show va_rf (am_R (am_setR h a k x) a k) = _; rw [e])
  · have e : am_R (am_setR h a k x) a j = am_R h a j := am_u_k hj
    unfold am_val
    split <;> first | rfl | (rw [e])
theorem am_rfo_inv {v : Value} {x : Option Nat} (h : am_rfo v = some x) : v = va_rf x := by
  unfold am_rfo at h
  split at h
  · cases h; rfl
  · cases h; rfl
  · cases h
theorem am_put_inv {ty : FieldType} {h h' : am_H} {a k : Nat} {v : Value} (ad : Nat → Nat) (hp : am_put ty h a k v = some h') : am_did ty h h' a k v ∧ narrow ty (am_up ad v) = am_up ad v ∧ fits ty (am_up ad v) = true := by
  unfold am_put at hp
  split at hp
  · split at hp
    · cases hp; exact ⟨am_setI_did (Or.inl rfl), rfl, rfl⟩
    · cases hp
  · split at hp
    · rename_i x
      split at hp
      next hx =>
        cases hp
        refine ⟨am_setI_did (Or.inr (Or.inl rfl)), ?_, ?_⟩
        · rcases hx with rfl | rfl <;> rfl
        · rcases hx with rfl | rfl <;> rfl
      next => cases hp
    · cases hp
  · split at hp
    · cases hp; exact ⟨am_setL_did, rfl, rfl⟩
    · cases hp
  · split at hp
    · cases hp; exact ⟨am_setD_did, rfl, rfl⟩
    · cases hp
  · rename_i n
    obtain ⟨x, h1, h2⟩ := am_map1 hp
    subst h2
    obtain rfl := am_rfo_inv h1
    exact ⟨am_setR_did (Or.inl ⟨_, rfl⟩), by cases x <;> rfl, by cases x <;> rfl⟩
  · rename_i t
    obtain ⟨x, h1, h2⟩ := am_map1 hp
    subst h2
    obtain rfl := am_rfo_inv h1
    exact ⟨am_setR_did (Or.inr ⟨_, rfl⟩), by cases x <;> rfl, by cases x <;> rfl⟩
  · cases hp
theorem am_isArr {w : am_X} {s : State} {kd : Nat} {cell : Cell} (hA : am_KA w s kd) (hcl : cell.cls = am_aC w kd) (hv : cell.vm.isStatics = false) : s.isArrayOf cell (am_aT kd) := by
  obtain ⟨kA, comp, h1, h2, -⟩ := hA
  exact ⟨fun q hq => (by rw [hq] at hv; cases hv), kA, (by rw [hcl]; exact h1), comp, h2⟩
section AM3
variable {p : Program} {l : Launch} {e : Env} {R : Room} {s : State} {m : MethodId} {args : Array Value} {below : List Frame} {meth : Method} {c : Code} {H : Heap} {locs : List Loc} {cells slots : Nat} {Q : State → Prop}
variable {cc : ByteArray} {pc : Nat} {lr : Array Slot} {w : am_X} {h : am_H} {own : Nat}
theorem am_fkf_in {own idx c k : Nat} (hf : am_fkf own idx = some (c, k)) : (own, idx, c, k) ∈ am_fk := by
  unfold am_fkf at hf
  obtain ⟨e, h1, h2⟩ := am_map1 hf
  have h3 := List.find?_some h1
  simp only [Bool.and_eq_true, beq_iff_eq] at h3
  have h4 := List.mem_of_find?_eq_some h1
  obtain ⟨e1, e2, e3⟩ := e
  obtain ⟨rfl, rfl⟩ := h3
  cases h2
  exact h4
theorem am_fw_at {own idx c k : Nat} (hts : ∀ q ∈ am_gw, q.before args s = true) (hf : am_fkf own idx = some (c, k)) : (Cond.fieldLink (am_cn own) idx (am_T c k).1 (am_T c k).2.1 (am_T c k).2.2.1).before args s = true :=
  hts _ (am_fw_in _ (List.mem_flatMap.mpr ⟨_, am_fkf_in hf, List.mem_cons_self⟩))
theorem am_iw_at (hts : ∀ q ∈ am_gw, q.before args s = true) {c : Nat} (hc : c ∈ am_ins) : ∀ q ∈ u_ws (am_cn c) (am_T c) (am_nF c), q ∈ am_gw :=
  fun q hq => am_iw_in q (List.mem_flatMap.mpr ⟨c, hc, List.mem_cons_of_mem _ (List.mem_cons_of_mem _ hq)⟩)
theorem am_getfield (hx : p.tables.exec = Jvm.exec) (hb : c.code = cc) (hown : s.vm.findClass (am_cn own) = some m.cls) (hts : ∀ q ∈ am_gw, q.before args s = true) (hK : am_K w s) (hR : am_Rp w h H) {idx a ci k : Nat} {r : List Value} (hf : am_fkf own idx = some (ci, k)) (ha : a < h.1) (ht : (am_tg h a).1 = ci) (hc : ci < 100) (hk : k < am_nF ci) (hdg : decode cc pc = .ok (.getfield idx, 3))
    (kk : W p l e R s m args below meth c H locs cells slots Q (F0 m (pc + 3) lr ((am_val (am_fT ci k) h a k :: r).map (am_up (am_a w))))) : W p l e R s m args below meth c H locs cells slots Q (F0 m pc lr ((Value.ref a :: r).map (am_up (am_a w)))) := by
  obtain ⟨cell, e1, e2, e3, e4, e5, -⟩ := hR.2.2.2.2 a ha
  obtain ⟨f1, f2, f3⟩ := e5 (by rw [ht]; exact hc)
  rw [ht] at f1 f2 f3
  have hl := am_fw_at hts hf
  rcases f2 with f2 | ⟨f2, -⟩
  · obtain ⟨hS, hfc, kC, hkC, -⟩ := hK.1 ci f2
    obtain ⟨cf, kf, fi, fd, hi, hsl⟩ := hS k hk
    exact W.getf hx hb hown hl hi (u_facts hfc hkC (u_lays hts (am_iw_at hts f2) hk) hi).1 e1 e2 (by rw [hsl]; exact f3 k hk) rfl rfl hdg kk
  · subst f2
    obtain ⟨cf, kf, fi, fd, hi, hst, hsl⟩ := hK.2.1.1 k hk
    exact W.getf hx hb hown hl hi hst e1 e2 (by rw [hsl]; exact f3 k hk) rfl rfl hdg kk
theorem am_cell_put {c k a : Nat} {v : Value} {h' : am_H} {H' : Heap} {cell : Cell} (hc : (am_tg h a).1 = c) (h100 : c < 100) (hins : c ∈ am_ins) (hd : am_did (am_fT c k) h h' a k v) (hcl : cell.cls = am_dC w c) (hvm : cell.vm = .none) (hap : ∀ x y, x < am_nF c → y < am_nF c → x ≠ y → am_dI w c x ≠ am_dI w c y) (hk : k < am_nF c)
    (f3 : ∀ j, j < am_nF c → cell.slots[am_dI w c j]? = some (am_up (am_a w) (am_val (am_fT c j) h a j))) (hH : H'[am_a w a]? = some (cell.setSlot (am_dI w c k) (am_up (am_a w) v))) : am_cell w h' H' a := by
  obtain ⟨d1, d2, d3, d4, d5, d6⟩ := hd
  have hsl : ∀ i, (cell.setSlot (am_dI w c k) (am_up (am_a w) v)).slots[i]? = if i = am_dI w c k then (if i < cell.slots.size then some (am_up (am_a w) v) else none) else cell.slots[i]? := by
    intro i
    show (cell.slots.setIfInBounds (am_dI w c k) (am_up (am_a w) v))[i]? = _
    by_cases hi : i = am_dI w c k
    · subst hi
      rw [if_pos rfl, Array.getElem?_setIfInBounds_self]
    · rw [if_neg hi, Array.getElem?_setIfInBounds_ne (Ne.symm hi)]
  refine ⟨_, hH, by show cell.vm ≠ _; rw [hvm]; exact fun z => (by cases z), by show cell.vm.isStatics = _; rw [hvm]; rfl, fun _ => hvm, fun _ => ?_, fun q => ?_⟩
  · rw [d3, hc]
    refine ⟨hcl, Or.inl hins, fun j hj => ?_⟩
    rw [hsl]
    by_cases hjk : j = k
    · subst hjk
      rw [if_pos rfl, if_pos (k2_hasslot (f3 j hj)), d4]
    · rw [if_neg (hap j k hj hk hjk), d5 _ _ hjk]
      exact f3 j hj
  · rw [d3, hc] at q
    omega
theorem am_putfield (hx : p.tables.exec = Jvm.exec) (hb : c.code = cc) (hown : s.vm.findClass (am_cn own) = some m.cls) (hts : ∀ q ∈ am_gw, q.before args s = true) (hK : am_K w s) (hR : am_Rp w h H) (hlo : ∀ q ∈ locs, am_b w ≤ q.base) {ini : Bool} (hini : ini = true → meth.name = "<init>") {idx a ci k : Nat} {v : Value} {r : List Value} {h' : am_H} (hf : am_fkf own idx = some (ci, k)) (ha : a < h.1) (ha4 : 4 ≤ a) (ht : (am_tg h a).1 = ci) (hc : ci < 100) (hk : k < am_nF ci) (hfin : (am_T ci k).2.2.2 = false ∨ (ini = true ∧ own = ci)) (hp : am_put (am_fT ci k) h a k v = some h') (hdg : decode cc pc = .ok (.putfield idx, 3))
    (kk : ∀ (H' : Heap) (locs' : List Loc), am_Rp w h' H' → (∀ q ∈ locs', am_b w ≤ q.base) → W p l e R s m args below meth c H' locs' cells slots Q (F0 m (pc + 3) lr (r.map (am_up (am_a w))))) : W p l e R s m args below meth c H locs cells slots Q (F0 m pc lr ((v :: Value.ref a :: r).map (am_up (am_a w)))) := by
  obtain ⟨hd, hn, hft⟩ := am_put_inv (am_a w) hp
  obtain ⟨cell, e1, e2, e3, e4, e5, -⟩ := hR.2.2.2.2 a ha
  obtain ⟨f1, f2, f3⟩ := e5 (by rw [ht]; exact hc)
  rw [ht] at f1 f2 f3
  have hvm := e4 ha4
  have hins : ci ∈ am_ins := by
    rcases f2 with q | ⟨-, q⟩
    · exact q
    · omega
  have hl := am_fw_at hts hf
  have hin := am_iw_at hts hins
  obtain ⟨hS, hfc, kC, hkC, hkind⟩ := hK.1 ci hins
  have hap : ∀ x y, x < am_nF ci → y < am_nF ci → x ≠ y → am_dI w ci x ≠ am_dI w ci y := by
    intro x y hx' hy' hne
    obtain ⟨_, _, _, fa, hia, ea⟩ := hS x hx'
    obtain ⟨_, _, _, fb, hib, eb⟩ := hS y hy'
    rw [← ea, ← eb]
    refine u_apart (u_lays hts hin hx') (u_lays hts hin hy') hia hib ?_
    rw [(State.fieldFound?_type hia (am_fty ci hins x hx')).1, (State.fieldFound?_type hib (am_fty ci hins y hy')).1]
    exact am_fnm ci hins x hx' y hy' hne
  obtain ⟨cf, kf, fi, f, hi, hsl⟩ := hS k hk
  have hst := (u_facts hfc hkC (u_lays hts hin hk) hi).1
  have hlt : f.slot < cell.slots.size := by rw [hsl]; exact k2_hasslot (f3 k hk)
  have hlay := hts _ (hin _ (u_in_lay hk))
  unfold u_lay at hlay
  have fin : ∀ H' : Heap, H'[am_a w a]? = some (cell.setSlot f.slot (am_up (am_a w) v)) → H'.size = H.size → (∀ q, q ≠ am_a w a → H'[q]? = H[q]?) → W p l e R s m args below meth c H' (locs ++ [⟨am_a w a, f.slot⟩]) cells slots Q (F0 m (pc + 3) lr (r.map (am_up (am_a w)))) := by
    intro H' g1 g2 g3
    rw [hsl] at g1 ⊢
    refine kk H' _ (hR.put ha4 hd.1 hd.2.2.2.2.2 g2 g3 (am_cell_put ht hc hins hd f1 hvm hap hk f3 g1)) ?_
    intro q hq
    rcases List.mem_append.mp hq with hq | hq
    · exact hlo q hq
    · rw [List.mem_singleton.mp hq]
      show am_b w ≤ am_a w a
      rw [am_a_hi ha4]; omega
  by_cases hfb : (am_T ci k).2.2.2 = true
  · rcases hfin with q | ⟨q1, q2⟩
    · rw [hfb] at q; cases q
    · rw [if_pos hfb] at hlay
      have hcf : m.cls = cf := by
        obtain ⟨_, _, c', _, _, _, -, -, hf', -, -, -, hown2, -⟩ := Cond.laysFinal_spec hlay
        have e1 : c' = cf := by have := hi.symm.trans hf'; simp at this; exact this.1.symm
        rw [am_fdc ci hins k hk, ← q2] at hown2
        rw [← e1]; exact Option.some.inj (hown.symm.trans hown2)
      have h6 := u_fits hfc hkC hkind (Or.inr hlay) hi (am_fty ci hins k hk) hn hft
      exact W.putFinK hx hb hown hl hi hst hcf (hini q1) (by rw [f1]; exact h6) e1 hvm hlt rfl rfl hdg fin
  · rw [if_neg hfb] at hlay
    have h6 := u_store hfc hkC hkind hlay hi (am_fty ci hins k hk) hn hft
    exact W.putK hx hb (f := f) ⟨hown, hl, ⟨_, _, _, hi⟩, hst⟩ (by rw [f1]; exact h6) e1 hvm hlt rfl rfl hdg fin
end AM3

section AM7
variable {p : Program} {l : Launch} {e : Env} {R : Room} {s : State} {m : MethodId} {args : Array Value} {below : List Frame} {meth : Method} {c : Code} {H : Heap} {locs : List Loc} {cells slots : Nat} {Q : State → Prop}
variable {cc : ByteArray} {pc : Nat} {lr : Array Slot} {w : am_X} {h : am_H} {own : Nat}
theorem am_ldstr (hx : p.tables.exec = Jvm.exec) (hb : c.code = cc) (hown : s.vm.findClass (am_cn 12) = some m.cls) (hK : am_K w s) {st : List Value} (hdg : decode cc pc = .ok (.ldc 242, 2)) (kk : W p l e R s m args below meth c H locs cells slots Q (F0 m (pc + 2) lr ((Value.ref 2 :: st).map (am_up (am_a w))))) : W p l e R s m args below meth c H locs cells slots Q (F0 m pc lr (st.map (am_up (am_a w)))) :=
  va_ldcS hx hb hown hK.2.2.2.2.2.2.2 hdg kk
theorem am_ckidx (hx : p.tables.exec = Jvm.exec) (hb : c.code = cc) (hml : c.maxLocals = lr.size) (hown : s.vm.findClass (am_cn own) = some m.cls) (hts : ∀ q ∈ am_gw, q.before args s = true) (hK : am_K w s) (hR : am_Rp w h H) {idx d mj nn : Nat} {n k : Int32} {r : List Value} (hf : am_mkf own idx = some (6, mj, nn)) (hd : 2 ≤ d) (hr : (r.map fun v => v.category).sum ≤ 8) (h0 : ¬ k < 0) (hn : k < n) (hfr : d ≤ R.frames) (hlc : 60 * d ≤ R.locals) (hc : cells ≤ R.cells) (hs : slots ≤ R.slots) (hdg : decode cc pc = .ok (.invokestatic idx, 3))
    (kk : W p l e R s m args below meth c H locs cells slots Q (F0 m (pc + 3) lr (r.map (am_up (am_a w))))) : W p l e R s m args below meth c H locs cells slots Q (F0 m pc lr ((Value.int n :: .int k :: r).map (am_up (am_a w)))) := by
  have hw := am_mw_at hts hf
  have hxw : ∀ q ∈ am_xw, q ∈ am_gw := am_xw_in
  intro T hT X
  obtain ⟨v, st₀, t, T', L, g0, X', hL, g1, ⟨hv, hh⟩, st⟩ := W.runS (R := R) (As := [.int k, .int n]) (rest := r.map (am_up (am_a w))) (Ts := am_gw) (g := F0 m pc lr ((Value.int n :: .int k :: r).map (am_up (am_a w)))) ⟨hx, hb, rfl, hown, hts⟩ (am_met_cki l w k n h0 hn)
    ⟨callB_of 2 hts (am_good_cons (hxw _ (by simp [am_xw]))) rfl rfl rfl (hw _ (by simp [am_mw, am_ckn])) (hw _ (by simp [am_mw])) (by decide +kernel) ⟨by show 1 + 1 ≤ _; omega, by show 8 + (2 + 11) + 60 ≤ _; omega⟩, hw _ (by simp [am_mw])⟩
    ⟨fun a U g mk q => ⟨q.1, q.2.1.calling g mk a, q.2.2⟩, fun U hU hW => ⟨rfl, hK.warm hW, by rw [hU]; exact hR.2.2.1⟩⟩ rfl rfl (by rw [hml]) rfl (by show 2 * 0 + _ ≤ 8; rw [am_sum_up]; omega) hdg ⟨hc, hs⟩ T hT X
  cases hv
  obtain ⟨t2, a1, b1⟩ := kk T' (by rw [g1, hh, g0]) (Stand.forget X' (fun q hq => (hL q hq).elim))
  exact ⟨t2, st t2 a1, b1⟩
theorem am_copy (hx : p.tables.exec = Jvm.exec) (hb : c.code = cc) (hml : c.maxLocals = lr.size) (hown : s.vm.findClass (am_cn own) = some m.cls) (hts : ∀ q ∈ am_gw, q.before args s = true) (hK : am_K w s) (hR : am_Rp w h H) (hlo : ∀ q ∈ locs, am_b w ≤ q.base) {idx d mj nn a a0 : Nat} {n dp sp : Int32} {r : List Value} {h' : am_H} (hf : am_mkf own idx = some (8, mj, nn)) (hd : 1 ≤ d) (hr : (r.map fun v => v.category).sum ≤ 8) (ha4 : 4 ≤ a) (ha04 : 4 ≤ a0) (ha : a < h.1) (ha0 : a0 < h.1) (h100 : 100 ≤ (am_tg h a).1) (hk : (am_tg h a).1 = (am_tg h a0).1) (h1 : ¬ sp < 0) (h2 : ¬ dp < 0) (h3 : ¬ n < 0) (h4 : sp.toNatClampNeg + n.toNatClampNeg ≤ (am_tg h a0).2) (h5 : dp.toNatClampNeg + n.toNatClampNeg ≤ (am_tg h a).2) (hfr : d ≤ R.frames) (hlc : 60 * d ≤ R.locals) (hdg : decode cc pc = .ok (.invokestatic idx, 3))
    (hty : am_aT (am_tg h a).1 = .int ∨ am_aT (am_tg h a).1 = .byte ∨ am_aT (am_tg h a).1 = .long) (d1 : h'.1 = h.1) (d3 : am_tg h' = am_tg h) (d6 : ∀ b, b ≠ a → am_same h h' b)
    (dv : ∀ i, am_val (am_aT (am_tg h a).1) h' a i = if dp.toNatClampNeg ≤ i ∧ i < dp.toNatClampNeg + n.toNatClampNeg then am_val (am_aT (am_tg h a).1) h a0 (sp.toNatClampNeg + (i - dp.toNatClampNeg)) else am_val (am_aT (am_tg h a).1) h a i)
    (kk : ∀ (H' : Heap) (locs' : List Loc), am_Rp w h' H' → (∀ q ∈ locs', am_b w ≤ q.base) → W p l e R s m args below meth c H' locs' cells slots Q (F0 m (pc + 3) lr (r.map (am_up (am_a w))))) : W p l e R s m args below meth c H locs cells slots Q (F0 m pc lr ((Value.int n :: .int dp :: .ref a :: .int sp :: .ref a0 :: r).map (am_up (am_a w)))) := by
  have hw := am_mw_at hts hf
  obtain ⟨cell, e1, e2, e3, e4, -, e6⟩ := hR.2.2.2.2 a ha
  obtain ⟨f1, f2, f3, f4, f5, f6, f7, f8⟩ := e6 h100
  obtain ⟨cell0, x1, x2, x3, x4, -, x6⟩ := hR.2.2.2.2 a0 ha0
  obtain ⟨y1, y2, y3, y4, y5, y6, y7, y8⟩ := x6 (by omega)
  have hA := am_isArr (hK.2.2.1 _ f2) f1 e3
  have hA0 := am_isArr (hK.2.2.1 _ y2) y1 x3
  rw [f8 ha4] at e1 hA
  rw [y8 ha04] at x1 hA0
  have hwd : nativeFrameWords "java/lang/System" "arraycopy" 5 + 11 ≤ 52 := by decide
  refine am_copyV hx hb hml hown (hw _ (by simp [am_mw])) (hw _ (by simp [am_mw])) (hw _ (by simp [am_mw])) (hw _ (by simp [am_mw])) x1 e1 (by rw [← hk] at hA0 ⊢; exact hA0) hA ?_ h1 h2 h3 h4 h5 (fun i hi => ?_) (fun j => ?_) (by omega) (by rw [am_sum_up]; omega) hdg (fun H1 locs1 g1 g2 g3 g4 => kk H1 locs1 (am_copy_Rp hR ha4 ha ha0 h100 hk h4 d1 d3 d6 dv g2 g1 g3) ?_)
  · rcases hty with q | q | q <;> (rw [q]; rfl)
  · have := y7 (sp.toNatClampNeg + i) (by omega)
    rw [← hk] at this
    rw [← hk]
    generalize am_val (am_aT (am_tg h a).1) h a0 (sp.toNatClampNeg + i) = v at this ⊢
    rcases hty with q | q | q <;> rw [q] at this ⊢ <;> cases v <;> first | exact this | (simp [fits] at this; done)
  · rw [← hk]
    rcases hty with q | q | q <;> rw [q]
    · exact Or.inl ⟨_, rfl⟩
    · exact Or.inl ⟨_, rfl⟩
    · exact Or.inr ⟨_, rfl⟩
  · intro q hq
    rcases g4 q hq with q1 | q1
    · exact hlo q q1
    · rw [q1, am_a_hi ha4]; omega
theorem am_skf_in {own idx : Nat} {v : Value} (hf : am_skf own idx = some v) : (own = 6 ∧ idx = 139 ∧ v = .ref 1) ∨ (own = 14 ∧ idx = 38 ∧ v = .int 1) := by
  unfold am_skf at hf
  obtain ⟨e, h1, h2⟩ := am_map1 hf
  have h3 := List.find?_some h1
  simp only [Bool.and_eq_true, beq_iff_eq] at h3
  have h4 := List.mem_of_find?_eq_some h1
  unfold am_sk at h4
  simp only [List.mem_cons, List.not_mem_nil, or_false] at h4
  rcases h4 with rfl | rfl
  · exact Or.inl ⟨h3.1.symm, h3.2.symm, h2.symm⟩
  · exact Or.inr ⟨h3.1.symm, h3.2.symm, h2.symm⟩
set_option maxHeartbeats 4000000 in
theorem am_hp_ok (hx : p.tables.exec = Jvm.exec) (hb : c.code = cc) (hml : c.maxLocals = lr.size) (hown : s.vm.findClass (am_cn own) = some m.cls) (hts : ∀ q ∈ am_gw, q.before args s = true) (hK : am_K w s) (hR : am_Rp w h H) (hlo : ∀ q ∈ locs, am_b w ≤ q.base) {ini : Bool} (hini : ini = true → meth.name = "<init>") {d k : Nat} {i : Instr} {st st' : List Value} {h' : am_H} (hh : am_hp own ini d i st h = some (k, st', h')) (hdg : decode cc pc = .ok (i, k))
    (hfr : d ≤ R.frames) (hlc : 60 * d ≤ R.locals) (hc0 : cells + (h'.1 - h.1) ≤ R.cells) (hs0 : slots + (h'.2.1 - h.2.1) ≤ R.slots)
    (kk : ∀ (H' : Heap) (locs' : List Loc), h.1 ≤ h'.1 → h.2.1 ≤ h'.2.1 → am_Rp w h' H' → (∀ q ∈ locs', am_b w ≤ q.base) → W p l e R s m args below meth c H' locs' (cells + (h'.1 - h.1)) (slots + (h'.2.1 - h.2.1)) Q (F0 m (pc + k) lr (st'.map (am_up (am_a w))))) : W p l e R s m args below meth c H locs cells slots Q (F0 m pc lr (st.map (am_up (am_a w)))) := by
  have same : ∀ {st' : List Value} {h' : am_H} {k : Nat}, h'.1 = h.1 → h'.2.1 = h.2.1 → (∀ (H' : Heap) (locs' : List Loc), h.1 ≤ h'.1 → h.2.1 ≤ h'.2.1 → am_Rp w h' H' → (∀ q ∈ locs', am_b w ≤ q.base) → W p l e R s m args below meth c H' locs' (cells + (h'.1 - h.1)) (slots + (h'.2.1 - h.2.1)) Q (F0 m (pc + k) lr (st'.map (am_up (am_a w))))) →
      ∀ (H' : Heap) (locs' : List Loc), am_Rp w h' H' → (∀ q ∈ locs', am_b w ≤ q.base) → W p l e R s m args below meth c H' locs' cells slots Q (F0 m (pc + k) lr (st'.map (am_up (am_a w)))) := by
    intro st' h' k e1 e2 kk H' locs' g1 g2
    have := kk H' locs' (by omega) (by omega) g1 g2
    rw [e1, e2, Nat.sub_self, Nat.sub_self] at this
    exact this
  unfold am_hp at hh
  split at hh
  case h_1 idx =>
    split at hh
    · rename_i x hx'
      cases hh
      exact W.ldc hx hb hown (hts _ (am_kw_in _ (List.mem_flatMap.mpr ⟨_, am_kcf_in hx', List.mem_cons_self⟩))) rfl hdg (same rfl rfl kk H locs hR hlo)
    · cases hh
    · split at hh
      next hq =>
        obtain ⟨rfl, rfl⟩ := hq
        cases hh
        exact am_ldstr hx hb hown hK hdg (same rfl rfl kk H locs hR hlo)
      next => cases hh
  case h_2 idx =>
    split at hh
    · rename_i x hx'
      cases hh
      exact W.ldc2 hx hb hown (hts _ (am_kw_in _ (List.mem_flatMap.mpr ⟨_, am_kcf_in hx', List.mem_cons_self⟩))) rfl hdg (same rfl rfl kk H locs hR hlo)
    · rename_i x hx'
      cases hh
      exact lv_ldc2d hx hb hown (hts _ (am_kw_in _ (List.mem_flatMap.mpr ⟨_, am_kcf_in hx', List.mem_cons_self⟩))) hdg (same rfl rfl kk H locs hR hlo)
    · cases hh
  case h_3 idx =>
    split at hh
    · rename_i v hv
      cases hh
      have k2 := same rfl rfl kk H locs hR hlo
      rcases am_skf_in hv with ⟨rfl, rfl, rfl⟩ | ⟨rfl, rfl, rfl⟩
      · exact am_gets hx hb hown hK.2.2.2.2.1 hR.2.2.1 (hts _ (am_sw_in _ List.mem_cons_self)) hdg k2
      · exact am_gets hx hb hown hK.2.2.2.2.2.1 hR.2.2.1 (hts _ (am_sw_in _ (List.mem_cons_of_mem _ List.mem_cons_self))) hdg k2
    · cases hh
  case h_4 idx =>
    split at hh
    · rename_i ci kf a r hf
      split at hh
      next hq =>
        cases hh
        exact am_getfield hx hb hown hts hK hR hf hq.1 hq.2.1 hq.2.2.1 hq.2.2.2 hdg (same rfl rfl kk H locs hR hlo)
      next => cases hh
    · cases hh
  case h_5 idx =>
    split at hh
    · rename_i ci kf v a r hf
      split at hh
      next hq =>
        obtain ⟨h1, hp, he⟩ := am_map1 hh
        cases he
        obtain ⟨hd, -, -⟩ := am_put_inv (am_a w) hp
        exact am_putfield hx hb hown hts hK hR hlo hini hf hq.1 hq.2.1 hq.2.2.1 hq.2.2.2.1 hq.2.2.2.2.1 hq.2.2.2.2.2 hp hdg (same hd.1 hd.2.1 kk)
      next => cases hh
    · cases hh
  case h_6 => exact am_aload hx hb hK hR (Or.inl ⟨rfl, rfl⟩) hh hdg (fun q => by subst q; exact same rfl rfl kk H locs hR hlo)
  case h_7 => exact am_aload hx hb hK hR (Or.inr (Or.inl ⟨rfl, rfl⟩)) hh hdg (fun q => by subst q; exact same rfl rfl kk H locs hR hlo)
  case h_8 => exact am_aload hx hb hK hR (Or.inr (Or.inr (Or.inl ⟨rfl, rfl⟩))) hh hdg (fun q => by subst q; exact same rfl rfl kk H locs hR hlo)
  case h_9 => exact am_aload hx hb hK hR (Or.inr (Or.inr (Or.inr ⟨rfl, rfl⟩))) hh hdg (fun q => by subst q; exact same rfl rfl kk H locs hR hlo)
  case h_10 =>
    split at hh
    · split at hh
      next hq => cases hh; exact am_aaload hx hb hK hR hq.1 hq.2 hdg (same rfl rfl kk H locs hR hlo)
      next => cases hh
    · cases hh
  case h_11 => exact am_astore hx hb hK hR hlo (Or.inl ⟨rfl, rfl⟩) hh hdg (fun H' locs' e1 e2 g1 g2 => same e1 e2 kk H' locs' g1 g2)
  case h_12 => exact am_astore hx hb hK hR hlo (Or.inr (Or.inl ⟨rfl, rfl⟩)) hh hdg (fun H' locs' e1 e2 g1 g2 => same e1 e2 kk H' locs' g1 g2)
  case h_13 => exact am_astore hx hb hK hR hlo (Or.inr (Or.inr (Or.inl ⟨rfl, rfl⟩))) hh hdg (fun H' locs' e1 e2 g1 g2 => same e1 e2 kk H' locs' g1 g2)
  case h_14 => exact am_astore hx hb hK hR hlo (Or.inr (Or.inr (Or.inr ⟨rfl, rfl⟩))) hh hdg (fun H' locs' e1 e2 g1 g2 => same e1 e2 kk H' locs' g1 g2)
  case h_15 =>
    split at hh
    · split at hh
      next hq => cases hh; exact am_aastore hx hb hK hR hlo hq.1 hq.2.1 hq.2.2.1 hq.2.2.2.1 hq.2.2.2.2.1 hq.2.2.2.2.2 hdg (same rfl rfl kk)
      next => cases hh
    · cases hh
  case h_16 =>
    split at hh
    · split at hh
      next hq => cases hh; exact am_alen hx hb hK hR hq.1 hq.2 hdg (same rfl rfl kk H locs hR hlo)
      next => cases hh
    · cases hh
  case h_17 idx =>
    split at hh
    · rename_i ci hf
      split at hh
      next hq =>
        cases hh
        have z1 : (am_new h (ci, 0) (am_nF ci)).1 - h.1 = 1 := by show h.1 + 1 - h.1 = 1; omega
        have z2 : (am_new h (ci, 0) (am_nF ci)).2.1 - h.2.1 = am_nF ci := by show h.2.1 + am_nF ci - h.2.1 = _; omega
        rw [z1] at hc0 kk
        rw [z2] at hs0 kk
        exact am_newobj hx hb hown hts hK hR hf hq hdg hc0 hs0 (fun H' g1 => kk H' locs (by show h.1 ≤ h.1 + 1; omega) (by show h.2.1 ≤ h.2.1 + _; omega) g1 hlo)
      next => cases hh
    · cases hh
  case h_18 t =>
    split at hh
    · rename_i kd n r hk
      split at hh
      next hq =>
        cases hh
        have z1 : (am_new h (kd, n.toNatClampNeg) n.toNatClampNeg).1 - h.1 = 1 := by show h.1 + 1 - h.1 = 1; omega
        have z2 : (am_new h (kd, n.toNatClampNeg) n.toNatClampNeg).2.1 - h.2.1 = n.toNatClampNeg := by show h.2.1 + n.toNatClampNeg - h.2.1 = _; omega
        rw [z1] at hc0 kk
        rw [z2] at hs0 kk
        exact am_newarr hx hb hts hK hR hk hq.1 hq.2 hdg hc0 hs0 (fun H' g1 => kk H' locs (by show h.1 ≤ h.1 + 1; omega) (by show h.2.1 ≤ h.2.1 + _; omega) g1 hlo)
      next => cases hh
    · cases hh
  case h_19 idx =>
    split at hh
    · rename_i ci n r hf
      split at hh
      next hq =>
        cases hh
        have z1 : (am_new h (200 + ci, n.toNatClampNeg) n.toNatClampNeg).1 - h.1 = 1 := by show h.1 + 1 - h.1 = 1; omega
        have z2 : (am_new h (200 + ci, n.toNatClampNeg) n.toNatClampNeg).2.1 - h.2.1 = n.toNatClampNeg := by show h.2.1 + n.toNatClampNeg - h.2.1 = _; omega
        rw [z1] at hc0 kk
        rw [z2] at hs0 kk
        exact am_anewarr hx hb hown hts hK hR hf hq.2.2 hq.1 hq.2.1 hdg hc0 hs0 (fun H' g1 => kk H' locs (by show h.1 ≤ h.1 + 1; omega) (by show h.2.1 ≤ h.2.1 + _; omega) g1 hlo)
      next => cases hh
    · cases hh
  case h_20 idx =>
    split at hh
    · rename_i mj nn a r hf
      split at hh
      next hq =>
        cases hh
        have hw := am_mw_at hts hf
        refine W.objInit hx hb hown (hw _ (by simp [am_mw])) (hw _ (by simp [am_mw])) (hw _ (by simp [am_mw])) rfl (by rw [hml]) rfl hdg (by omega) ?_ (same rfl rfl kk H locs hR hlo)
        show 2 * 0 + ((st'.map (am_up (am_a w))).map fun v => v.category).sum + 12 ≤ R.locals
        rw [am_sum_up]
        omega
      next => cases hh
    · cases hh
  case h_21 idx =>
    split at hh
    · rename_i mj nn y x r hf
      split at hh
      next hq =>
        cases hh
        have hw := am_mw_at hts hf
        refine va_mmax hx hb hml hown (hw _ (by simp [am_mw])) (hw _ (by simp [am_mw])) (hw _ (by simp [am_mw])) (hw _ (by simp [am_mw])) (by omega) (by rw [am_sum_up]; omega) (by omega) (by omega) hdg (same rfl rfl kk H locs hR hlo)
      next => cases hh
    · rename_i mj nn y x r hf
      split at hh
      next hq =>
        cases hh
        have hw := am_mw_at hts hf
        refine va_mmin hx hb hml hown (hw _ (by simp [am_mw])) (hw _ (by simp [am_mw])) (hw _ (by simp [am_mw])) (hw _ (by simp [am_mw])) (by omega) (by rw [am_sum_up]; omega) (by omega) (by omega) hdg (same rfl rfl kk H locs hR hlo)
      next => cases hh
    · rename_i mj nn n kx r hf
      split at hh
      next hq =>
        cases hh
        exact am_ckidx hx hb hml hown hts hK hR hf hq.1 hq.2.1 hq.2.2.1 hq.2.2.2 hfr hlc (by omega) (by omega) hdg (same rfl rfl kk H locs hR hlo)
      next => cases hh
    · rename_i mj nn x r hf
      split at hh
      next hq =>
        cases hh
        have hw := am_mw_at hts hf
        exact vn_d2l hx hb hml hown (hw _ (by simp [am_mw, am_d2l])) (hw _ (by simp [am_mw, am_d2l])) (hw _ (by simp [am_mw, am_d2l])) (hw _ (by simp [am_mw, am_d2l])) (by omega) (by rw [am_sum_up]; omega) hdg (same rfl rfl kk H locs hR hlo)
      next => cases hh
    · rename_i mj nn n dp a sp a0 r hf
      split at hh
      next hq =>
        obtain ⟨q1, q2, q3, q4, q5, q6, q7, q8, q9, q10, q11, q12, q13, q14⟩ := hq
        split at hh
        next hkd =>
          cases hh
          have hty : am_aT (am_tg h a).1 = .int ∨ am_aT (am_tg h a).1 = .byte := by
            rcases hkd with q | q <;> rw [q]
            · exact Or.inl rfl
            · exact Or.inr rfl
          refine am_copy (h' := am_cpI h a0 sp.toNatClampNeg a dp.toNatClampNeg n.toNatClampNeg) hx hb hml hown hts hK hR hlo hf q1 q2 q3 q4 q5 q6 q8 q9 q10 q11 q12 q13 q14 hfr hlc hdg (hty.elim Or.inl (fun q => Or.inr (Or.inl q))) rfl rfl (fun b hb => ⟨rfl, fun j => ⟨?_, rfl, rfl, rfl⟩⟩) (fun i => ?_) (same rfl rfl kk)
          · show am_cpy _ _ _ _ _ _ _ _ = _; unfold am_cpy; rw [if_neg hb]
          · rcases hty with q | q <;> rw [q] <;> (show Value.int (am_cpy _ _ _ _ _ _ _ _) = _; unfold am_cpy; rw [if_pos rfl]; split <;> rfl)
        next =>
          split at hh
          next hkd =>
            cases hh
            have hty : am_aT (am_tg h a).1 = .long := by rw [hkd]; rfl
            refine am_copy (h' := am_cpL h a0 sp.toNatClampNeg a dp.toNatClampNeg n.toNatClampNeg) hx hb hml hown hts hK hR hlo hf q1 q2 q3 q4 q5 q6 q8 q9 q10 q11 q12 q13 q14 hfr hlc hdg (Or.inr (Or.inr hty)) rfl rfl (fun b hb => ⟨rfl, fun j => ⟨rfl, ?_, rfl, rfl⟩⟩) (fun i => ?_) (same rfl rfl kk)
            · show am_cpy _ _ _ _ _ _ _ _ = _; unfold am_cpy; rw [if_neg hb]
            · rw [hty]; (show Value.long (am_cpy _ _ _ _ _ _ _ _) = _); unfold am_cpy; rw [if_pos rfl]; split <;> rfl
          next => cases hh
      next => cases hh
    · cases hh
  case h_22 => cases hh
end AM7

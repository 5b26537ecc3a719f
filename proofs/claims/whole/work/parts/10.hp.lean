/-! arraycopy, arrays made; all of am_hp over the machine -/
section AM6
variable {p : Program} {l : Launch} {e : Env} {R : Room} {s : State} {m : MethodId} {args : Array Value} {below : List Frame} {meth : Method} {c : Code} {H : Heap} {locs : List Loc} {cells slots : Nat} {Q : State → Prop}
variable {cc : ByteArray} {pc : Nat} {lr : Array Slot} {w : am_X} {h : am_H} {own : Nat}
theorem am_copyV (hexec : p.tables.exec = Jvm.exec) (hb : c.code = cc) (hml : c.maxLocals = lr.size) {o : String} {index : Nat} (hown : s.vm.findClass o = some m.cls) (hlink : (Cond.methodLink o index arraycopyName).before args s = true) (hnat : (Cond.native arraycopyName).before args s = true) (hstat : (Cond.static arraycopyName).before args s = true) (hini : (Cond.initialized "java/lang/System").before args s = true)
    {a0 a : Nat} {c0 c1 : ClassId} {n0 n1 : Nat} {f g : Nat → Value} {ty : FieldType} (hc0 : H[a0]? = some (arrV c0 n0 f)) (hc1 : H[a]? = some (arrV c1 n1 g)) (hA0 : s.isArrayOf (arrV c0 n0 f) ty) (hA1 : s.isArrayOf (arrV c1 n1 g) ty) (hprim : refKind ty = false)
    {sp dp n : Int32} {rest : List Value} (h1 : ¬ sp < 0) (h2 : ¬ dp < 0) (h3 : ¬ n < 0) (h4 : sp.toNatClampNeg + n.toNatClampNeg ≤ n0) (h5 : dp.toNatClampNeg + n.toNatClampNeg ≤ n1) (hfit : ∀ i, i < n.toNatClampNeg → fits ty (f (sp.toNatClampNeg + i)) = true) (hnr : ∀ j, (∃ z, f j = .int z) ∨ ∃ z, f j = .long z)
    (hframes : 1 ≤ R.frames) (hlocals : (rest.map fun v => v.category).sum + (nativeFrameWords "java/lang/System" "arraycopy" 5 + 11) ≤ R.locals) (hdg : decode cc pc = .ok (.invokestatic index, 3))
    (kk : ∀ (H1 : Heap) (locs1 : List Loc), H1.size = H.size → H1[a]? = some (arrV c1 n1 (va_cpy f g sp.toNatClampNeg dp.toNatClampNeg n.toNatClampNeg)) → (∀ q, q ≠ a → H1[q]? = H[q]?) → (∀ q ∈ locs1, q ∈ locs ∨ q.base = a) → W p l e R s m args below meth c H1 locs1 cells slots Q (F0 m (pc + 3) lr rest)) : W p l e R s m args below meth c H locs cells slots Q (F0 m pc lr (.int n :: .int dp :: .ref a :: .int sp :: .ref a0 :: rest)) := by
  have nn : ∀ z : Int32, ¬ z < 0 → z.toInt = (z.toNatClampNeg : Int) := by
    intro z hz
    have hz0 : (0 : Int) ≤ z.toInt := by
      have := Int32.not_lt.mp hz
      simpa using Int32.le_iff_toInt_le.mp this
    show z.toInt = ((z.toInt.toNat : Nat) : Int)
    omega
  intro T hT X
  obtain ⟨-, k0, hk0, cm0, hkk0⟩ := hA0
  obtain ⟨-, k1, hk1, cm1, hkk1⟩ := hA1
  obtain ⟨vm', X', step⟩ := X.arraycopy hexec hown hlink hnat hstat hini (src := a0) (dst := a) (cs := arrV c0 n0 f) (cd := arrV c1 n1 g) (srcPos := sp) (destPos := dp) (n := n) (by rw [hT]; exact hc0) (by rw [hT]; exact hc1)
    (fun _ h => by cases h) (fun _ h => by cases h) (fun h => by cases h) (fun h => by cases h) hk0 hk1 hkk0 hkk1 (by simp [hprim]) h1 h2 h3
    (by rw [nn sp h1, nn n h3]; show ¬ _ > ((arrV c0 n0 f).slots.size : Int); rw [arrV_size]; omega)
    (by rw [nn dp h2, nn n h3]; show ¬ _ > ((arrV c1 n1 g).slots.size : Int); rw [arrV_size]; omega)
    (fun vm₁ _ i hi => by
      have e : (arrV c0 n0 f).slots.getD (sp.toNatClampNeg + i) .null = f (sp.toNatClampNeg + i) := by
        rw [Array.getD_eq_getD_getElem?, arrV_read _ _ (by omega)]
        rfl
      refine ⟨?_, ?_⟩
      · rw [e]
        exact hfit i hi
      · rw [e]
        rcases hnr (sp.toNatClampNeg + i) with ⟨z, hz⟩ | ⟨z, hz⟩ <;> (rw [hz]; exact trivial))
    (g := F0 m pc lr (.int n :: .int dp :: .ref a :: .int sp :: .ref a0 :: rest)) rfl (by rw [hml]) (rest := rest) rfl (by rw [hb]; exact hdg) hframes (by show 2 * 0 + _ + _ ≤ _; omega)
  have e1 : copied (arrV c0 n0 f) (arrV c1 n1 g) sp dp n = arrV c1 n1 (va_cpy f g sp.toNatClampNeg dp.toNatClampNeg n.toNatClampNeg) := va_copied (fun z => z) c0 c1 f g h4
  rw [e1] at X' step
  have hl : a < H.size := (Array.getElem?_eq_some_iff.mp hc1).1
  have hheap : ((T.setVm vm').setCell a (arrV c1 n1 (va_cpy f g sp.toNatClampNeg dp.toNatClampNeg n.toNatClampNeg))).heap = H.setIfInBounds a (arrV c1 n1 (va_cpy f g sp.toNatClampNeg dp.toNatClampNeg n.toNatClampNeg)) := by rw [← hT]; rfl
  obtain ⟨t, a1, b1⟩ := kk _ _ (by simp) (show (H.setIfInBounds a _)[a]? = some _ by simp [Array.getElem?_setIfInBounds, hl]) (fun q hq => by simp [Array.getElem?_setIfInBounds, Ne.symm hq]) (fun q hq => by
      rcases List.mem_append.mp hq with h | h
      · exact Or.inl h
      · obtain ⟨z, -, hz⟩ := List.mem_map.mp h
        rw [← hz]
        exact Or.inr rfl) _ hheap X'
  exact ⟨t, step t a1, b1⟩
/-- behind an array's copy -/
theorem am_copy_Rp (hR : am_Rp w h H) {h' : am_H} {a a0 sp dp n : Nat} {H' : Heap} (ha4 : 4 ≤ a) (ha : a < h.1) (ha0 : a0 < h.1) (h100 : 100 ≤ (am_tg h a).1) (hk : (am_tg h a).1 = (am_tg h a0).1) (hs : sp + n ≤ (am_tg h a0).2) (d1 : h'.1 = h.1) (d3 : am_tg h' = am_tg h) (d6 : ∀ b, b ≠ a → am_same h h' b)
    (dv : ∀ i, am_val (am_aT (am_tg h a).1) h' a i = if dp ≤ i ∧ i < dp + n then am_val (am_aT (am_tg h a).1) h a0 (sp + (i - dp)) else am_val (am_aT (am_tg h a).1) h a i)
    (g1 : H'[am_a w a]? = some (arrV (am_aC w (am_tg h a).1) (am_tg h a).2 (va_cpy (fun j => am_up (am_a w) (am_val (am_aT (am_tg h a0).1) h a0 j)) (fun j => am_up (am_a w) (am_val (am_aT (am_tg h a).1) h a j)) sp dp n))) (g2 : H'.size = H.size) (g3 : ∀ q, q ≠ am_a w a → H'[q]? = H[q]?) : am_Rp w h' H' := by
  obtain ⟨cell, e1, e2, e3, e4, -, e6⟩ := hR.2.2.2.2 a ha
  obtain ⟨f1, f2, f3, f4, f5, f6, f7, f8⟩ := e6 h100
  obtain ⟨cell0, -, -, -, -, -, x6⟩ := hR.2.2.2.2 a0 ha0
  obtain ⟨-, -, -, -, -, -, x7, -⟩ := x6 (by omega)
  rw [← hk] at g1 x7
  have hnew : arrV (am_aC w (am_tg h a).1) (am_tg h a).2 (va_cpy (fun j => am_up (am_a w) (am_val (am_aT (am_tg h a).1) h a0 j)) (fun j => am_up (am_a w) (am_val (am_aT (am_tg h a).1) h a j)) sp dp n) = arrV (am_aC w (am_tg h a).1) (am_tg h a).2 (fun i => am_up (am_a w) (am_val (am_aT (am_tg h a).1) h' a i)) := by
    refine am_arrV_ext fun i => ?_
    rw [dv]
    unfold va_cpy
    split <;> rfl
  rw [hnew] at g1
  refine hR.put ha4 d1 d6 g2 g3 ⟨_, g1, fun z => (by cases z), rfl, fun _ => rfl, fun q => ?_, fun _ => ?_⟩
  · rw [d3] at q; omega
  · rw [d3]
    refine ⟨rfl, f2, f3, by rw [arrV_size]; exact Nat.le_refl _, by rw [arrV_size], fun i hi => arrV_read _ _ hi, fun i hi => ?_, fun _ => rfl⟩
    rw [dv]
    split
    · exact x7 _ (by omega)
    · exact f7 i hi
theorem am_ak_inv {t : ArrayType} {kd : Nat} (hk : am_ak t = some kd) : newarray.typeOf t = am_aT kd ∧ kd ∈ am_kds ∧ 100 ≤ kd ∧ kd < 110 ∧ am_aT kd ≠ .float ∧ Cond.arrayClass (am_aT kd) ∈ am_aw ∧ componentBytes (am_aT kd) ≤ 8 := by
  cases t <;> first | (cases hk; done) | (cases hk; refine ⟨rfl, by decide, by decide, by decide, by decide, by decide +kernel, by decide⟩)
theorem am_newarr (hx : p.tables.exec = Jvm.exec) (hb : c.code = cc) (hts : ∀ q ∈ am_gw, q.before args s = true) (hK : am_K w s) (hR : am_Rp w h H) {t : ArrayType} {kd : Nat} {n : Int32} {r : List Value} (hk : am_ak t = some kd) (hn : ¬ n < 0) (hn2 : n.toNatClampNeg ≤ 65536) (hdg : decode cc pc = .ok (.newarray t, 2)) (hcells : cells + 1 ≤ R.cells) (hslots : slots + n.toNatClampNeg ≤ R.slots)
    (kk : ∀ (H' : Heap), am_Rp w (am_new h (kd, n.toNatClampNeg) n.toNatClampNeg) H' → W p l e R s m args below meth c H' locs (cells + 1) (slots + n.toNatClampNeg) Q (F0 m (pc + 2) lr ((Value.ref h.1 :: r).map (am_up (am_a w))))) : W p l e R s m args below meth c H locs cells slots Q (F0 m pc lr ((Value.int n :: r).map (am_up (am_a w)))) := by
  obtain ⟨k1, k2, k3, k4, k5, k6, k7⟩ := am_ak_inv hk
  have harr := hts _ (am_aw_in _ k6)
  rw [← k1] at harr
  refine W.newa hx hb harr rfl hdg rfl hn (by rw [k1]; exact Nat.le_trans (Nat.mul_le_mul hn2 k7) (by decide)) hcells hslots fun cA kA comp f1 f2 f3 => ?_
  obtain ⟨-, -, -, -, hfc, -⟩ := hK.2.2.1 kd k2
  rw [k1] at f1 ⊢
  have hcA : cA = am_aC w kd := Option.some.inj (f1.symm.trans (hfc (Or.inl k4)))
  subst hcA
  have kk := kk (H.push { cls := am_aC w kd, slots := Array.replicate n.toNatClampNeg (defaultValue (am_aT kd)), vm := .none }) (am_newarr_Rp hR k2 k3 hn2 k5 (by simp) (fun q hq => by rw [Array.getElem?_push, if_neg (Nat.ne_of_lt hq)]) (by rw [← arrV_new]; simp))
  rw [← am_ad_top hR]
  exact kk
theorem am_anewarr (hx : p.tables.exec = Jvm.exec) (hb : c.code = cc) (hown : s.vm.findClass (am_cn own) = some m.cls) (hts : ∀ q ∈ am_gw, q.before args s = true) (hK : am_K w s) (hR : am_Rp w h H) {idx ci : Nat} {n : Int32} {r : List Value} (hf : am_ckf own idx = some ci) (hkd : 200 + ci ∈ am_kds) (hn : ¬ n < 0) (hn2 : n.toNatClampNeg ≤ 65536) (hdg : decode cc pc = .ok (.anewarray idx, 3)) (hcells : cells + 1 ≤ R.cells) (hslots : slots + n.toNatClampNeg ≤ R.slots)
    (kk : ∀ (H' : Heap), am_Rp w (am_new h (200 + ci, n.toNatClampNeg) n.toNatClampNeg) H' → W p l e R s m args below meth c H' locs (cells + 1) (slots + n.toNatClampNeg) Q (F0 m (pc + 3) lr ((Value.ref h.1 :: r).map (am_up (am_a w))))) : W p l e R s m args below meth c H locs cells slots Q (F0 m pc lr ((Value.int n :: r).map (am_up (am_a w)))) := by
  have hcl := hts _ (am_cw_in _ (List.mem_flatMap.mpr ⟨_, am_ckf_in hf, List.mem_cons_self⟩))
  obtain ⟨kA', comp', k1, k2, k3, k4⟩ := hK.2.2.1 _ hkd
  have hty := am_kds_ref hkd (Nat.le_add_right 200 ci)
  rw [Nat.add_sub_cancel_left] at k4 hty
  have hao := (k4 (Nat.le_add_right 200 ci)).2
  refine W.anew hx hb hown hcl (va_AO.use hao) rfl hdg rfl hn (Nat.le_trans (Nat.mul_le_mul hn2 (Nat.le_refl 4)) (by decide)) hcells hslots fun cA kA comp f1 f2 f3 f4 => ?_
  have hcA : cA = am_aC w (200 + ci) := Option.some.inj (f1.symm.trans (by rw [← hty]; exact k3 (Or.inr (Nat.le_add_right 200 ci))))
  subst hcA
  have kk := kk (H.push { cls := am_aC w (200 + ci), slots := Array.replicate n.toNatClampNeg .null, vm := .none }) (am_newarr_Rp hR hkd (by omega) hn2 (by rw [hty]; exact fun z => (by cases z)) (by simp) (fun q hq => by rw [Array.getElem?_push, if_neg (Nat.ne_of_lt hq)]) (by rw [hty, ← arrV_new]; simp [defaultValue]))
  rw [← am_ad_top hR]
  exact kk
end AM6

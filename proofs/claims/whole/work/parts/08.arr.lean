/-! arrays, objects made, constants over the machine -/
theorem am_arrV_ext {cA : ClassId} {n : Nat} {f g : Nat → Value} (h : ∀ j, f j = g j) : arrV cA n f = arrV cA n g := by
  rw [show f = g from funext h]
section AM4
variable {p : Program} {l : Launch} {e : Env} {R : Room} {s : State} {m : MethodId} {args : Array Value} {below : List Frame} {meth : Method} {c : Code} {H : Heap} {locs : List Loc} {cells slots : Nat} {Q : State → Prop}
variable {cc : ByteArray} {pc : Nat} {lr : Array Slot} {w : am_X} {h : am_H} {own : Nat}
theorem am_ok_inv {a : Nat} {j : Int32} (hk : am_ok h a j = true) : a < h.1 ∧ 100 ≤ (am_tg h a).1 ∧ ¬ j < 0 ∧ j.toNatClampNeg < (am_tg h a).2 := by
  simp only [am_ok, Bool.and_eq_true, decide_eq_true_eq] at hk
  exact ⟨hk.1.1.1, hk.1.1.2, hk.1.2, hk.2⟩
theorem am_aload (hx : p.tables.exec = Jvm.exec) (hb : c.code = cc) (hK : am_K w s) (hR : am_Rp w h H) {tys : List FieldType} {st st' : List Value} {k : Nat} {h' : am_H} {i : Instr} (ht : (i = .iaload ∧ tys = [.int]) ∨ (i = .laload ∧ tys = [.long]) ∨ (i = .daload ∧ tys = [.double]) ∨ (i = .baload ∧ tys = [.byte, .boolean])) (ha : am_al tys st h = some (k, st', h')) (hdg : decode cc pc = .ok (i, k))
    (kk : h' = h → W p l e R s m args below meth c H locs cells slots Q (F0 m (pc + k) lr (st'.map (am_up (am_a w))))) : W p l e R s m args below meth c H locs cells slots Q (F0 m pc lr (st.map (am_up (am_a w)))) := by
  unfold am_al at ha
  split at ha
  · rename_i j a r
    split at ha
    next hc =>
      cases ha
      have kk := kk rfl
      obtain ⟨ha1, h100, hj0, hj1⟩ := am_ok_inv hc.1
      obtain ⟨cell, e1, e2, e3, -, -, e6⟩ := hR.2.2.2.2 a ha1
      obtain ⟨f1, f2, -, f4, -, f6, -, -⟩ := e6 h100
      have harr := am_isArr (hK.2.2.1 _ f2) f1 e3
      have hv := f6 _ hj1
      have hin : ¬ (j < 0 ∨ cell.slots.size ≤ j.toNatClampNeg) := fun q => q.elim hj0 (fun q => by omega)
      rcases ht with ⟨rfl, rfl⟩ | ⟨rfl, rfl⟩ | ⟨rfl, rfl⟩ | ⟨rfl, rfl⟩
      · have ht := List.mem_singleton.mp hc.2
        rw [ht] at harr
        exact W.iald hx hb e1 harr e2 hin hv rfl rfl hdg kk
      · have ht := List.mem_singleton.mp hc.2
        rw [ht] at harr
        exact W.lald hx hb e1 harr e2 hin hv rfl rfl hdg kk
      · have ht := List.mem_singleton.mp hc.2
        rw [ht] at harr
        exact W.dald hx hb e1 harr e2 hin hv rfl rfl hdg kk
      · rcases List.mem_cons.mp hc.2 with ht | ht
        · rw [ht] at harr
          exact W.bald hx hb e1 harr e2 hin hv rfl rfl hdg kk
        · have ht := List.mem_singleton.mp ht
          rw [ht] at harr
          exact W.zald hx hb e1 harr e2 hin hv rfl rfl hdg kk
    next => cases ha
  · cases ha
theorem am_kds_ref {kd : Nat} (hk : kd ∈ am_kds) (h2 : 200 ≤ kd) : am_aT kd = .object (am_cn (kd - 200)) := by
  unfold am_kds at hk
  simp only [List.mem_cons, List.not_mem_nil, or_false] at hk
  rcases hk with rfl | rfl | rfl | rfl | rfl | rfl | rfl | rfl | rfl | rfl | rfl | rfl <;> first | (omega) | rfl
theorem am_aaload (hx : p.tables.exec = Jvm.exec) (hb : c.code = cc) (hK : am_K w s) (hR : am_Rp w h H) {a : Nat} {j : Int32} {r : List Value} (hc : am_ok h a j = true) (h2 : 200 ≤ (am_tg h a).1) (hdg : decode cc pc = .ok (.aaload, 1))
    (kk : W p l e R s m args below meth c H locs cells slots Q (F0 m (pc + 1) lr ((va_rf (am_R h a j.toNatClampNeg) :: r).map (am_up (am_a w))))) : W p l e R s m args below meth c H locs cells slots Q (F0 m pc lr ((Value.int j :: .ref a :: r).map (am_up (am_a w)))) := by
  obtain ⟨ha1, h100, hj0, hj1⟩ := am_ok_inv hc
  obtain ⟨cell, e1, e2, e3, -, -, e6⟩ := hR.2.2.2.2 a ha1
  obtain ⟨f1, f2, -, f4, -, f6, -, -⟩ := e6 h100
  have harr := am_isArr (hK.2.2.1 _ f2) f1 e3
  have hv := f6 _ hj1
  have hin : ¬ (j < 0 ∨ cell.slots.size ≤ j.toNatClampNeg) := fun q => q.elim hj0 (fun q => by omega)
  rw [am_kds_ref f2 h2] at harr hv
  exact W.aald hx hb e1 harr rfl e2 hin hv rfl rfl hdg kk
/-- behind an array's store -/
theorem am_arr_put (hR : am_Rp w h H) {h' : am_H} {a j : Nat} {v : Value} {cell : Cell} {H' : Heap} (ha4 : 4 ≤ a) (ha : a < h.1) (h100 : 100 ≤ (am_tg h a).1) (hd : am_did (am_aT (am_tg h a).1) h h' a j v) (hfit : fits (am_aT (am_tg h a).1) v = true) (e1 : H[am_a w a]? = some cell) (g1 : H'[am_a w a]? = some (cell.setSlot j (am_up (am_a w) v))) (g2 : H'.size = H.size) (g3 : ∀ q, q ≠ am_a w a → H'[q]? = H[q]?) : am_Rp w h' H' := by
  obtain ⟨cell', e1', e2, e3, e4, -, e6⟩ := hR.2.2.2.2 a ha
  obtain rfl := Option.some.inj (e1.symm.trans e1')
  obtain ⟨f1, f2, f3, f4, f5, f6, f7, f8⟩ := e6 h100
  have hcell := f8 ha4
  obtain ⟨d1, d2, d3, d4, d5, d6⟩ := hd
  have hnew : cell.setSlot j (am_up (am_a w) v) = arrV (am_aC w (am_tg h a).1) (am_tg h a).2 (fun i => am_up (am_a w) (am_val (am_aT (am_tg h a).1) h' a i)) := by
    rw [hcell, arrV_store]
    refine am_arrV_ext fun i => ?_
    unfold updV
    by_cases hi : i = j
    · subst hi; rw [if_pos rfl, d4]
    · rw [if_neg hi, d5 _ _ hi]
  refine hR.put ha4 d1 d6 g2 g3 ⟨_, g1, ?_, ?_, fun _ => ?_, fun q => ?_, fun _ => ?_⟩
  · rw [hnew]; exact fun z => (by cases z)
  · rw [hnew]; rfl
  · rw [hnew]; rfl
  · rw [d3] at q; omega
  · rw [d3]
    refine ⟨by rw [hnew]; rfl, f2, f3, by rw [hnew, arrV_size]; exact Nat.le_refl _, by rw [hnew, arrV_size], fun i hi => by rw [hnew]; exact arrV_read _ _ hi, fun i hi => ?_, fun _ => hnew⟩
    by_cases hij : i = j
    · subst hij; rw [d4]; exact hfit
    · rw [d5 _ _ hij]; exact f7 i hi
theorem am_narrow_byte (x : Int32) : fits .byte (.int x.toInt8.toInt32) = true := pk_fb x
theorem am_astore (hx : p.tables.exec = Jvm.exec) (hb : c.code = cc) (hK : am_K w s) (hR : am_Rp w h H) (hlo : ∀ q ∈ locs, am_b w ≤ q.base) {tys : List FieldType} {st st' : List Value} {k : Nat} {h' : am_H} {i : Instr} (ht : (i = .iastore ∧ tys = [.int]) ∨ (i = .lastore ∧ tys = [.long]) ∨ (i = .dastore ∧ tys = [.double]) ∨ (i = .bastore ∧ tys = [.byte, .boolean])) (ha : am_as tys st h = some (k, st', h')) (hdg : decode cc pc = .ok (i, k))
    (kk : ∀ (H' : Heap) (locs' : List Loc), h'.1 = h.1 → h'.2.1 = h.2.1 → am_Rp w h' H' → (∀ q ∈ locs', am_b w ≤ q.base) → W p l e R s m args below meth c H' locs' cells slots Q (F0 m (pc + k) lr (st'.map (am_up (am_a w))))) : W p l e R s m args below meth c H locs cells slots Q (F0 m pc lr (st.map (am_up (am_a w)))) := by
  unfold am_as at ha
  split at ha
  · rename_i v j a r
    split at ha
    next hc =>
      obtain ⟨hc1, ha4, hc2⟩ := hc
      obtain ⟨h1, hp, hq⟩ := am_map1 ha
      cases hq
      obtain ⟨ha1, h100, hj0, hj1⟩ := am_ok_inv hc1
      obtain ⟨cell, e1, e2, e3, -, -, e6⟩ := hR.2.2.2.2 a ha1
      obtain ⟨f1, f2, -, f4, -, f6, -, -⟩ := e6 h100
      have harr := am_isArr (hK.2.2.1 _ f2) f1 e3
      have hin : ¬ (j < 0 ∨ cell.slots.size ≤ j.toNatClampNeg) := fun q => q.elim hj0 (fun q => by omega)
      have hlo' : ∀ (i : Nat), ∀ q ∈ locs ++ [⟨am_a w a, i⟩], am_b w ≤ q.base := by
        intro i q hq
        rcases List.mem_append.mp hq with hq | hq
        · exact hlo q hq
        · rw [List.mem_singleton.mp hq]
          show am_b w ≤ am_a w a
          rw [am_a_hi ha4]; omega
      have fin : ∀ (v' : Value) (H' : Heap), am_did (am_aT (am_tg h a).1) h h' a j.toNatClampNeg v' → fits (am_aT (am_tg h a).1) v' = true → H'[am_a w a]? = some (cell.setSlot j.toNatClampNeg (am_up (am_a w) v')) → H'.size = H.size → (∀ q, q ≠ am_a w a → H'[q]? = H[q]?) → W p l e R s m args below meth c H' (locs ++ [⟨am_a w a, j.toNatClampNeg⟩]) cells slots Q (F0 m (pc + 1) lr (st'.map (am_up (am_a w)))) :=
        fun v' H' hd hfit g1 g2 g3 => kk H' _ hd.1 hd.2.1 (am_arr_put hR ha4 ha1 h100 hd hfit e1 g1 g2 g3) (hlo' _)
      rcases ht with ⟨rfl, rfl⟩ | ⟨rfl, rfl⟩ | ⟨rfl, rfl⟩ | ⟨rfl, rfl⟩
      · have ht := List.mem_singleton.mp hc2
        rw [ht] at harr hp fin
        unfold am_pu am_put at hp
        simp only at hp
        split at hp
        · cases hp
          exact W.iast hx hb e1 harr e2 hin rfl rfl hdg (fun H' => fin _ H' (am_setI_did (Or.inl rfl)) rfl)
        · cases hp
      · have ht := List.mem_singleton.mp hc2
        rw [ht] at harr hp fin
        unfold am_pu am_put at hp
        simp only at hp
        split at hp
        · cases hp
          exact W.last hx hb e1 harr e2 hin rfl rfl hdg (fun H' => fin _ H' am_setL_did rfl)
        · cases hp
      · have ht := List.mem_singleton.mp hc2
        rw [ht] at harr hp fin
        unfold am_pu am_put at hp
        simp only at hp
        split at hp
        · cases hp
          exact W.dast hx hb e1 harr e2 hin rfl rfl hdg (fun H' => fin _ H' am_setD_did rfl)
        · cases hp
      · rcases List.mem_cons.mp hc2 with ht | ht
        · rw [ht] at harr hp fin
          unfold am_pu at hp
          simp only at hp
          split at hp
          · cases hp
            exact W.bast hx hb e1 harr e2 hin rfl rfl hdg (fun H' => fin _ H' (am_setI_did (Or.inr (Or.inr rfl))) (am_narrow_byte _))
          · cases hp
        · have ht := List.mem_singleton.mp ht
          rw [ht] at harr hp fin
          unfold am_pu at hp
          simp only at hp
          obtain ⟨hd, hn, hft⟩ := am_put_inv (am_a w) hp
          unfold am_put at hp
          simp only at hp
          split at hp
          · refine W.zast hx hb e1 harr e2 hin rfl rfl hdg (fun H' g1 => fin _ H' hd hft ?_)
            rw [g1]
            congr 2
          · cases hp
    next => cases ha
  · cases ha
theorem am_aastore (hx : p.tables.exec = Jvm.exec) (hb : c.code = cc) (hK : am_K w s) (hR : am_Rp w h H) (hlo : ∀ q ∈ locs, am_b w ≤ q.base) {a v : Nat} {j : Int32} {r : List Value} (hc : am_ok h a j = true) (ha4 : 4 ≤ a) (hv4 : 4 ≤ v) (hv : v < h.1) (hv13 : (am_tg h v).1 < 13) (hk : (am_tg h a).1 = 200 + (am_tg h v).1) (hdg : decode cc pc = .ok (.aastore, 1))
    (kk : ∀ (H' : Heap) (locs' : List Loc), am_Rp w (am_setR h a j.toNatClampNeg (some v)) H' → (∀ q ∈ locs', am_b w ≤ q.base) → W p l e R s m args below meth c H' locs' cells slots Q (F0 m (pc + 1) lr (r.map (am_up (am_a w))))) : W p l e R s m args below meth c H locs cells slots Q (F0 m pc lr ((Value.ref v :: .int j :: .ref a :: r).map (am_up (am_a w)))) := by
  obtain ⟨ha1, h100, hj0, hj1⟩ := am_ok_inv hc
  obtain ⟨cell, e1, e2, e3, e4, -, e6⟩ := hR.2.2.2.2 a ha1
  obtain ⟨f1, f2, -, f4, -, f6, -, -⟩ := e6 h100
  obtain ⟨cv, v1, v2, v3, v4, v5, -⟩ := hR.2.2.2.2 v hv
  obtain ⟨g1, g2, -⟩ := v5 (by omega)
  have hins : (am_tg h v).1 ∈ am_ins := by
    rcases g2 with q | ⟨-, q⟩
    · exact q
    · omega
  obtain ⟨-, hcls⟩ := hK.1 _ hins
  obtain ⟨kA, comp, k1, k2, -, k4⟩ := hK.2.2.1 _ f2
  have k3 := (k4 (by omega)).1
  rw [hk, Nat.add_sub_cancel_left] at k3
  have hcomp : comp = am_dC w (am_tg h v).1 := Option.some.inj (k3.symm.trans hcls.1)
  subst hcomp
  obtain ⟨kC, hkC, -⟩ := id hcls.2
  rw [am_kds_ref f2 (by omega)] at k2
  refine W.aast hx hb e1 (fun q hq => by rw [hq] at e3; cases e3) e2 (by rw [f1]; exact k1) k2 rfl hkC ⟨hj0, by omega⟩ v1 (fun q hq => by rw [hq] at v3; cases v3) (by rw [g1]; exact hkC) (by rw [g1]; exact va_assign hcls) rfl rfl hdg (fun H' q1 q2 q3 => ?_)
  refine kk H' _ (am_arr_put hR ha4 ha1 h100 (am_setR_did (Or.inl ⟨_, am_kds_ref f2 (by omega)⟩)) (by rw [am_kds_ref f2 (by omega)]; rfl) e1 q1 q2 q3) ?_
  intro q hq
  rcases List.mem_append.mp hq with hq | hq
  · exact hlo q hq
  · rw [List.mem_singleton.mp hq]
    show am_b w ≤ am_a w a
    rw [am_a_hi ha4]; omega
theorem am_alen (hx : p.tables.exec = Jvm.exec) (hb : c.code = cc) (hK : am_K w s) (hR : am_Rp w h H) {a : Nat} {r : List Value} (ha : a < h.1) (h100 : 100 ≤ (am_tg h a).1) (hdg : decode cc pc = .ok (.arraylength, 1))
    (kk : W p l e R s m args below meth c H locs cells slots Q (F0 m (pc + 1) lr ((Value.int (Int32.ofNat (am_tg h a).2) :: r).map (am_up (am_a w))))) : W p l e R s m args below meth c H locs cells slots Q (F0 m pc lr ((Value.ref a :: r).map (am_up (am_a w)))) := by
  obtain ⟨cell, e1, e2, e3, -, -, e6⟩ := hR.2.2.2.2 a ha
  obtain ⟨f1, f2, -, f4, f5, f6, -, -⟩ := e6 h100
  exact W.alen hx hb e1 (am_isArr (hK.2.2.1 _ f2) f1 e3) f5 rfl rfl hdg kk
/-- behind a 'new': the heap has grown by one cell -/
theorem am_Rp.new (hR : am_Rp w h H) {tag : Nat × Nat} {n : Nat} {H' : Heap} (hz : H'.size = H.size + 1) (ho : ∀ q, q < H.size → H'[q]? = H[q]?) (hc : am_cell w (am_new h tag n) H' h.1) : am_Rp w (am_new h tag n) H' := by
  obtain ⟨r1, r2, r3, r4, r5⟩ := id hR
  have hb : am_b w ≤ H.size := by omega
  refine ⟨by show 4 ≤ h.1 + 1; omega, by show H'.size + 4 = am_b w + (h.1 + 1); omega, fun q hq => by rw [ho q (by omega)]; exact r3 q hq, r4, fun k hk => ?_⟩
  by_cases hk1 : k = h.1
  · rw [hk1]; exact hc
  · have hk2 : k < h.1 := by have : k < h.1 + 1 := hk; omega
    refine (r5 k hk2).kept ⟨?_, fun j => ⟨?_, ?_, ?_, ?_⟩⟩ (ho _ (am_a_lt hR hk2))
    · show am_t _ _ _ _ = _; unfold am_t; rw [if_neg hk1]
    · show am_z _ _ _ _ _ = _; unfold am_z; rw [if_neg hk1]
    · show am_z _ _ _ _ _ = _; unfold am_z; rw [if_neg hk1]
    · show am_z _ _ _ _ _ = _; unfold am_z; rw [if_neg hk1]
    · show am_z _ _ _ _ _ = _; unfold am_z; rw [if_neg hk1]
theorem am_new_tg {tag : Nat × Nat} {n : Nat} : am_tg (am_new h tag n) h.1 = tag := by
  show am_t _ _ _ _ = _; unfold am_t; rw [if_pos rfl]
theorem am_new_val {tag : Nat × Nat} {n j : Nat} (ad : Nat → Nat) (ty : FieldType) (hty : ty ≠ .float) : am_up ad (am_val ty (am_new h tag n) h.1 j) = defaultValue ty := by
  have eI : am_I (am_new h tag n) h.1 j = 0 := by show am_z _ _ _ _ _ = _; unfold am_z; rw [if_pos rfl]
  have eL : am_L (am_new h tag n) h.1 j = 0 := by show am_z _ _ _ _ _ = _; unfold am_z; rw [if_pos rfl]
  have eD : am_D (am_new h tag n) h.1 j = 0 := by show am_z _ _ _ _ _ = _; unfold am_z; rw [if_pos rfl]
  have eR : am_R (am_new h tag n) h.1 j = none := by show am_z _ _ _ _ _ = _; unfold am_z; rw [if_pos rfl]
  cases ty <;> first | (exact absurd rfl hty) | (simp only [am_val, eI, eL, eD, eR]; rfl)
theorem am_ad_top (hR : am_Rp w h H) : am_a w h.1 = H.size := by
  rw [am_a_hi hR.1]; have := hR.2.1; have := hR.1; omega
theorem am_ckf_in {own idx ci : Nat} (hf : am_ckf own idx = some ci) : (own, idx, ci) ∈ am_ck := by
  unfold am_ckf at hf
  obtain ⟨e, h1, h2⟩ := am_map1 hf
  have h3 := List.find?_some h1
  simp only [Bool.and_eq_true, beq_iff_eq] at h3
  have h4 := List.mem_of_find?_eq_some h1
  obtain ⟨e1, e2, e3⟩ := e
  obtain ⟨rfl, rfl⟩ := h3
  cases h2
  exact h4
theorem am_ck_ins : ∀ q ∈ am_ck, q.2.2 < 13 → q.2.2 ∈ am_ins := by decide +kernel
theorem am_nofloat : ∀ ci ∈ am_ins, ∀ k, k < am_nF ci → am_fT ci k ≠ .float := by decide +kernel
theorem am_newobj (hx : p.tables.exec = Jvm.exec) (hb : c.code = cc) (hown : s.vm.findClass (am_cn own) = some m.cls) (hts : ∀ q ∈ am_gw, q.before args s = true) (hK : am_K w s) (hR : am_Rp w h H) {idx ci : Nat} {st : List Value} (hf : am_ckf own idx = some ci) (h13 : ci < 13) (hdg : decode cc pc = .ok (.new idx, 3)) (hcells : cells + 1 ≤ R.cells) (hslots : slots + am_nF ci ≤ R.slots)
    (kk : ∀ (H' : Heap), am_Rp w (am_new h (ci, 0) (am_nF ci)) H' → W p l e R s m args below meth c H' locs (cells + 1) (slots + am_nF ci) Q (F0 m (pc + 3) lr ((Value.ref h.1 :: st).map (am_up (am_a w))))) : W p l e R s m args below meth c H locs cells slots Q (F0 m pc lr (st.map (am_up (am_a w)))) := by
  have hin := am_ckf_in hf
  have hins := am_ck_ins _ hin h13
  have hcl := hts _ (am_cw_in _ (List.mem_flatMap.mpr ⟨_, hin, List.mem_cons_self⟩))
  have hi := hts _ (am_iw_in _ (List.mem_flatMap.mpr ⟨ci, hins, List.mem_cons_self⟩))
  have hini := hts _ (am_iw_in _ (List.mem_flatMap.mpr ⟨ci, hins, List.mem_cons_of_mem _ List.mem_cons_self⟩))
  have hKn := hK.1 ci hins
  refine W.newcK hx hb hown hcl hi hini rfl hdg hcells hslots hKn.2.1 rfl fun H1 kC hkC e1 z1 o1 => ?_
  obtain ⟨cell, b1, b2, b3, b4⟩ := u_born (am_fT ci) hts (am_iw_at hts hins) hKn hkC e1 (am_fty ci hins)
  have kk := kk H1 (hR.new z1 o1 ⟨cell, by rw [am_ad_top hR]; exact b1, by rw [b3]; exact fun z => (by cases z), by rw [b3]; rfl, fun _ => b3, fun _ => ?_, fun q => ?_⟩)
  · rw [← am_ad_top hR]; exact kk
  · rw [am_new_tg]
    exact ⟨b2, Or.inl hins, fun j hj => by rw [am_new_val _ _ (am_nofloat ci hins j hj)]; exact b4 j hj⟩
  · rw [am_new_tg] at q
    have : 100 ≤ ci := q
    omega
theorem am_newarr_Rp (hR : am_Rp w h H) {kd n : Nat} {H' : Heap} (hkd : kd ∈ am_kds) (h100 : 100 ≤ kd) (hn : n ≤ 65536) (hnf : am_aT kd ≠ .float) (z1 : H'.size = H.size + 1) (o1 : ∀ q, q < H.size → H'[q]? = H[q]?) (e1 : H'[H.size]? = some (arrV (am_aC w kd) n (fun _ => defaultValue (am_aT kd)))) : am_Rp w (am_new h (kd, n) n) H' := by
  have hv : ∀ j, am_up (am_a w) (am_val (am_aT kd) (am_new h (kd, n) n) h.1 j) = defaultValue (am_aT kd) := fun j => am_new_val _ _ hnf
  refine hR.new z1 o1 ⟨_, by rw [am_ad_top hR]; exact e1, fun z => (by cases z), rfl, fun _ => rfl, fun q => ?_, fun _ => ?_⟩
  · rw [am_new_tg] at q
    have : kd < 100 := q
    omega
  · rw [am_new_tg]
    refine ⟨rfl, hkd, by show n < _; omega, by rw [arrV_size]; exact Nat.le_refl _, by rw [arrV_size], fun j hj => by rw [arrV_read _ _ hj, hv], fun j hj => ?_, fun _ => am_arrV_ext fun j => (hv j).symm⟩
    have := hv j
    show fits (am_aT kd) (am_val (am_aT kd) (am_new h (kd, n) n) h.1 j) = true
    generalize am_val (am_aT kd) (am_new h (kd, n) n) h.1 j = x at this
    cases hty : am_aT kd <;> rw [hty] at this <;> cases x <;> first | (simp only [am_up, defaultValue] at this; cases this; rfl) | (simp [am_up, defaultValue] at this; done) | (simp only [am_up, defaultValue] at this; cases this) | rfl
end AM4

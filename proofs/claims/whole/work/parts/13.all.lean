section AM9
variable {p : Program} {l : Launch} {e : Env} {R : Room} {s : State} {m : MethodId} {args : Array Value} {below : List Frame} {meth : Method} {c : Code} {H : Heap} {locs : List Loc} {cells slots : Nat} {Q : State → Prop}
variable {cc : ByteArray} {pc : Nat} {lr : Array Slot} {w : am_X} {h : am_H} {own : Nat}
theorem am_mok_at {own idx kd mj n : Nat} (hf : am_mkf own idx = some (kd, mj, n)) (hk : kd = 0 ∨ kd = 1 ∨ kd = 2 ∨ kd = 10 ∨ kd = 11 ∨ kd = 12) : (parseMethodDescriptor (am_y mj).desc).map (fun d => d.parameters.length) = some n ∧ mj < 284 ∧ (kd = 1 ∨ kd = 11 → (am_y mj).name = "<init>" ∧ (am_mt.getD mj (0, "", "", .empty, 0, none)).2.2.2.2.2 = none) := by
  have h1 := List.all_eq_true.mp am_mok_all _ (am_mkf_in hf)
  unfold am_mok at h1
  simp only at h1
  rw [if_neg (by omega)] at h1
  simp only [Bool.and_eq_true, decide_eq_true_eq] at h1
  refine ⟨h1.1.1, h1.1.2, fun q => ?_⟩
  have h2 := h1.2
  rw [if_pos q] at h2
  simp only [Bool.and_eq_true, beq_iff_eq, decide_eq_true_eq] at h2
  exact h2
theorem am_code_in {mj : Nat} {e0 : Nat × String × String × ByteArray × Nat × Option FieldType} (he : am_mt[mj]? = some e0) (hm : mj < 284) : am_cd e0 ∈ am_gw := by
  refine am_cd_in _ (List.mem_map.mpr ⟨e0, ?_, rfl⟩)
  refine List.mem_of_getElem? (i := mj) ?_
  rw [List.getElem?_take, if_pos hm]
  exact he
theorem am_recv (hK : am_K w s) (hR : am_Rp w h H) {b ci : Nat} (hb : b < h.1) (ht : (am_tg h b).1 = ci) (h100 : ci < 100) : ∃ cellB : Cell, H[am_a w b]? = some cellB ∧ cellB.vm.isStatics = false ∧ s.vm.findClass (am_cn ci) = some cellB.cls := by
  obtain ⟨cell, e1, e2, e3, e4, e5, -⟩ := hR.2.2.2.2 b hb
  obtain ⟨f1, f2, -⟩ := e5 (by rw [ht]; exact h100)
  rw [ht] at f1 f2
  refine ⟨cell, e1, e3, ?_⟩
  rw [f1]
  rcases f2 with q | ⟨q, -⟩
  · exact (hK.1 _ q).2.1
  · rw [q]; exact hK.2.1.2
theorem am_blind {as : List Value} {h : am_H} : FrameBlind (va_Pc (as.map (am_up (am_a w))) (fun U => am_Rp w h U.heap ∧ am_K w U)) := fun a U g mk q => ⟨q.1, q.2.1, q.2.2.calling g mk a⟩
set_option maxHeartbeats 4000000 in
theorem am_cl_ok {n : Nat} (ih : am_Wn l w n) (hx : p.tables.exec = Jvm.exec) (hb : c.code = cc) (hml : c.maxLocals = lr.size) (hown : s.vm.findClass (am_cn own) = some m.cls) (hts : ∀ q ∈ am_gw, q.before args s = true) (hK : am_K w s) (hR : am_Rp w h H) (hlo : ∀ q ∈ locs, am_b w ≤ q.base) {d mj : Nat} {i : Instr} {st as rest : List Value} {e0 : Nat × String × String × ByteArray × Nat × Option FieldType} {r1 : Option Value} {h1 : am_H}
    (hh : am_cl own d i st h = some (mj, as, rest)) (he : am_mt[mj]? = some e0) (ha : am n (d - 1) mj 0 (am_en e0.2.2.2.2.1 as) [] h = some (r1, h1)) (hdg : decode cc pc = .ok (i, 3)) (hfr : d ≤ R.frames) (hlc : 60 * d ≤ R.locals) (hc0 : cells + (h1.1 - h.1) ≤ R.cells) (hs0 : slots + (h1.2.1 - h.2.1) ≤ R.slots)
    (kk : ∀ (H1 : Heap) (locs1 : List Loc), am_Rp w h1 H1 → (∀ q ∈ locs1, am_b w ≤ q.base) → W p l e R s m args below meth c H1 locs1 (cells + (h1.1 - h.1)) (slots + (h1.2.1 - h.2.1)) Q (F0 m (pc + 3) lr ((r1.toList ++ rest).map (am_up (am_a w))))) : W p l e R s m args below meth c H locs cells slots Q (F0 m pc lr (st.map (am_up (am_a w)))) := by
  have hok := List.all_eq_true.mp am_eok_all e0 (List.mem_of_getElem? he)
  unfold am_eok at hok
  simp only [Bool.and_eq_true, Bool.not_eq_true', beq_eq_false_iff_ne] at hok
  have hy := am_y_eq he
  have hycls : (am_y mj).cls = am_cn e0.1 := by rw [hy]
  have hne : (am_y mj).cls ≠ "java/lang/invoke/MethodHandle" ∧ (am_y mj).cls ≠ "java/lang/invoke/VarHandle" := by rw [hycls]; exact ⟨hok.1.2, hok.2⟩
  have hcd : am_cd e0 = Cond.code (am_y mj) e0.2.2.2.1 e0.2.2.2.2.1 e0.2.2.2.2.2 := by rw [hy]; rfl
  unfold am_cl at hh
  split at hh
  · rename_i idx
    split at hh
    · rename_i kd mj' nn hf
      split at hh
      · rename_i b e1 hb1 he1
        split at hh
        next hq =>
          cases hh
          obtain rfl := Option.some.inj (he.symm.trans he1)
          obtain ⟨q1, q2, q3, q4, q5, q6, q7⟩ := hq
          obtain ⟨o1, o2, -⟩ := am_mok_at hf (by omega)
          have hM := am_Met ih he q6 ha
          have hw := am_mw_at hts hf
          have hgood := am_good_cons (am_code_in he o2)
          have hR1 : (d - 1) + 1 ≤ R.frames ∧ 8 + (e0.2.2.2.2.1 + 11) + 60 * (d - 1) ≤ R.locals := ⟨by omega, by omega⟩
          have hrec := am_recv hK hR q2 q3 (am_e100 _ (List.mem_of_getElem? he))
          have hlenst : nn < st.length := (List.getElem?_eq_some_iff.mp hb1).1
          have hst : st = (st.take nn) ++ .ref b :: st.drop (nn + 1) := by
            conv => lhs; rw [← List.take_append_drop nn st]
            congr 1
            rw [List.drop_eq_getElem_cons hlenst]
            congr 1
            have := (List.getElem?_eq_some_iff.mp hb1).2
            exact this
          have hstack : st.map (am_up (am_a w)) = (((st.take nn).reverse).map (am_up (am_a w))).reverse ++ Value.ref (am_a w b) :: (st.drop (nn + 1)).map (am_up (am_a w)) := by
            rw [List.map_reverse, List.reverse_reverse]
            conv => lhs; rw [hst]
            rw [List.map_append]; rfl
          have hpre : PreV s H (am_cn e0.1) (am_a w b) (va_Pc ((Value.ref b :: (st.take nn).reverse).map (am_up (am_a w))) (fun U => am_Rp w h U.heap ∧ am_K w U)) (((st.take nn).reverse).map (am_up (am_a w))) :=
            ⟨am_blind, hrec, fun U hU hW => ⟨rfl, by rw [hU]; exact hR, hK.warm hW⟩⟩
          have hlenA : (((st.take nn).reverse).map (am_up (am_a w))).length = nn := by simp; omega
          have hsum : 2 * (F0 m pc lr (st.map (am_up (am_a w)))).monitorRoom + (((st.drop (nn + 1)).map (am_up (am_a w))).map fun v => v.category).sum ≤ 8 := by
            show 2 * 0 + _ ≤ 8
            rw [am_sum_up]; omega
          rw [hcd] at hM hgood
          rcases q1 with rfl | rfl
          · have hB := callB_of (R := R) (own := am_cn own) (index := idx) (rm := { frames := d - 1, cells := h1.1 - h.1, slots := h1.2.1 - h.2.1, locals := 60 * (d - 1) }) nn hts hgood rfl rfl rfl (hw _ (by simp [am_mw])) (hw _ (by simp [am_mw])) ⟨hne.1, hne.2, o1⟩ hR1
            have hsel := hw (Cond.selects (am_y mj).cls (am_y mj) (am_y mj)) (by simp [am_mw])
            rw [hycls] at hsel
            exact am_after (W.runV (g := F0 m pc lr (st.map (am_up (am_a w)))) ⟨hx, hb, rfl, hown, hts⟩ hM ⟨hB, hw _ (by simp [am_mw]), hsel⟩ hpre rfl hlenA (by rw [hml]) hstack hsum hdg ⟨hc0, hs0⟩) hlo kk
          · have hNw := hK.2.2.2.1 _ (am_nestin _ (am_mkf_in hf) (Nat.le_of_ble_eq_true rfl))
            have hB := va_cnB (R := R) (own := am_cn own) (index := idx) (rm := { frames := d - 1, cells := h1.1 - h.1, slots := h1.2.1 - h.2.1, locals := 60 * (d - 1) }) nn hts hgood rfl rfl rfl hNw (hw _ (by simp [am_mw])) ⟨hne.1, hne.2, o1⟩ hR1
            have hsel := hw (Cond.selects (am_y mj).cls (am_y mj) (am_y mj)) (by simp [am_mw])
            rw [hycls] at hsel
            refine am_after (a := #[]) (fun T hT X => ?_) hlo kk
            obtain ⟨v, st₀, t, T', L, z1, z2, z3, z4, -, z5, z6⟩ := va_runVN (g := F0 m pc lr (st.map (am_up (am_a w)))) ⟨hx, hb, rfl, hown, hts⟩ hM ⟨hB, hw _ (by simp [am_mw]), hsel⟩ hpre rfl hlenA (by rw [hml]) hstack hsum hdg ⟨hc0, hs0⟩ T hT X
            exact ⟨v, st₀, t, T', L, z1, z2, z3, z4, z5, z6⟩
        next => cases hh
      · cases hh
    · cases hh
  · rename_i idx
    split at hh
    · rename_i kd mj' nn hf
      split at hh
      · rename_i b e1 hb1 he1
        split at hh
        next hq =>
          cases hh
          obtain rfl := Option.some.inj (he.symm.trans he1)
          obtain ⟨q1, q4, q5, q6, q7⟩ := hq
          obtain ⟨o1, o2, o3⟩ := am_mok_at hf (by omega)
          have o4 := o3 q1
          clear o3
          have hret : e0.2.2.2.2.2 = none := by
            have := o4.2
            rw [List.getD_eq_getElem?_getD, he] at this
            exact this
          have hM := am_Met ih he q6 ha
          have hw := am_mw_at hts hf
          have hgood := am_good_cons (am_code_in he o2)
          have hR1 : (d - 1) + 1 ≤ R.frames ∧ 8 + (e0.2.2.2.2.1 + 11) + 60 * (d - 1) ≤ R.locals := ⟨by omega, by omega⟩
          have hlenst : nn < st.length := (List.getElem?_eq_some_iff.mp hb1).1
          have hst : st = (st.take nn) ++ .ref b :: st.drop (nn + 1) := by
            conv => lhs; rw [← List.take_append_drop nn st]
            congr 1
            rw [List.drop_eq_getElem_cons hlenst]
            congr 1
            have := (List.getElem?_eq_some_iff.mp hb1).2
            exact this
          have hstack : st.map (am_up (am_a w)) = (((st.take nn).reverse).map (am_up (am_a w))).reverse ++ Value.ref (am_a w b) :: (st.drop (nn + 1)).map (am_up (am_a w)) := by
            rw [List.map_reverse, List.reverse_reverse]
            conv => lhs; rw [hst]
            rw [List.map_append]; rfl
          have hpre : PreS s H (va_Pc ((Value.ref b :: (st.take nn).reverse).map (am_up (am_a w))) (fun U => am_Rp w h U.heap ∧ am_K w U)) (.ref (am_a w b) :: ((st.take nn).reverse).map (am_up (am_a w))) :=
            ⟨am_blind, fun U hU hW => ⟨rfl, by rw [hU]; exact hR, hK.warm hW⟩⟩
          have hlenA : (((st.take nn).reverse).map (am_up (am_a w))).length = nn := by simp; omega
          have hsum : 2 * (F0 m pc lr (st.map (am_up (am_a w)))).monitorRoom + (((st.drop (nn + 1)).map (am_up (am_a w))).map fun v => v.category).sum ≤ 8 := by
            show 2 * 0 + _ ≤ 8
            rw [am_sum_up]; omega
          rw [hcd, hret] at hM hgood
          rcases q1 with rfl | rfl
          · have hB := callB_of (R := R) (own := am_cn own) (index := idx) (rm := { frames := d - 1, cells := h1.1 - h.1, slots := h1.2.1 - h.2.1, locals := 60 * (d - 1) }) nn hts hgood rfl rfl rfl (hw _ (by simp [am_mw])) (hw _ (by simp [am_mw])) ⟨hne.1, hne.2, o1⟩ hR1
            exact am_after (W.runI (g := F0 m pc lr (st.map (am_up (am_a w)))) ⟨hx, hb, rfl, hown, hts⟩ hM ⟨hB, o4.1, hw _ (by simp [am_mw])⟩ hpre rfl hlenA (by rw [hml]) hstack hsum hdg ⟨hc0, hs0⟩) hlo kk
          · have hNw := hK.2.2.2.1 _ (am_nestin _ (am_mkf_in hf) (Nat.le_of_ble_eq_true rfl))
            have hB := va_cnB (R := R) (own := am_cn own) (index := idx) (rm := { frames := d - 1, cells := h1.1 - h.1, slots := h1.2.1 - h.2.1, locals := 60 * (d - 1) }) nn hts hgood rfl rfl rfl hNw (hw _ (by simp [am_mw])) ⟨hne.1, hne.2, o1⟩ hR1
            refine am_after (a := #[]) (fun T hT X => ?_) hlo kk
            obtain ⟨v, st₀, t, T', L, z1, z2, z3, z4, -, z5, z6⟩ := va_runIN (g := F0 m pc lr (st.map (am_up (am_a w)))) ⟨hx, hb, rfl, hown, hts⟩ hM ⟨hB, o4.1, hw _ (by simp [am_mw])⟩ hpre rfl hlenA (by rw [hml]) hstack hsum hdg ⟨hc0, hs0⟩ T hT X
            exact ⟨v, st₀, t, T', L, z1, z2, z3, z4, z5, z6⟩
        next => cases hh
      · cases hh
    · cases hh
  · rename_i idx
    split at hh
    · rename_i kd mj' nn hf
      split at hh
      · rename_i e1 he1
        split at hh
        next hq =>
          cases hh
          obtain rfl := Option.some.inj (he.symm.trans he1)
          obtain ⟨q1, q3, q4, q5, q6, q7⟩ := hq
          obtain ⟨o1, o2, -⟩ := am_mok_at hf (by omega)
          have hM := am_Met ih he q6 ha
          have hw := am_mw_at hts hf
          have hgood := am_good_cons (am_code_in he o2)
          have hR1 : (d - 1) + 1 ≤ R.frames ∧ 8 + (e0.2.2.2.2.1 + 11) + 60 * (d - 1) ≤ R.locals := ⟨by omega, by omega⟩
          have hstack : st.map (am_up (am_a w)) = (((st.take nn).reverse).map (am_up (am_a w))).reverse ++ (st.drop nn).map (am_up (am_a w)) := by
            rw [List.map_reverse, List.reverse_reverse, ← List.map_append, List.take_append_drop]
          have hpre : PreS s H (va_Pc ((st.take nn).reverse.map (am_up (am_a w))) (fun U => am_Rp w h U.heap ∧ am_K w U)) (((st.take nn).reverse).map (am_up (am_a w))) :=
            ⟨am_blind, fun U hU hW => ⟨rfl, by rw [hU]; exact hR, hK.warm hW⟩⟩
          have hlenA : (((st.take nn).reverse).map (am_up (am_a w))).length = nn := by simp; omega
          have hsum : 2 * (F0 m pc lr (st.map (am_up (am_a w)))).monitorRoom + (((st.drop nn).map (am_up (am_a w))).map fun v => v.category).sum ≤ 8 := by
            show 2 * 0 + _ ≤ 8
            rw [am_sum_up]; omega
          rw [hcd] at hM hgood
          rcases q1 with rfl | rfl
          · have hB := callB_of (R := R) (own := am_cn own) (index := idx) (rm := { frames := d - 1, cells := h1.1 - h.1, slots := h1.2.1 - h.2.1, locals := 60 * (d - 1) }) nn hts hgood rfl rfl rfl (hw _ (by simp [am_mw])) (hw _ (by simp [am_mw])) ⟨hne.1, hne.2, o1⟩ hR1
            exact am_after (W.runS (g := F0 m pc lr (st.map (am_up (am_a w)))) ⟨hx, hb, rfl, hown, hts⟩ hM ⟨hB, hw _ (by simp [am_mw])⟩ hpre rfl hlenA (by rw [hml]) hstack hsum hdg ⟨hc0, hs0⟩) hlo kk
          · have hNw := hK.2.2.2.1 _ (am_nestin _ (am_mkf_in hf) (Nat.le_of_ble_eq_true rfl))
            have hB := va_cnB (R := R) (own := am_cn own) (index := idx) (rm := { frames := d - 1, cells := h1.1 - h.1, slots := h1.2.1 - h.2.1, locals := 60 * (d - 1) }) nn hts hgood rfl rfl rfl hNw (hw _ (by simp [am_mw])) ⟨hne.1, hne.2, o1⟩ hR1
            refine am_after (a := #[]) (fun T hT X => ?_) hlo kk
            obtain ⟨v, st₀, t, T', L, z1, z2, z3, z4, -, z5, z6⟩ := va_runSN (g := F0 m pc lr (st.map (am_up (am_a w)))) ⟨hx, hb, rfl, hown, hts⟩ hM ⟨hB, hw _ (by simp [am_mw]), trivial⟩ hpre rfl hlenA (by rw [hml]) hstack hsum hdg ⟨hc0, hs0⟩ T hT X
            exact ⟨v, st₀, t, T', L, z1, z2, z3, z4, z5, z6⟩
        next => cases hh
      · cases hh
    · cases hh
  · cases hh
end AM9
set_option maxHeartbeats 4000000 in
/-- THE MAIN ROW -/
theorem am_all (l : Launch) (w : am_X) : ∀ n, am_Wn l w n := by
  intro n
  induction n with
  | zero => intro d mi pc ls st h r h' ha; cases ha
  | succ n ih =>
    intro d mi pc ls st h r h' ha e0 he p e R s m args below meth c H locs lr h0 hx hb hr hml hlocks hown hts hK hini hR hlo hlen hl h01 h02 hfr hlc hcl hsl
    have hmono := am_mono _ _ _ _ _ _ _ _ _ ha
    have hlr : c.maxLocals = lr.size := by rw [hml]; exact hl.1.symm
    unfold am at ha
    rw [he] at ha
    simp only at ha
    split at ha
    · cases ha
    · rename_i i len hdg
      split at ha
      · rename_i r' hrt
        split at ha
        next hl1 =>
          cases ha
          subst hl1
          exact am_rt_ok hx hb hr hlocks hR hlo hrt hdg
        next => cases ha
      · split at ha
        · rename_i k st' hps
          split at ha
          next hl1 =>
            subst hl1
            exact am_ps_ok hx hb hps hdg (ih _ _ _ _ _ _ _ _ ha e0 he p e R s m args below meth c H locs lr h0 hx hb hr hml hlocks hown hts hK hini hR hlo hlen hl h01 h02 hfr hlc hcl hsl)
          next => cases ha
        · split at ha
          · rename_i t st' hbr
            exact am_br_ok hx hb hbr hdg (ih _ _ _ _ _ _ _ _ ha e0 he p e R s m args below meth c H locs lr h0 hx hb hr hml hlocks hown hts hK hini hR hlo hlen hl h01 h02 hfr hlc hcl hsl)
          · split at ha
            · rename_i k ls' st' hlcs
              split at ha
              next hl1 =>
                subst hl1
                exact am_lc_ok hx hb hlcs hdg hlen hl (fun lr' hn' hl' => ih _ _ _ _ _ _ _ _ ha e0 he p e R s m args below meth c H locs lr' h0 hx hb hr hml hlocks hown hts hK hini hR hlo hn' hl' h01 h02 hfr hlc hcl hsl)
              next => cases ha
            · split at ha
              · rename_i k st' h1 hhp
                split at ha
                next hl1 =>
                  subst hl1
                  have m1 := am_hp_mono hhp
                  have m2 := am_mono _ _ _ _ _ _ _ _ _ ha
                  refine am_hp_ok hx hb hlr hown hts hK hR hlo hini hhp hdg hfr hlc (by omega) (by omega) (fun H' locs' g1 g2 g3 g4 => ?_)
                  refine W.cs (cells' := h1.1 - h0.1) (slots' := h1.2.1 - h0.2.1) (by omega) (by omega) ?_
                  exact ih _ _ _ _ _ _ _ _ ha e0 he p e R s m args below meth c H' locs' lr h0 hx hb hr hml hlocks hown hts hK hini g3 g4 hlen hl (by omega) (by omega) hfr hlc hcl hsl
                next => cases ha
              · split at ha
                · rename_i mj as rest hcls
                  split at ha
                  · cases ha
                  · rename_i e1 he1
                    split at ha
                    · rename_i r1 h1 ham
                      split at ha
                      next hl1 =>
                        subst hl1
                        have m1 := am_mono _ _ _ _ _ _ _ _ _ ham
                        have m2 := am_mono _ _ _ _ _ _ _ _ _ ha
                        refine am_cl_ok ih hx hb hlr hown hts hK hR hlo hcls he1 ham hdg hfr hlc (by omega) (by omega) (fun H' locs' g3 g4 => ?_)
                        refine W.cs (cells' := h1.1 - h0.1) (slots' := h1.2.1 - h0.2.1) (by omega) (by omega) ?_
                        exact ih _ _ _ _ _ _ _ _ ha e0 he p e R s m args below meth c H' locs' lr h0 hx hb hr hml hlocks hown hts hK hini g3 g4 hlen hl (by omega) (by omega) hfr hlc hcl hsl
                      next => cases ha
                    · cases ha
                · cases ha

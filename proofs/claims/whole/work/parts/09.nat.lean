/-! constants, statics, the JDK's own members over the machine -/
theorem am_good_gw : GoodIn am_gw am_gw := fun w hw => ⟨hw, good_of_word (List.mem_filter.mp hw).2⟩
theorem am_good_cons {q : Cond} (hq : q ∈ am_gw) : GoodIn am_gw (q :: am_gw) := fun w hw => by
  rcases List.mem_cons.mp hw with rfl | h
  · exact am_good_gw _ hq
  · exact am_good_gw _ h
section AM5
variable {p : Program} {l : Launch} {e : Env} {R : Room} {s : State} {m : MethodId} {args : Array Value} {below : List Frame} {meth : Method} {c : Code} {H : Heap} {locs : List Loc} {cells slots : Nat} {Q : State → Prop}
variable {cc : ByteArray} {pc : Nat} {lr : Array Slot} {w : am_X} {h : am_H} {own : Nat}
theorem am_gets (hx : p.tables.exec = Jvm.exec) (hb : c.code = cc) {o C n d : String} {idx b : Nat} {G : Heap} {v : Value} (hown : s.vm.findClass o = some m.cls) (hZ : va_Z C n d v (fun q => b ≤ q) s G) (hG : ∀ q, q < b → H[q]? = G[q]?) (hl : (Cond.fieldLink o idx C n d).before args s = true) {st : List Value} (hdg : decode cc pc = .ok (.getstatic idx, 3))
    (kk : W p l e R s m args below meth c H locs cells slots Q (F0 m (pc + 3) lr (v :: st))) : W p l e R s m args below meth c H locs cells slots Q (F0 m pc lr st) := by
  obtain ⟨cf, kf, fi, f, a, cell, h1, h2, h3, h4, h5, h6, h7, h8⟩ := hZ
  exact W.gets hx hb hown hl h1 h2 h3 h4 (by rw [hG a (Nat.not_le.mp h8)]; exact h5) (fun z => by rw [z] at h6; cases h6) h7 rfl hdg kk
theorem am_kcf_in {own idx : Nat} {v : Value} (hf : am_kcf own idx = some v) : (own, idx, v) ∈ am_kc := by
  unfold am_kcf at hf
  obtain ⟨e, h1, h2⟩ := am_map1 hf
  have h3 := List.find?_some h1
  simp only [Bool.and_eq_true, beq_iff_eq] at h3
  have h4 := List.mem_of_find?_eq_some h1
  obtain ⟨e1, e2, e3⟩ := e
  obtain ⟨rfl, rfl⟩ := h3
  cases h2
  exact h4
theorem am_mkf_in {own idx k mj n : Nat} (hf : am_mkf own idx = some (k, mj, n)) : (own, idx, k, mj, n) ∈ am_mk := by
  unfold am_mkf at hf
  obtain ⟨e, h1, h2⟩ := am_map1 hf
  have h3 := List.find?_some h1
  simp only [Bool.and_eq_true, beq_iff_eq] at h3
  have h4 := List.mem_of_find?_eq_some h1
  obtain ⟨e1, e2, e3⟩ := e
  obtain ⟨rfl, rfl⟩ := h3
  cases h2
  exact h4
theorem am_mw_at (hts : ∀ q ∈ am_gw, q.before args s = true) {own idx k mj n : Nat} (hf : am_mkf own idx = some (k, mj, n)) : ∀ q ∈ am_mw (own, idx, k, mj, n), q.before args s = true :=
  fun q hq => hts _ (am_mw_in q (List.mem_flatMap.mpr ⟨_, am_mkf_in hf, hq⟩))
theorem am_sum_up (ad : Nat → Nat) (r : List Value) : ((r.map (am_up ad)).map fun v => v.category).sum = (r.map fun v => v.category).sum := by
  rw [List.map_map]
  congr 1
  exact List.map_congr_left fun v _ => am_up_cat ad v
end AM5
theorem am_dp0 : decode prog_21_method_11_code 0 = .ok (.iload_n 0, 1) := by decide +kernel
theorem am_dp1 : decode prog_21_method_11_code 1 = .ok (.ifCond .lt 8, 3) := by decide +kernel
theorem am_dp4 : decode prog_21_method_11_code 4 = .ok (.iload_n 0, 1) := by decide +kernel
theorem am_dp5 : decode prog_21_method_11_code 5 = .ok (.iload_n 1, 1) := by decide +kernel
theorem am_dp6 : decode prog_21_method_11_code 6 = .ok (.if_icmp .lt 10, 3) := by decide +kernel
theorem am_dp16 : decode prog_21_method_11_code 16 = .ok (.iload_n 0, 1) := by decide +kernel
theorem am_dp17 : decode prog_21_method_11_code 17 = .ok (.ireturn, 1) := by decide +kernel
theorem am_ds0 : decode prog_17_method_155_code 0 = .ok (.iload_n 0, 1) := by decide +kernel
theorem am_ds1 : decode prog_17_method_155_code 1 = .ok (.iload_n 1, 1) := by decide +kernel
theorem am_ds2 : decode prog_17_method_155_code 2 = .ok (.getstatic 1053, 3) := by decide +kernel
theorem am_ds5 : decode prog_17_method_155_code 5 = .ok (.invokestatic 1059, 3) := by decide +kernel
theorem am_ds8 : decode prog_17_method_155_code 8 = .ok (.pop, 1) := by decide +kernel
theorem am_ds9 : decode prog_17_method_155_code 9 = .ok (.return_, 1) := by decide +kernel
theorem am_met_pci (l : Launch) (i n : Int32) (f : Value) (h1 : f.category = 1) (h0 : ¬ i < 0) (hn : i < n) : Met l am_pci (.code am_pci prog_21_method_11_code 3 (some .int) :: am_gw) ({ frames := 0, cells := 0, slots := 0, locals := 0 }) (va_Pc [.int i, .int n, f] (fun _ => True)) (fun _ st o t => o = .returned (some (.int i)) ∧ t.heap = st.heap) 0 0 (fun _ => False) := by
  refine Met.ofW (cc := prog_21_method_11_code) (maxL := 3) (ret := some .int) (by decide) rfl ?_
  intro p e s m args below meth c s₁ B hml hv
  obtain ⟨rfl, -⟩ := hv
  have hx := B.exec
  have hb := B.bytes
  have hr := B.returns
  have hlocks := B.notSynchronized
  have hsl : (lg_sl [.int i, .int n, f]).length ≤ 3 := by cases f <;> first | exact Nat.le_of_ble_eq_true rfl | cases h1
  have hl := lv_entry ([.int i, .int n, f]) (n := 3) hsl
  rw [lg_entry_eq]
  generalize (lg_sl ([.int i, .int n, f]) ++ List.replicate (3 - (lg_sl ([.int i, .int n, f])).length) Slot.unset).toArray = ls at hl ⊢
  have hl : lv_has ls 3 [(0, .int i), (1, .int n), (2, f)] := hl
  refine lv_iload_n hx hb am_dp0 rfl (lv_at hl 0 rfl) ?_
  refine lv_if_lt (tgt := 9) hx hb am_dp1 (by decide) (fun q => absurd q h0) (fun _ => ?_)
  refine lv_iload_n hx hb am_dp4 rfl (lv_at hl 0 rfl) ?_
  refine lv_iload_n hx hb am_dp5 rfl (lv_at hl 1 rfl) ?_
  refine lv_icmp_lt (tgt := 16) hx hb am_dp6 (by decide) (fun _ => ?_) (fun q => absurd hn q)
  refine lv_iload_n hx hb am_dp16 rfl (lv_at hl 0 rfl) ?_
  exact W.iret hx hb hr (fun t ht _ => ⟨rfl, ht⟩) (fun q hq => absurd hq List.not_mem_nil) am_dp17
theorem am_met_cki (l : Launch) (w : am_X) (i n : Int32) (h0 : ¬ i < 0) (hn : i < n) : Met l am_ckn (.code am_ckn prog_17_method_155_code 2 none :: am_gw) ({ frames := 1, cells := 0, slots := 0, locals := 60 }) (va_Pc [.int i, .int n] (fun U => am_K w U ∧ ∀ q, q < am_b w → U.heap[q]? = (am_G w)[q]?)) (fun _ st o t => o = .returned none ∧ t.heap = st.heap) 0 0 (fun _ => False) := by
  refine Met.ofW (cc := prog_17_method_155_code) (maxL := 2) (ret := none) (by decide) rfl ?_
  intro p e s m args below meth c s₁ B hml hv
  obtain ⟨rfl, hK, hG⟩ := hv
  have hx := B.exec
  have hb := B.bytes
  have hr := B.returns
  have hlocks := B.notSynchronized
  have hts := atoms_spec (ws := .code am_ckn prog_17_method_155_code 2 none :: am_gw) B.pre
  have hts : ∀ q ∈ am_gw, q.before _ s = true := fun q hq => hts q (List.mem_cons_of_mem _ hq)
  have hown : s.vm.findClass "java/lang/String" = some m.cls := findClass_of_methodNamed B.named
  have hxw : ∀ q ∈ am_xw, q ∈ am_gw := am_xw_in
  have hl := lv_entry ([.int i, .int n]) (n := 2) (Nat.le_of_ble_eq_true rfl)
  rw [lg_entry_eq]
  generalize (lg_sl ([.int i, .int n]) ++ List.replicate (2 - (lg_sl ([.int i, .int n])).length) Slot.unset).toArray = ls at hl ⊢
  have hl : lv_has ls 2 [(0, .int i), (1, .int n)] := hl
  refine lv_iload_n hx hb am_ds0 rfl (lv_at hl 0 rfl) ?_
  refine lv_iload_n hx hb am_ds1 rfl (lv_at hl 1 rfl) ?_
  have key : ∀ f : Value, f.category = 1 → W p l e { frames := 1, cells := 0, slots := 0, locals := 60 } s m #[.int i, .int n] below meth c s.heap [] 0 0 (MQ below (fun _ st o t => o = .returned none ∧ t.heap = st.heap) #[.int i, .int n] s 0 0 (fun _ => False)) (F0 m 5 ls [f, .int n, .int i]) := by
    intro f hf
    intro T hT X
    obtain ⟨v, st₀, t, T', L, g0, X', hL, g1, ⟨hv, hh⟩, st⟩ := W.runS (R := { frames := 1, cells := 0, slots := 0, locals := 60 }) (As := [.int i, .int n, f]) (rest := []) (Ts := am_gw) (g := F0 m 5 ls [f, .int n, .int i]) ⟨hx, hb, hml, hown, hts⟩ (am_met_pci l i n f hf h0 hn)
      ⟨callB_of 3 hts (am_good_cons (hxw _ List.mem_cons_self)) rfl rfl rfl (hts _ (hxw _ (by simp [am_xw, am_pci]))) (hts _ (hxw _ (by simp [am_xw]))) (by decide +kernel) ⟨Nat.le_of_ble_eq_true rfl, Nat.le_of_ble_eq_true rfl⟩, hts _ (hxw _ (by simp [am_xw]))⟩
      ⟨fun _ _ _ _ q => q, fun U hU hW => ⟨rfl, trivial⟩⟩ rfl rfl hl.1 rfl (lv_room (Nat.le_of_ble_eq_true rfl)) am_ds5 ⟨Nat.le_refl 0, Nat.le_refl 0⟩ T hT X
    cases hv
    have hT' : T'.heap = s.heap := by rw [g1, hh, g0]
    have X2 := Stand.forget X' (fun q hq => (hL q hq).elim)
    have fin : W p l e { frames := 1, cells := 0, slots := 0, locals := 60 } s m #[.int i, .int n] below meth c s.heap [] 0 0 (MQ below (fun _ st o t => o = .returned none ∧ t.heap = st.heap) #[.int i, .int n] s 0 0 (fun _ => False)) (F0 m 8 ls [.int i]) := by
      refine lv_pop hx hb am_ds8 rfl ?_
      exact W.vret hx hb hr (fun t ht _ => ⟨rfl, ht⟩) (fun q hq => absurd hq List.not_mem_nil) am_ds9
    obtain ⟨t2, a1, b1⟩ := fin T' hT' X2
    exact ⟨t2, st t2 a1, b1⟩
  have hfl := hts _ (hxw (.fieldLink "java/lang/String" 1053 "jdk/internal/util/Preconditions" "SIOOBE_FORMATTER" "Ljava/util/function/BiFunction;") (by simp [am_xw]))
  rcases hK.2.2.2.2.2.2.1 with hz | ⟨t, hz⟩
  · exact am_gets hx hb hown hz hG hfl am_ds2 (key .null rfl)
  · exact am_gets hx hb hown hz hG hfl am_ds2 (key (.ref t) rfl)

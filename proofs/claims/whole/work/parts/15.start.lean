/-! THE START: am's heap at the law's entry, and the claim out of am's run alone -/
def am_txb : List Int32 := [105, 102, 32, 32, 32, 32, 116, 114, 121, 32, 32, 32, 115, 117, 109, 32, 32, 32, 108, 101, 97, 115, 116, 32, 109, 111, 115, 116, 32, 32, 99, 111, 117, 110, 116, 32, 97, 116, 32, 32, 32, 32, 108, 105, 110, 101, 32, 32, 97, 114, 101, 97, 32, 32, 114, 111, 111, 116, 32, 32, 99, 117, 116, 32, 32, 32, 114, 101, 97, 108, 32, 32]
def am_wdl : List Int64 := [26982, 7631481, 7566701, 465557353332, 1836020596, 427071729268, 24948, 1818848869, 1634887009, 1919905652, 6518132, 1919246700]
def am_h0 (L : Nat) (xs : Nat → Int32) : am_H := (4, 0, (fun k => match k with | 0 => (110, L) | 1 => (111, 12) | 2 => (14, 0) | _ => (113, 72)), (fun a j => match a with | 0 => xs j | 2 => 0 | _ => am_txb.getD j 0), (fun _ j => am_wdl.getD j 0), (fun _ _ => 0), (fun _ _ => some 3))
def am_sI (s : State) (c k : Nat) : Nat := match s.fieldFound? (am_T c k).1 (am_T c k).2.1 (am_T c k).2.2.1 with
  | some q => q.2.2.2.slot
  | none => 0
theorem am_sI_is {s : State} {c k i : Nat} (h : SlotIs s (am_T c k).1 (am_T c k).2.1 (am_T c k).2.2.1 i) : SlotIs s (am_T c k).1 (am_T c k).2.1 (am_T c k).2.2.1 (am_sI s c k) := by
  obtain ⟨cf, kf, fi, fd, h1, h2⟩ := h
  exact ⟨cf, kf, fi, fd, h1, by unfold am_sI; rw [h1]⟩
def am_w0 (s : State) (b t1 t2 t3 : Nat) (c0 c1 c3 : ClassId) : am_X := (s.heap.size, (fun k => if k = 0 then b else if k = 1 then t1 else if k = 2 then t2 else t3), (fun c => (s.vm.findClass (am_cn c)).getD 0), am_sI s, (fun kd => if kd = 110 then c0 else if kd = 111 then c1 else if kd = 113 then c3 else (s.vm.findClass ("[" ++ (am_aT kd).toString)).getD 0), s.heap)
def am_sw2 : List Cond := [.laysStatic "LoadBook$Parser" "WORDS" "[J", .laysStatic "java/lang/String" "COMPACT_STRINGS" "Z", .laysStatic "jdk/internal/util/Preconditions" "SIOOBE_FORMATTER" "Ljava/util/function/BiFunction;", .initialized "LoadBook$Parser", .initialized "java/lang/String", .initialized "jdk/internal/util/Preconditions", .stringRef "LoadBookModel" 242 am_tx, .arrayOver (.object (am_cn 0)), .arrayOver (.object (am_cn 1)), .arrayOver (.object (am_cn 2)), .arrayOver (.object (am_cn 9))]
theorem am_in2 {ws : List Cond} {ps : List (Nat × Nat)} (h : ps.map (fun q => (am_tb q.1)[q.2]?) = ws.map some) : ∀ w ∈ ws, w ∈ lw_tbl := by
  intro w hw
  have h1 : some w ∈ ps.map (fun q => (am_tb q.1)[q.2]?) := by rw [h]; exact List.mem_map.mpr ⟨w, hw, rfl⟩
  obtain ⟨q, -, hq⟩ := List.mem_map.mp h1
  exact am_tb_in q.1 (List.mem_of_getElem? hq)
set_option maxRecDepth 100000 in
theorem am_sw2_in : ∀ w ∈ am_sw2, w ∈ lw_tbl := am_in2 (ps := [(3, 230), (7, 90), (7, 98), (1, 8), (1, 16), (1, 18), (7, 80), (1, 58), (1, 60), (1, 85), (1, 225)]) (by rfl)
set_option maxRecDepth 100000 in
theorem am_nw_in : ∀ w ∈ am_nw, w ∈ lw_tbl := am_in2 (ps := [(1, 63), (1, 87), (1, 141), (1, 234), (2, 152), (2, 206), (3, 213), (5, 2), (5, 97)]) (by rfl)
def am_stx : Term := .string "LoadBookModel" 242
def am_stw : Term := .static "LoadBook$Parser" "WORDS" "[J"
set_option maxRecDepth 100000 in
theorem am_nar1 : ∀ j, j < 12 → Cond.eq (.elem am_stw (.int (Int32.ofNat j))) (.long (am_wdl.getD j 0)) ∈ flatC (Jvm.Cond.and given_1 narrow_1) := by decide +kernel
set_option maxRecDepth 100000 in
theorem am_nar2 : ∀ j, j < 72 → Cond.eq (.elem (.field am_stx "java/lang/String" "value" "[B") (.int (Int32.ofNat j))) (.int (am_txb.getD j 0)) ∈ flatC (Jvm.Cond.and given_1 narrow_1) := by decide +kernel


set_option maxHeartbeats 4000000 in
set_option maxRecDepth 100000 in
theorem am_begin {p : Program} {s : State} {m : MethodId} {meth : Method} {c : Code} {b L : Nat} {xs : Nat → Int32} (hL : L ≤ 2560) (C0 : lw_At p s m meth c b L xs) : ∃ w : am_X, am_b w = s.heap.size ∧ am_a w 0 = b ∧ am_K w s ∧ am_Rp w (am_h0 L xs) s.heap := by
  obtain ⟨hx, hb, hr, hml, hown, hts, hX, hbl, hlocks, hgv⟩ := C0
  have hgw : ∀ q ∈ am_gw, q.before #[Value.ref b] s = true := fun q hq => hts q (List.mem_filter.mp hq).1
  have hna := flat_of_before _ hgv
  have hA : ∀ a : Nat, a < s.heap.size → ¬ (fun q : Nat => s.heap.size ≤ q) a := fun a ha q => absurd ha (Nat.not_lt.mpr q)
  obtain ⟨scr, hs1, hs2, hs3, hs4, hs5⟩ := hX
  have hsw : ∀ q ∈ am_sw2, q.before #[Value.ref b] s = true := fun q hq => hts q (am_sw2_in q hq)
  -- the words
  obtain ⟨t1, ht1, hT1⟩ := va_Tof (tm := am_stw) (ty := .long) (N := 12) (f := fun j => .long (am_wdl.getD j 0)) (A := fun q : Nat => s.heap.size ≤ q) (by decide) (hna _ (by decide +kernel)) (va_eqt (hna (Cond.eq (.length am_stw) (.int (Int32.ofNat 12))) (by decide +kernel))) (fun j hj => va_eqtl (hna _ (am_nar1 j hj))) hA
  -- the text
  have hel : ∀ i : Nat, i < 1 → ∀ j : Nat, j < ([72] : List Nat).getD i 0 → (Cond.eq (.elem (.field am_stx "java/lang/String" "value" "[B") (.int (Int32.ofNat j))) (.int ((([am_txb] : List (List Int32)).getD i []).getD j 0))).before #[Value.ref b] s = true := by
    intro i hi j hj
    have e0 : i = 0 := by omega
    subst e0
    exact hna _ (am_nar2 j hj)
  obtain ⟨adK, adV, ⟨hS, -⟩, hev⟩ := vk_Sof (args := #[Value.ref b]) (s := s) (N := 1) (tm := fun _ => am_stx) (len := [72]) (byt := [am_txb]) (A := fun q : Nat => s.heap.size ≤ q)
    (fun i hi => by rw [show i = 0 by omega]; decide) (fun i hi => hna _ (by decide +kernel)) (fun i hi => hna _ (by decide +kernel)) (fun i hi => hna _ (by decide +kernel))
    (fun i hi => by rw [show i = 0 by omega]; exact hna _ (by decide +kernel)) hel (fun i j hi hj hij => by omega) hA
  obtain ⟨hO, hC, hV, hT3⟩ := hS 0 (by decide)
  have hev := hev 0 (by decide)
  generalize adK 0 = t2 at hO hC hV hev
  generalize adV 0 = t3 at hV hT3
  obtain ⟨cell1, a1, a2, a3, a4, a5, a6, a7⟩ := hT1
  obtain ⟨cell3, b1, b2, b3, b4, b5, b6, b7⟩ := hT3
  obtain ⟨cell2, o1, o2, o3, o4⟩ := hO
  obtain ⟨cf1, kf1, fi1, f1, cv, g11, g12, g13, g14, g15, g16⟩ := hV
  obtain ⟨cf2, kf2, fi2, f2, cc, g21, g22, g23, g24, g25, g26⟩ := hC
  obtain rfl := Option.some.inj (o1.symm.trans g13)
  obtain rfl := Option.some.inj (o1.symm.trans g23)
  have hI0 : am_sI s 14 0 = f1.slot := by unfold am_sI; rw [show s.fieldFound? (am_T 14 0).1 (am_T 14 0).2.1 (am_T 14 0).2.2.1 = _ from g11]
  have hI1 : am_sI s 14 1 = f2.slot := by unfold am_sI; rw [show s.fieldFound? (am_T 14 1).1 (am_T 14 1).2.1 (am_T 14 1).2.2.1 = _ from g21]
  have hcls : (s.vm.findClass (am_cn 14)).getD 0 = cell2.cls := by rw [show s.vm.findClass (am_cn 14) = _ from o3]; rfl
  refine ⟨am_w0 s b t1 t2 t3 scr.cls cell1.cls cell3.cls, rfl, rfl, ⟨fun ci hc => ?_, ⟨fun k hk => ?_, ?_⟩, fun kd hk => ?_, fun q hq => ?_, ?_, ?_, ?_, ?_⟩, ⟨Nat.le_refl 4, rfl, fun q _ => rfl, fun k hk => ?_, fun k hk => ?_⟩⟩
  · -- classes
    obtain ⟨cC, iS, hKn, hfc, hkC⟩ := u_known (C := am_cn ci) (T := am_T ci) (N := am_nF ci) (n := am_nF ci) hgw (am_iw_at (s := s) hgw hc) (hgw _ (am_iw_in _ (List.mem_flatMap.mpr ⟨ci, hc, List.mem_cons_self⟩)))
    refine ⟨fun k hk => am_sI_is (hKn k hk), ?_⟩
    have e : am_dC (am_w0 s b t1 t2 t3 scr.cls cell1.cls cell3.cls) ci = cC := by show (s.vm.findClass (am_cn ci)).getD 0 = cC; rw [hfc]; rfl
    rw [e]
    exact ⟨hfc, hkC⟩
  · rcases (show k = 0 ∨ k = 1 by have : k < 2 := hk; omega) with rfl | rfl
    · exact ⟨cf1, kf1, fi1, f1, g11, g12, hI0.symm⟩
    · exact ⟨cf2, kf2, fi2, f2, g21, g22, hI1.symm⟩
  · show s.vm.findClass (am_cn 14) = some ((s.vm.findClass (am_cn 14)).getD 0)
    rw [hcls]; exact o3
  · -- arrays
    have prim : ∀ kd, Cond.arrayClass (am_aT kd) ∈ am_aw → kd ≠ 110 → kd ≠ 111 → kd ≠ 113 → kd < 200 → am_KA (am_w0 s b t1 t2 t3 scr.cls cell1.cls cell3.cls) s kd := by
      intro kd hw n1 n2 n3 n4
      obtain ⟨cA, kA, comp, z1, z2, z3⟩ := Cond.arrayClass_spec (hgw _ (am_aw_in _ hw))
      have e : am_aC (am_w0 s b t1 t2 t3 scr.cls cell1.cls cell3.cls) kd = cA := by
        show (if kd = 110 then _ else if kd = 111 then _ else if kd = 113 then _ else (s.vm.findClass ("[" ++ (am_aT kd).toString)).getD 0) = cA
        rw [if_neg n1, if_neg n2, if_neg n3, z1]; rfl
      exact ⟨kA, comp, by rw [e]; exact z2, z3, fun _ => by rw [e]; exact z1, fun q => by omega⟩
    have obj : ∀ kd, Cond.arrayOver (.object (am_cn (kd - 200))) ∈ am_sw2 → kd ≠ 110 → kd ≠ 111 → kd ≠ 113 → am_aT kd = .object (am_cn (kd - 200)) → am_KA (am_w0 s b t1 t2 t3 scr.cls cell1.cls cell3.cls) s kd := by
      intro kd hw n1 n2 n3 n4
      have hw' := hsw _ hw
      obtain ⟨comp, cA, kA, z1, -, z2, z3, z4⟩ := Cond.arrayOver_spec hw'
      have e : am_aC (am_w0 s b t1 t2 t3 scr.cls cell1.cls cell3.cls) kd = cA := by
        show (if kd = 110 then _ else if kd = 111 then _ else if kd = 113 then _ else (s.vm.findClass ("[" ++ (am_aT kd).toString)).getD 0) = cA
        rw [if_neg n1, if_neg n2, if_neg n3, n4, z4]; rfl
      exact ⟨kA, comp, by rw [e]; exact z2, by rw [n4]; exact z3, fun _ => by rw [e, n4]; exact z4, fun q => ⟨z1, va_AO.of hw'⟩⟩
    unfold am_kds at hk
    simp only [List.mem_cons, List.not_mem_nil, or_false] at hk
    rcases hk with rfl | rfl | rfl | rfl | rfl | rfl | rfl | rfl | rfl | rfl | rfl | rfl
    · exact prim 100 (by decide +kernel) (by decide) (by decide) (by decide) (by decide)
    · exact prim 101 (by decide +kernel) (by decide) (by decide) (by decide) (by decide)
    · exact prim 102 (by decide +kernel) (by decide) (by decide) (by decide) (by decide)
    · exact prim 103 (by decide +kernel) (by decide) (by decide) (by decide) (by decide)
    · exact prim 104 (by decide +kernel) (by decide) (by decide) (by decide) (by decide)
    · obtain ⟨-, kA, z1, comp, z2⟩ := hs2
      exact ⟨kA, comp, z1, z2, fun q => by omega, fun q => by omega⟩
    · obtain ⟨-, kA, z1, comp, z2⟩ := a2
      exact ⟨kA, comp, z1, z2, fun q => by omega, fun q => by omega⟩
    · obtain ⟨-, kA, z1, comp, z2⟩ := b2
      exact ⟨kA, comp, z1, z2, fun q => by omega, fun q => by omega⟩
    · exact obj 200 (by decide +kernel) (by decide) (by decide) (by decide) rfl
    · exact obj 201 (by decide +kernel) (by decide) (by decide) (by decide) rfl
    · exact obj 202 (by decide +kernel) (by decide) (by decide) (by decide) rfl
    · exact obj 209 (by decide +kernel) (by decide) (by decide) (by decide) rfl
  · obtain ⟨a', i', x', b', rfl⟩ := am_nw_nest q hq
    exact va_Nw.of rfl (hts _ (am_nw_in _ hq))
  · exact va_Zof (hsw _ (by decide +kernel)) (hsw _ (by decide +kernel)) ht1 hA
  · exact va_Zof (hsw _ (by decide +kernel)) (hsw _ (by decide +kernel)) (va_eqi (hna _ (by decide +kernel))) hA
  · exact va_Zqof (hsw _ (by decide +kernel)) (hsw _ (by decide +kernel)) (hna _ (by decide +kernel)) hA
  · exact vk_R.of (hsw _ (by decide +kernel)) hev
  · rcases (show k = 0 ∨ k = 1 ∨ k = 2 ∨ k = 3 by omega) with rfl | rfl | rfl | rfl
    · exact hbl
    · exact (Array.getElem?_eq_some_iff.mp a1).1
    · exact (Array.getElem?_eq_some_iff.mp o1).1
    · exact (Array.getElem?_eq_some_iff.mp b1).1
  · have hk : k < 4 := hk
    rcases (show k = 0 ∨ k = 1 ∨ k = 2 ∨ k = 3 by omega) with rfl | rfl | rfl | rfl
    · refine ⟨scr, hs1, hs3, ?_, fun q => by omega, fun q => absurd (show (110 : Nat) < 100 from q) (by decide), fun _ => ⟨rfl, show (110 : Nat) ∈ am_kds by decide, show L < 2 ^ 31 by omega, show L ≤ scr.slots.size by omega, ?_, fun j hj => hs5 j hj, fun j hj => rfl, fun q => by omega⟩⟩
      · cases hv : scr.vm <;> first | rfl | exact absurd hv (hs2.1 _)
      · show scr.slots.size.toInt32 = Int32.ofNat L
        rw [hs4]
    · refine ⟨cell1, a1, a3, ?_, fun q => by omega, fun q => absurd (show (111 : Nat) < 100 from q) (by decide), fun _ => ⟨rfl, show (111 : Nat) ∈ am_kds by decide, show (12 : Nat) < 2 ^ 31 by decide, a4, a5, fun j hj => a6 j hj, fun j hj => rfl, fun q => by omega⟩⟩
      · cases hv : cell1.vm <;> first | rfl | exact absurd hv (a2.1 _)
    · refine ⟨cell2, o1, g14, o2, fun q => by omega, fun _ => ⟨hcls.symm, Or.inr ⟨rfl, by decide⟩, fun j hj => ?_⟩, fun q => absurd (show (100 : Nat) ≤ 14 from q) (by decide)⟩
      rcases (show j = 0 ∨ j = 1 by have : j < 2 := hj; omega) with rfl | rfl
      · show cell2.slots[am_sI s 14 0]? = _
        rw [hI0]; exact g15
      · show cell2.slots[am_sI s 14 1]? = _
        rw [hI1]; exact g25
    · refine ⟨cell3, b1, b3, ?_, fun q => by omega, fun q => absurd (show (113 : Nat) < 100 from q) (by decide), fun _ => ⟨rfl, show (113 : Nat) ∈ am_kds by decide, show (72 : Nat) < 2 ^ 31 by decide, b4, b5, fun j hj => b6 j hj, fun j hj => ?_, fun q => by omega⟩⟩
      · cases hv : cell3.vm <;> first | rfl | exact absurd hv (b2.1 _)
      · have : ∀ j, j < 72 → fits .byte (.int (am_txb.getD j 0)) = true := by decide +kernel
        exact this j hj
/-- what is left: am's own run of the law -/
def am_true (d : Nat) : Prop := ∀ (L : Nat) (xs : Nat → Int32), L ≤ 2560 → ∃ n h', am n d 284 0 (am_en 4 [.ref 0]) [] (am_h0 L xs) = some (some (.int 1), h') ∧ h'.1 - 4 ≤ 600000 ∧ h'.2.1 ≤ 7302250
set_option maxHeartbeats 4000000 in
set_option maxRecDepth 100000 in
theorem am_whole {d : Nat} (hd : d ≤ 1400) (ht : am_true d) {p : Program} {e : Env} {s : State} {m : MethodId} {below : List Frame} {meth : Method} {c : Code} (l : Launch) {b L : Nat} {xs : Nat → Int32} (hL : L ≤ 2560) (C0 : lw_At p s m meth c b L xs) : W p l e room_1 s m #[Value.ref b] below meth c s.heap [] 0 0 (lw_Z below #[Value.ref b] s) (entryFrame m ([Value.ref b] : List Value).toArray 4) := by
  obtain ⟨w, hb0, ha0, hK, hR⟩ := am_begin hL C0
  obtain ⟨hx, hb, hr, hml, hown, hts, hX, hbl, hlocks, hgv⟩ := C0
  have hgw : ∀ q ∈ am_gw, q.before #[Value.ref b] s = true := fun q hq => hts q (List.mem_filter.mp hq).1
  obtain ⟨n, h', ha, hc, hs⟩ := ht L xs hL
  obtain ⟨hlen, hl⟩ := am_entry (am_a w) (n := 4) (as := [.ref 0]) (by decide)
  have hup : ([Value.ref 0] : List Value).map (am_up (am_a w)) = [.ref b] := by show [Value.ref (am_a w 0)] = _; rw [ha0]
  rw [hup] at hl
  have key := am_all l w n d 284 0 _ [] (am_h0 L xs) (some (.int 1)) h' ha (13, "law", "([I)Z", code, 4, some .boolean) rfl p e room_1 s m #[Value.ref b] below meth c s.heap [] _ (am_h0 L xs) hx hb hr hml hlocks hown hgw hK (fun q => absurd q (by decide)) hR (fun q hq => absurd hq List.not_mem_nil) hlen hl (Nat.le_refl _) (Nat.le_refl _) (Nat.le_trans hd (by decide)) (Nat.le_trans (Nat.mul_le_mul (Nat.le_refl 60) hd) (by decide)) (by show h'.1 - 4 ≤ _; exact hc) (by show h'.2.1 - 0 ≤ _; exact hs)
  rw [Nat.sub_self, Nat.sub_self] at key
  rw [lg_entry_eq]
  intro T hT X
  obtain ⟨t, k1, o, k2, k3, ⟨rfl, k5⟩, L', ⟨k6, k7, k8⟩, k9⟩ := key T hT X
  refine ⟨t, k1, _, k2, k3, rfl, ?_⟩
  refine lw_closed (d0 := s.drawn) (Drawn.sameBut.refl s.drawn lw_cs) ⟨_, rfl⟩ k7 ?_
  exact k8.weaken (fun y hy hlt => absurd hlt (Nat.not_lt.mpr (by have := k9 y hy; omega))) hc (by show h'.2.1 - 0 ≤ _; exact hs)

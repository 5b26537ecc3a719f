/-! HEAP: what the machine's heap holds of am's, and what the tables say all along -/
def am_ad (base : Nat) (fx : Nat → Nat) (k : Nat) : Nat := if k < 4 then fx k else base + (k - 4)
/-- what isn't of a heap: where the law began, the four given cells, the classes' numbers and slots, the heap of the beginning -/
abbrev am_X : Type := Nat × (Nat → Nat) × (Nat → ClassId) × (Nat → Nat → Nat) × (Nat → ClassId) × Heap
abbrev am_b (w : am_X) : Nat := w.1
abbrev am_a (w : am_X) : Nat → Nat := am_ad w.1 w.2.1
abbrev am_dC (w : am_X) : Nat → ClassId := w.2.2.1
abbrev am_dI (w : am_X) : Nat → Nat → Nat := w.2.2.2.1
abbrev am_aC (w : am_X) : Nat → ClassId := w.2.2.2.2.1
abbrev am_G (w : am_X) : Heap := w.2.2.2.2.2
def am_KA (w : am_X) (U : State) (kd : Nat) : Prop := ∃ (kA : Class) (comp : ClassId), U.vm.classes[am_aC w kd]? = some kA ∧ kA.kind = .array comp (am_aT kd) ∧ (kd < 110 ∨ 200 ≤ kd → U.vm.findClass ("[" ++ (am_aT kd).toString) = some (am_aC w kd)) ∧ (200 ≤ kd → U.vm.findClass (am_cn (kd - 200)) = some comp ∧ va_AO (am_cn (kd - 200)) U)
def am_tx : String := "if    try   sum   least most  count at    line  area  root  cut   real  "
def am_K (w : am_X) (U : State) : Prop :=
  (∀ c ∈ am_ins, u_Kn U (am_cn c) (am_T c) (am_nF c) (am_dC w c) (am_dI w c)) ∧
  ((∀ k, k < am_nF 14 → ∃ (cf : ClassId) (kf : Class) (fi : Nat) (f : Field), U.fieldFound? (am_T 14 k).1 (am_T 14 k).2.1 (am_T 14 k).2.2.1 = some (cf, kf, fi, f) ∧ f.isStatic = false ∧ f.slot = am_dI w 14 k) ∧ U.vm.findClass (am_cn 14) = some (am_dC w 14)) ∧
  (∀ kd ∈ am_kds, am_KA w U kd) ∧ (∀ q ∈ am_nw, va_Nw q U) ∧
  va_Z "LoadBook$Parser" "WORDS" "[J" (.ref (am_a w 1)) (fun q => am_b w ≤ q) U (am_G w) ∧ va_Z "java/lang/String" "COMPACT_STRINGS" "Z" (.int 1) (fun q => am_b w ≤ q) U (am_G w) ∧
  va_Zq "jdk/internal/util/Preconditions" "SIOOBE_FORMATTER" "Ljava/util/function/BiFunction;" (fun q => am_b w ≤ q) U (am_G w) ∧ vk_R "LoadBookModel" 242 am_tx (am_a w 2) U
theorem am_KA.moved {w : am_X} {u U : State} (hv : u.vm.Alike U.vm) {kd : Nat} (h : am_KA w u kd) : am_KA w U kd := by
  obtain ⟨kA, comp, h1, h2, h3, h4⟩ := h
  obtain ⟨k', hk', he⟩ := hv.2.2 _ _ h1
  exact ⟨k', comp, hk', by rw [he]; exact h2, fun q => by rw [hv.findClass]; exact h3 q, fun q => ⟨by rw [hv.findClass]; exact (h4 q).1, va_AO.moved hv (h4 q).2⟩⟩
theorem am_nw_nest : ∀ q ∈ am_nw, ∃ a i x b, q = .methodLinkNest a i x b := by
  intro q hq
  unfold am_nw at hq
  simp only [List.mem_cons, List.not_mem_nil, or_false] at hq
  rcases hq with h | h | h | h | h | h | h | h | h <;> exact ⟨_, _, _, _, h⟩
theorem am_K.warm {w : am_X} {s U : State} (hW : s.WarmedH U.vm) (h : am_K w s) : am_K w U := by
  obtain ⟨h1, ⟨h2, h2'⟩, h3, h4, h5, h6, h7, h8⟩ := h
  have hv := hW.alike
  refine ⟨fun c hc => u_Kn_moved hv (h1 c hc), ⟨fun k hk => ?_, by rw [hv.findClass]; exact h2'⟩, fun kd hk => (h3 kd hk).moved hv, fun q hq => ?_, h5.moved hv, h6.moved hv, h7.moved hv, h8.warm hW⟩
  · obtain ⟨cf, kf, fi, f, e1, e2, e3⟩ := h2 k hk
    obtain ⟨k', hk', he⟩ := State.fieldFound?_setVm hv e1
    exact ⟨cf, k', fi, f, hk', e2, e3⟩
  · obtain ⟨a, i, x, b, rfl⟩ := am_nw_nest q hq
    exact va_Nw.warmM hW (h4 _ hq)
theorem am_K.calling {w : am_X} {U : State} (g : JFrame) (mk : MethodId) (a : Array Value) (h : am_K w U) : am_K w (U.calling g mk a) := by
  obtain ⟨h1, ⟨h2, h2'⟩, h3, h4, h5, h6, h7, h8⟩ := h
  exact ⟨fun c hc => u_Kn_moved (u := U) (U := U.calling g mk a) (Vm.Alike.refl U.vm) (h1 c hc), ⟨h2, h2'⟩, fun kd hk => (h3 kd hk).moved (u := U) (U := U.calling g mk a) (Vm.Alike.refl U.vm), fun q hq => (by
    obtain ⟨a', i, x, b, rfl⟩ := am_nw_nest q hq
    exact va_Nw.same (u := U) (U := U.calling g mk a) rfl rfl (h4 _ hq)), h5.moved (u := U) (U := U.calling g mk a) (Vm.Alike.refl U.vm), h6.moved (u := U) (U := U.calling g mk a) (Vm.Alike.refl U.vm), h7.moved (u := U) (U := U.calling g mk a) (Vm.Alike.refl U.vm), vk_R.same (u := U) (U := U.calling g mk a) rfl h8⟩
/-- a cell of the machine's heap -/
def am_cell (w : am_X) (h : am_H) (H : Heap) (k : Nat) : Prop := ∃ cell : Cell, H[am_a w k]? = some cell ∧ cell.vm ≠ .unknown ∧ cell.vm.isStatics = false ∧ (4 ≤ k → cell.vm = .none) ∧
  ((am_tg h k).1 < 100 → cell.cls = am_dC w (am_tg h k).1 ∧ ((am_tg h k).1 ∈ am_ins ∨ ((am_tg h k).1 = 14 ∧ k < 4)) ∧ ∀ j, j < am_nF (am_tg h k).1 → cell.slots[am_dI w (am_tg h k).1 j]? = some (am_up (am_a w) (am_val (am_fT (am_tg h k).1 j) h k j))) ∧
  (100 ≤ (am_tg h k).1 → cell.cls = am_aC w (am_tg h k).1 ∧ (am_tg h k).1 ∈ am_kds ∧ (am_tg h k).2 < 2 ^ 31 ∧ (am_tg h k).2 ≤ cell.slots.size ∧ cell.slots.size.toInt32 = Int32.ofNat (am_tg h k).2 ∧
    (∀ j, j < (am_tg h k).2 → cell.slots[j]? = some (am_up (am_a w) (am_val (am_aT (am_tg h k).1) h k j))) ∧ (∀ j, j < (am_tg h k).2 → fits (am_aT (am_tg h k).1) (am_val (am_aT (am_tg h k).1) h k j) = true) ∧
    (4 ≤ k → cell = arrV (am_aC w (am_tg h k).1) (am_tg h k).2 (fun j => am_up (am_a w) (am_val (am_aT (am_tg h k).1) h k j))))
def am_Rp (w : am_X) (h : am_H) (H : Heap) : Prop := 4 ≤ h.1 ∧ H.size + 4 = am_b w + h.1 ∧ (∀ q, q < am_b w → H[q]? = (am_G w)[q]?) ∧ (∀ k, k < 4 → am_a w k < am_b w) ∧ ∀ k, k < h.1 → am_cell w h H k
theorem am_a_hi {w : am_X} {k : Nat} (h : 4 ≤ k) : am_a w k = am_b w + (k - 4) := by
  show am_ad _ _ _ = _
  unfold am_ad
  rw [if_neg (by omega)]
theorem am_a_ne {w : am_X} {h : am_H} {H : Heap} (hR : am_Rp w h H) {a k : Nat} (ha : 4 ≤ a) (hk : k ≠ a) : am_a w k ≠ am_a w a := by
  rw [am_a_hi ha]
  by_cases h4 : 4 ≤ k
  · rw [am_a_hi h4]; omega
  · have := hR.2.2.2.1 k (by omega); omega
theorem am_a_lt {w : am_X} {h : am_H} {H : Heap} (hR : am_Rp w h H) {k : Nat} (hk : k < h.1) : am_a w k < H.size := by
  obtain ⟨cell, hc, -⟩ := hR.2.2.2.2 k hk
  exact (Array.getElem?_eq_some_iff.mp hc).1
/-- what depends on the values at one cell alone -/
def am_same (h h' : am_H) (k : Nat) : Prop := am_tg h' k = am_tg h k ∧ ∀ j, am_I h' k j = am_I h k j ∧ am_L h' k j = am_L h k j ∧ am_D h' k j = am_D h k j ∧ am_R h' k j = am_R h k j
theorem am_same.val {h h' : am_H} {k : Nat} (hs : am_same h h' k) (ty : FieldType) (j : Nat) : am_val ty h' k j = am_val ty h k j := by
  obtain ⟨h1, h2, h3, h4⟩ := hs.2 j
  unfold am_val
  split <;> simp_all
theorem am_cell.kept {w : am_X} {h h' : am_H} {H H' : Heap} {k : Nat} (hc : am_cell w h H k) (hs : am_same h h' k) (hH : H'[am_a w k]? = H[am_a w k]?) : am_cell w h' H' k := by
  obtain ⟨cell, e1, e2, e3, e4, e5, e6⟩ := hc
  refine ⟨cell, by rw [hH]; exact e1, e2, e3, e4, ?_, ?_⟩
  · rw [hs.1]
    intro q
    obtain ⟨a1, a2, a3⟩ := e5 q
    exact ⟨a1, a2, fun j hj => by rw [hs.val]; exact a3 j hj⟩
  · rw [hs.1]
    intro q
    obtain ⟨a1, a2, a3, a4, a5, a6, a7, a8⟩ := e6 q
    refine ⟨a1, a2, a3, a4, a5, fun j hj => by rw [hs.val]; exact a6 j hj, fun j hj => by rw [hs.val]; exact a7 j hj, fun q4 => ?_⟩
    rw [a8 q4]
    congr 1
    funext j
    rw [hs.val]

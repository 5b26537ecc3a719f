/-! THE CLASS: Code.kept -/
section KEP
variable {d : Nat} {h g : am_H} {Q : Option Value → am_H → Prop} {ls : am_Lo}
theorem j_cpI {mi pc idx m n a0 a k kd na n0 : Nat} {st : List Value} (A : am_at mi pc = some (.invokestatic idx, 3)) (K : am_mkf (am_me mi).1 idx = some (8, m, n)) (hs : (st.map fun v => v.category).sum ≤ 8) (h4 : 4 ≤ a) (h40 : 4 ≤ a0) (La : a < h.1) (La0 : a0 < h.1) (ne : a0 ≠ a) (Ta : am_tg h a = (kd, na)) (T0 : am_tg h a0 = (kd, n0)) (hkd : kd = 100 ∨ kd = 103) (hk1 : k ≤ n0) (hk2 : k ≤ na) (hk3 : k < 2 ^ 31) : am_J (d + 1) mi pc ls (.int (nI k) :: .int (nI 0) :: .ref a :: .int (nI 0) :: .ref a0 :: st) h Q ↔ am_J (d + 1) mi (pc + 3) ls st (am_cpI h a0 0 a 0 k) Q := by
  obtain ⟨z1, z2⟩ := am_nI_ok (q := 0) (by decide)
  obtain ⟨k1, k2⟩ := am_nI_ok (q := k) hk3
  refine j_hp A (fun _ => rfl) rfl rfl rfl ?_
  simp only [am_hp, K, z2, k2, Ta, T0]
  rw [if_pos ⟨by omega, hs, h4, h40, La, La0, ne, by rcases hkd with e | e <;> omega, trivial, z1, z1, k1, by omega, by omega⟩, if_pos hkd]
theorem j_cpL {mi pc idx m n a0 a k na n0 : Nat} {st : List Value} (A : am_at mi pc = some (.invokestatic idx, 3)) (K : am_mkf (am_me mi).1 idx = some (8, m, n)) (hs : (st.map fun v => v.category).sum ≤ 8) (h4 : 4 ≤ a) (h40 : 4 ≤ a0) (La : a < h.1) (La0 : a0 < h.1) (ne : a0 ≠ a) (Ta : am_tg h a = (101, na)) (T0 : am_tg h a0 = (101, n0)) (hk1 : k ≤ n0) (hk2 : k ≤ na) (hk3 : k < 2 ^ 31) : am_J (d + 1) mi pc ls (.int (nI k) :: .int (nI 0) :: .ref a :: .int (nI 0) :: .ref a0 :: st) h Q ↔ am_J (d + 1) mi (pc + 3) ls st (am_cpL h a0 0 a 0 k) Q := by
  obtain ⟨z1, z2⟩ := am_nI_ok (q := 0) (by decide)
  obtain ⟨k1, k2⟩ := am_nI_ok (q := k) hk3
  refine j_hp A (fun _ => rfl) rfl rfl rfl ?_
  simp only [am_hp, K, z2, k2, Ta, T0]
  rw [if_pos ⟨by omega, hs, h4, h40, La, La0, ne, by omega, trivial, z1, z1, k1, by omega, by omega⟩, if_neg (by omega), if_pos trivial]
/-- a code that is kept, with what it holds -/
def CO (h : am_H) (e : Nat) (D : List (Int32 × Int64)) (P : List Int32) (N : List Nat) (F k : Int32) : Prop :=
  402 ≤ e ∧ e + 7 ≤ h.1 ∧ am_tg h e = (1, 0) ∧ am_tg h (e + 1) = (101, 4) ∧ am_tg h (e + 2) = (103, D.length) ∧ am_tg h (e + 3) = (101, D.length) ∧ am_tg h (e + 4) = (10, 0) ∧ am_tg h (e + 5) = (103, P.length) ∧ am_tg h (e + 6) = (100, N.length) ∧
  am_R h e 4 = some (e + 1) ∧ am_R h e 0 = some (e + 2) ∧ am_R h e 1 = some (e + 3) ∧ am_R h e 2 = some (e + 4) ∧ am_R h (e + 4) 0 = some (e + 5) ∧ am_R h e 3 = some (e + 6) ∧
  am_I h e 5 = nI D.length ∧ am_I h (e + 4) 1 = nI P.length ∧ am_I h e 6 = nI N.length ∧ am_I h e 7 = k ∧ am_I h e 8 = F ∧
  (∀ i x, D[i]? = some x → am_I h (e + 2) i = x.1 ∧ am_L h (e + 3) i = x.2) ∧ (∀ i x, P[i]? = some x → am_I h (e + 5) i = x) ∧ (∀ i c, N[i]? = some c → am_I h (e + 6) i = nI c) ∧
  (∀ c, c < 256 → (am_L h (e + 1) (c / 64)).toBitVec.getLsbD (c % 64) = decide (c ∈ N)) ∧ D.length ≤ 160 ∧ P.length ≤ 400 ∧ N.length ≤ 256
theorem CO_keep {e : Nat} {D : List (Int32 × Int64)} {P : List Int32} {N : List Nat} {F k : Int32} (C : CO h e D P N F k) (h1 : h.1 ≤ g.1) (hk : ∀ a, e ≤ a → a < e + 7 → am_tg g a = am_tg h a ∧ ∀ j, (a = e → j < 9) → am_I g a j = am_I h a j ∧ am_L g a j = am_L h a j ∧ am_R g a j = am_R h a j) : CO g e D P N F k := by
  obtain ⟨c1, c2, t0, t1, t2, t3, t4, t5, t6, r4, r0, r1, r2, r5, r3, i5, i1, i6, i7, i8, v1, v2, v3, v4, b1, b2, b3⟩ := C
  have K0 := hk e (by omega) (by omega)
  have K1 := hk (e + 1) (by omega) (by omega)
  have K2 := hk (e + 2) (by omega) (by omega)
  have K3 := hk (e + 3) (by omega) (by omega)
  have K4 := hk (e + 4) (by omega) (by omega)
  have K5 := hk (e + 5) (by omega) (by omega)
  have K6 := hk (e + 6) (by omega) (by omega)
  refine ⟨c1, by omega, K0.1.trans t0, K1.1.trans t1, K2.1.trans t2, K3.1.trans t3, K4.1.trans t4, K5.1.trans t5, K6.1.trans t6, ((K0.2 4 (by omega)).2.2).trans r4, ((K0.2 0 (by omega)).2.2).trans r0, ((K0.2 1 (by omega)).2.2).trans r1, ((K0.2 2 (by omega)).2.2).trans r2, ((K4.2 0 (by omega)).2.2).trans r5, ((K0.2 3 (by omega)).2.2).trans r3, ((K0.2 5 (by omega)).1).trans i5, ((K4.2 1 (by omega)).1).trans i1, ((K0.2 6 (by omega)).1).trans i6, ((K0.2 7 (by omega)).1).trans i7, ((K0.2 8 (by omega)).1).trans i8, fun i x hx => ⟨((K2.2 i (by omega)).1).trans (v1 i x hx).1, ((K3.2 i (by omega)).2.1).trans (v1 i x hx).2⟩, fun i x hx => ((K5.2 i (by omega)).1).trans (v2 i x hx), fun i c hc => ((K6.2 i (by omega)).1).trans (v3 i c hc), fun c hc => ?_, b1, b2, b3⟩
  rw [(K1.2 (c / 64) (by omega)).2.1]
  exact v4 c hc
end KEP

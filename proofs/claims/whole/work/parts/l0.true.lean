/-! THE LAW'S LOOP, and am_true -/
section LWL
variable {L i : Nat} {xs : Nat → Int32} {h : am_H}
theorem nI_and31 (x : Int32) : ∃ k, k < 32 ∧ x &&& nI 31 = nI k := by
  refine ⟨(x.toBitVec &&& 31#32).toNat, ?_, ?_⟩
  · rw [BitVec.toNat_and]
    exact Nat.lt_of_le_of_lt Nat.and_le_right (by decide)
  · apply Int32.toBitVec_inj.mp
    show x.toBitVec &&& 31#32 = BitVec.ofNat 32 _
    rw [BitVec.ofNat_toNat, BitVec.setWidth_eq]
theorem lw_lim (hL : L ≤ 2560) (h1 : 5 * i ≤ L) (h2 : ¬ 5 * i + 5 ≤ L) : nI L - nI 5 < nI (5 * i) := by
  by_cases c : 5 ≤ L
  · rw [nI_sub c]; exact nI_lt (by omega) (by omega)
  · have := nI_subneg (a := L) (b := 5) (by omega) (by decide)
    rw [show i = 0 by omega]
    exact this
theorem lw_out {Q : Option Value → am_H → Prop} (hL : L ≤ 2560) (h1 : 5 * i ≤ L) (h2 : ¬ 5 * i + 5 ≤ L) (H : sc L xs h) : am_J (1399 + 1) 284 18 [some (.ref 0), some (.ref 4), some (.ref 349), some (.int (nI (5 * i)))] [] h Q ↔ Q (some (.int (nI 1))) h := by
  rw [g284_18, g284_19 rfl, g284_20 (by have := H.1; omega) (by rw [H.2.1]; exact (by decide : (100 : Nat) ≤ 110) : 100 ≤ (am_tg h 0).1), H.2.1, g284_21, g284_22, g284_23, if_pos (lw_lim hL h1 h2), g284_865, g284_866 (Or.inr rfl)]
theorem lw_head {Q : Option Value → am_H → Prop} {k : Nat} (hL : L ≤ 2560) (h2 : 5 * i + 5 ≤ L) (H : sc L xs h) (e : xs (5 * i) &&& nI 31 = nI k) : am_J (1399 + 1) 284 18 [some (.ref 0), some (.ref 4), some (.ref 349), some (.int (nI (5 * i)))] [] h Q ↔ am_J (1399 + 1) 284 32 [some (.ref 0), some (.ref 4), some (.ref 349), some (.int (nI (5 * i)))] [.int (nI k)] h Q := by
  rw [g284_18, g284_19 rfl, g284_20 (by have := H.1; omega) (by rw [H.2.1]; exact (by decide : (100 : Nat) ≤ 110) : 100 ≤ (am_tg h 0).1), H.2.1, g284_21, g284_22, nI_sub (show 5 ≤ L by omega), g284_23, if_neg (nI_nlt (by omega) (by omega)), g284_26 rfl, g284_27, g284_28 (sc_ax H (show _ < L by omega) hL), H.2.2.1, g284_29, g284_31, e]
theorem lw_back {Q : Option Value → am_H → Prop} : am_J (1399 + 1) 284 859 [some (.ref 0), some (.ref 4), some (.ref 349), some (.int (nI (5 * i)))] [] h Q ↔ am_J (1399 + 1) 284 18 [some (.ref 0), some (.ref 4), some (.ref 349), some (.int (nI (5 * (i + 1))))] [] h Q := by
  rw [g284_859, nI_add, g284_862, Nat.mul_succ]
theorem lw_case {k : Nat} (hL : L ≤ 2560) (hi : 5 * i + 5 ≤ L) (I : Inv i h) (H : sc L xs h) (hk : k < 32) : ∃ h2, Inv (i + 1) h2 ∧ sc L xs h2 ∧ ∀ Q, am_J (1399 + 1) 284 32 [some (.ref 0), some (.ref 4), some (.ref 349), some (.int (nI (5 * i)))] [.int (nI k)] h Q ↔ am_J (1399 + 1) 284 859 [some (.ref 0), some (.ref 4), some (.ref 349), some (.int (nI (5 * i)))] [] h2 Q := by
  have no : ∀ j, (∀ Q, am_J (1399 + 1) 284 32 [some (.ref 0), some (.ref 4), some (.ref 349), some (.int (nI (5 * i)))] [.int (nI j)] h Q ↔ am_J (1399 + 1) 284 859 [some (.ref 0), some (.ref 4), some (.ref 349), some (.int (nI (5 * i)))] [] h Q) → ∃ h2, Inv (i + 1) h2 ∧ sc L xs h2 ∧ ∀ Q, am_J (1399 + 1) 284 32 [some (.ref 0), some (.ref 4), some (.ref 349), some (.int (nI (5 * i)))] [.int (nI j)] h Q ↔ am_J (1399 + 1) 284 859 [some (.ref 0), some (.ref 4), some (.ref 349), some (.int (nI (5 * i)))] [] h2 Q := fun j e => ⟨h, up_Inv I, H, e⟩
  have yes : ∀ {j p : Nat}, (∀ Q, am_J (1399 + 1) 284 32 [some (.ref 0), some (.ref 4), some (.ref 349), some (.int (nI (5 * i)))] [.int (nI j)] h Q ↔ am_J (1399 + 1) 284 p [some (.ref 0), some (.ref 4), some (.ref 349), some (.int (nI (5 * i)))] [] h Q) → (∃ h2, Inv (i + 1) h2 ∧ sc L xs h2 ∧ ∀ Q, am_J (1399 + 1) 284 p [some (.ref 0), some (.ref 4), some (.ref 349), some (.int (nI (5 * i)))] [] h Q ↔ am_J (1399 + 1) 284 859 [some (.ref 0), some (.ref 4), some (.ref 349), some (.int (nI (5 * i)))] [] h2 Q) → ∃ h2, Inv (i + 1) h2 ∧ sc L xs h2 ∧ ∀ Q, am_J (1399 + 1) 284 32 [some (.ref 0), some (.ref 4), some (.ref 349), some (.int (nI (5 * i)))] [.int (nI j)] h Q ↔ am_J (1399 + 1) 284 859 [some (.ref 0), some (.ref 4), some (.ref 349), some (.int (nI (5 * i)))] [] h2 Q := fun e ⟨h2, a, b, c⟩ => ⟨h2, a, b, fun Q => (e Q).trans (c Q)⟩
  have : k = 0 ∨ k = 1 ∨ k = 2 ∨ k = 3 ∨ k = 4 ∨ k = 5 ∨ k = 6 ∨ k = 7 ∨ k = 8 ∨ k = 9 ∨ k = 10 ∨ k = 11 ∨ k = 12 ∨ k = 13 ∨ k = 14 ∨ k = 15 ∨ k = 16 ∨ k = 17 ∨ k = 18 ∨ k = 19 ∨ k = 20 ∨ k = 21 ∨ k = 22 ∨ k = 23 ∨ k = 24 ∨ k = 25 ∨ k = 26 ∨ k = 27 ∨ k = 28 ∨ k = 29 ∨ k = 30 ∨ k = 31 := by omega
  rcases this with rfl | rfl | rfl | rfl | rfl | rfl | rfl | rfl | rfl | rfl | rfl | rfl | rfl | rfl | rfl | rfl | rfl | rfl | rfl | rfl | rfl | rfl | rfl | rfl | rfl | rfl | rfl | rfl | rfl | rfl | rfl | rfl
  · exact yes (fun Q => g284_32_0) (lw_0 hL hi I H)
  · exact yes (fun Q => g284_32_1) (lw_1 hL hi I H)
  · exact yes (fun Q => g284_32_2) (lw_2 hL hi I H)
  · exact yes (fun Q => g284_32_3) (lw_3 hL hi I H)
  · exact yes (fun Q => g284_32_4) (lw_4 hL hi I H)
  · exact yes (fun Q => g284_32_5) (lw_5 hL hi I H)
  · exact yes (fun Q => g284_32_6) (lw_6 hL hi I H)
  · exact yes (fun Q => g284_32_7) (lw_7 hL hi I H)
  · exact yes (fun Q => g284_32_8) (lw_8 hL hi I H)
  · exact yes (fun Q => g284_32_9) (lw_9 hL hi I H)
  · exact yes (fun Q => g284_32_10) (lw_10 hL hi I H)
  · exact yes (fun Q => g284_32_11) (lw_11 hL hi I H)
  · exact yes (fun Q => g284_32_12) (lw_12 hL hi I H)
  · exact yes (fun Q => g284_32_13) (lw_13 hL hi I H)
  · exact yes (fun Q => g284_32_14) (lw_14 hL hi I H)
  · exact yes (fun Q => g284_32_15) (lw_15 hL hi I H)
  · exact yes (fun Q => g284_32_16) (lw_16 hL hi I H)
  · exact yes (fun Q => g284_32_17) (lw_17 hL hi I H)
  · exact yes (fun Q => g284_32_18) (lw_18 hL hi I H)
  · exact yes (fun Q => g284_32_19) (lw_19 hL hi I H)
  · exact yes (fun Q => g284_32_20) (lw_20 hL hi I H)
  · exact yes (fun Q => g284_32_21) (lw_21 hL hi I H)
  · exact yes (fun Q => g284_32_22) (lw_22 hL hi I H)
  · exact yes (fun Q => g284_32_23) (lw_23 hL hi I H)
  · exact no 24 (fun Q => g284_32_24)
  · exact no 25 (fun Q => g284_32_25)
  · exact no 26 (fun Q => g284_32_26)
  · exact no 27 (fun Q => g284_32_27)
  · exact no 28 (fun Q => g284_32_28)
  · exact no 29 (fun Q => g284_32_29)
  · exact no 30 (fun Q => g284_32_30)
  · exact no 31 (fun Q => g284_32_31)
theorem lw_loop (hL : L ≤ 2560) : ∀ t i h, L ≤ 5 * i + 5 * t → 5 * i ≤ L → Inv i h → sc L xs h → ∃ h', (∃ j, j ≤ 512 ∧ Inv j h') ∧ ∀ Q, am_J (1399 + 1) 284 18 [some (.ref 0), some (.ref 4), some (.ref 349), some (.int (nI (5 * i)))] [] h Q ↔ Q (some (.int (nI 1))) h' := by
  intro t
  induction t with
  | zero => exact fun i h h1 h2 I H => ⟨h, ⟨i, by omega, I⟩, fun Q => lw_out hL h2 (by omega) H⟩
  | succ t ih =>
    intro i h h1 h2 I H
    by_cases c : 5 * i + 5 ≤ L
    · obtain ⟨k, hk, e⟩ := nI_and31 (xs (5 * i))
      obtain ⟨h2, I2, H2, J2⟩ := lw_case hL c I H hk
      obtain ⟨h3, I3, J3⟩ := ih (i + 1) h2 (by omega) (by omega) I2 H2
      exact ⟨h3, I3, fun Q => by rw [lw_head hL c H e, J2, lw_back]; exact J3 Q⟩
    · exact ⟨h, ⟨i, by omega, I⟩, fun Q => lw_out hL h2 c H⟩
theorem rp_0 {h : am_H} : am_tg (am_rp L xs h) 0 = (110, L) := rfl
theorem rp_00 {h : am_H} {j : Nat} : am_I (am_rp L xs h) 0 j = xs j := rfl
theorem sc_start : sc L xs (am_rp L xs hS) := by
  have t4 : am_tgs 4 = (11, 0) := by decide
  have t349 : am_tgs 349 = (12, 0) := by decide +kernel
  exact ⟨Nat.le_of_eq (am_rp_1.trans hS_1).symm, rp_0, fun j => rp_00, ((am_rp_tg (by decide)).trans (hS_tg 4 (by decide) (by decide))).trans t4, ((am_rp_tg (by decide)).trans (hS_tg 349 (by decide) (by decide))).trans t349⟩
theorem am_true_holds : am_true 1400 := by
  intro L xs hL
  obtain ⟨h', ⟨j, hj, I⟩, J⟩ := lw_loop (xs := xs) hL L 0 (am_rp L xs hS) (by omega) (by omega) Inv_start sc_start
  obtain ⟨n, r, h1, ha, rfl, rfl⟩ := (lw_start (L := L) (xs := xs) (d := 1399) (by decide)).mpr ((J (fun r h1 => r = some (.int (nI 1)) ∧ h1 = h')).mpr ⟨rfl, rfl⟩)
  obtain ⟨-, -, -, -, -, -, -, -, M, -⟩ := I
  exact ⟨n, h1, ha, by have := M.1; omega, by have := M.2; omega⟩
end LWL

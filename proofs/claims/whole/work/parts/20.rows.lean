/-! rows of am_J, an instruction each: by wip/whole/gen_rows.py -/
section G0
-- method 0: LoadBook$Cell.<init>()V
variable {d : Nat} {ls : am_Lo} {st : List Value} {h : am_H} {Q : Option Value → am_H → Prop} {v0 : Option Value}
theorem g0_0 {a : Nat}  : am_J d 0 0 [some (.ref a)] st h Q ↔ am_J d 0 1 [some (.ref a)] (.ref a :: st) h Q := j_aload (i := .aload_n 0) (by decide +kernel) (Or.inl ⟨0, rfl, rfl, rfl⟩) rfl rfl
theorem g0_1 {a : Nat}  : am_J (d + 1) 0 1 ls (.ref a :: []) h Q ↔ am_J (d + 1) 0 4 ls [] h Q := j_oinit (m := 0) (n := 0) (idx := 3) (by decide +kernel) (by decide +kernel) (Nat.le_of_ble_eq_true rfl)
theorem g0_4 : am_J d 0 4 ls [] h Q ↔ Q none h := j_rt (i := .return_) (by decide +kernel) (by rw [show (am_me 0).2.2.1 = none by decide +kernel]; rfl)
end G0
section G1
-- method 1: LoadBook$Cell.setLong(J)V
variable {d : Nat} {ls : am_Lo} {st : List Value} {h : am_H} {Q : Option Value → am_H → Prop} {v0 v1 v2 : Option Value}
theorem g1_0 {a : Nat}  : am_J d 1 0 [some (.ref a), v1, v2] st h Q ↔ am_J d 1 1 [some (.ref a), v1, v2] (.ref a :: st) h Q := j_aload (i := .aload_n 0) (by decide +kernel) (Or.inl ⟨0, rfl, rfl, rfl⟩) rfl rfl
theorem g1_1   : am_J d 1 1 ls st h Q ↔ am_J d 1 2 ls (.int (nI 1) :: st) h Q := j_iconst (n := 1) (by decide +kernel) (by decide +kernel)
theorem g1_2 {a : Nat} {x : Int32}  (O : am_ob h a 0) (h4 : 4 ≤ a) : am_J d 1 2 ls (.int x :: .ref a :: st) h Q ↔ am_J d 1 5 ls st (am_setI h a 0 x) Q := j_put (idx := 19) (k := 0) (by decide +kernel) (by decide +kernel) (by decide) (by decide +kernel) (Or.inl rfl) rfl O h4
theorem g1_5 {a : Nat}  : am_J d 1 5 [some (.ref a), v1, v2] st h Q ↔ am_J d 1 6 [some (.ref a), v1, v2] (.ref a :: st) h Q := j_aload (i := .aload_n 0) (by decide +kernel) (Or.inl ⟨0, rfl, rfl, rfl⟩) rfl rfl
theorem g1_6 {x : Int64}  : am_J d 1 6 [v0, some (.long x), none] st h Q ↔ am_J d 1 7 [v0, some (.long x), none] (.long x :: st) h Q := j_lc (i := .lload_n 1) (k := 1) (by decide +kernel) (fun _ => rfl) rfl rfl rfl
theorem g1_7 {a : Nat} {x : Int64}  (O : am_ob h a 0) (h4 : 4 ≤ a) : am_J d 1 7 ls (.long x :: .ref a :: st) h Q ↔ am_J d 1 10 ls st (am_setL h a 1 x) Q := j_put (idx := 22) (k := 1) (by decide +kernel) (by decide +kernel) (by decide) (by decide +kernel) (Or.inl rfl) rfl O h4
theorem g1_10 : am_J d 1 10 ls [] h Q ↔ Q none h := j_rt (i := .return_) (by decide +kernel) (by rw [show (am_me 1).2.2.1 = none by decide +kernel]; rfl)
end G1
section G2
-- method 2: LoadBook$Cell.setDouble(D)V
variable {d : Nat} {ls : am_Lo} {st : List Value} {h : am_H} {Q : Option Value → am_H → Prop} {v0 v1 v2 : Option Value}
theorem g2_0 {a : Nat}  : am_J d 2 0 [some (.ref a), v1, v2] st h Q ↔ am_J d 2 1 [some (.ref a), v1, v2] (.ref a :: st) h Q := j_aload (i := .aload_n 0) (by decide +kernel) (Or.inl ⟨0, rfl, rfl, rfl⟩) rfl rfl
theorem g2_1   : am_J d 2 1 ls st h Q ↔ am_J d 2 2 ls (.int (nI 2) :: st) h Q := j_iconst (n := 2) (by decide +kernel) (by decide +kernel)
theorem g2_2 {a : Nat} {x : Int32}  (O : am_ob h a 0) (h4 : 4 ≤ a) : am_J d 2 2 ls (.int x :: .ref a :: st) h Q ↔ am_J d 2 5 ls st (am_setI h a 0 x) Q := j_put (idx := 19) (k := 0) (by decide +kernel) (by decide +kernel) (by decide) (by decide +kernel) (Or.inl rfl) rfl O h4
theorem g2_5 {a : Nat}  : am_J d 2 5 [some (.ref a), v1, v2] st h Q ↔ am_J d 2 6 [some (.ref a), v1, v2] (.ref a :: st) h Q := j_aload (i := .aload_n 0) (by decide +kernel) (Or.inl ⟨0, rfl, rfl, rfl⟩) rfl rfl
theorem g2_6 {x : UInt64}  : am_J d 2 6 [v0, some (.double x), none] st h Q ↔ am_J d 2 7 [v0, some (.double x), none] (.double x :: st) h Q := j_lc (i := .dload_n 1) (k := 1) (by decide +kernel) (fun _ => rfl) rfl rfl rfl
theorem g2_7 {a : Nat} {x : UInt64}  (O : am_ob h a 0) (h4 : 4 ≤ a) : am_J d 2 7 ls (.double x :: .ref a :: st) h Q ↔ am_J d 2 10 ls st (am_setD h a 2 x) Q := j_put (idx := 26) (k := 2) (by decide +kernel) (by decide +kernel) (by decide) (by decide +kernel) (Or.inl rfl) rfl O h4
theorem g2_10 {a : Nat}  : am_J d 2 10 [some (.ref a), v1, v2] st h Q ↔ am_J d 2 11 [some (.ref a), v1, v2] (.ref a :: st) h Q := j_aload (i := .aload_n 0) (by decide +kernel) (Or.inl ⟨0, rfl, rfl, rfl⟩) rfl rfl
theorem g2_11 {x : UInt64}  : am_J d 2 11 [v0, some (.double x), none] st h Q ↔ am_J d 2 12 [v0, some (.double x), none] (.double x :: st) h Q := j_lc (i := .dload_n 1) (k := 1) (by decide +kernel) (fun _ => rfl) rfl rfl rfl
theorem g2_12 {r0 : Nat} {a0 : UInt64}  : am_J (d + 1) 2 12 ls (.double a0 :: [.ref r0]) h Q ↔ am_J d 122 0 [some (.double a0), none, none, none, none, none, none] [] h (fun r h' => am_J (d + 1) 2 15 ls (r.toList ++ [.ref r0]) h' Q) := j_callS (idx := 30) (kd := 2) (mj := 122) (n := 1) (ml := 7) (as := [.double a0]) (rest := [.ref r0]) (by decide +kernel) (by decide +kernel) (by decide) (by decide +kernel) (by decide) rfl rfl (Nat.le_of_ble_eq_true rfl) (Nat.le_of_ble_eq_true rfl)
theorem g2_15 {a : Nat} {x : Int64}  (O : am_ob h a 0) (h4 : 4 ≤ a) : am_J d 2 15 ls (.long x :: .ref a :: st) h Q ↔ am_J d 2 18 ls st (am_setL h a 1 x) Q := j_put (idx := 22) (k := 1) (by decide +kernel) (by decide +kernel) (by decide) (by decide +kernel) (Or.inl rfl) rfl O h4
theorem g2_18 : am_J d 2 18 ls [] h Q ↔ Q none h := j_rt (i := .return_) (by decide +kernel) (by rw [show (am_me 2).2.2.1 = none by decide +kernel]; rfl)
end G2
section G3
-- method 3: LoadBook$Cell.setBare(I)V
variable {d : Nat} {ls : am_Lo} {st : List Value} {h : am_H} {Q : Option Value → am_H → Prop} {v0 v1 : Option Value}
theorem g3_0 {a : Nat}  : am_J d 3 0 [some (.ref a), v1] st h Q ↔ am_J d 3 1 [some (.ref a), v1] (.ref a :: st) h Q := j_aload (i := .aload_n 0) (by decide +kernel) (Or.inl ⟨0, rfl, rfl, rfl⟩) rfl rfl
theorem g3_1 {x : Int32}  : am_J d 3 1 [v0, some (.int x)] st h Q ↔ am_J d 3 2 [v0, some (.int x)] (.int x :: st) h Q := j_lc (i := .iload_n 1) (k := 1) (by decide +kernel) (fun _ => rfl) rfl rfl rfl
theorem g3_2 {a : Nat} {x : Int32}  (O : am_ob h a 0) (h4 : 4 ≤ a) : am_J d 3 2 ls (.int x :: .ref a :: st) h Q ↔ am_J d 3 5 ls st (am_setI h a 0 x) Q := j_put (idx := 19) (k := 0) (by decide +kernel) (by decide +kernel) (by decide) (by decide +kernel) (Or.inl rfl) rfl O h4
theorem g3_5 {a : Nat}  : am_J d 3 5 [some (.ref a), v1] st h Q ↔ am_J d 3 6 [some (.ref a), v1] (.ref a :: st) h Q := j_aload (i := .aload_n 0) (by decide +kernel) (Or.inl ⟨0, rfl, rfl, rfl⟩) rfl rfl
theorem g3_6   : am_J d 3 6 ls st h Q ↔ am_J d 3 7 ls (.long (lN 0) :: st) h Q := j_ps (i := .lconst 0) (k := 1) (by decide +kernel) (fun _ => rfl) rfl
theorem g3_7 {a : Nat} {x : Int64}  (O : am_ob h a 0) (h4 : 4 ≤ a) : am_J d 3 7 ls (.long x :: .ref a :: st) h Q ↔ am_J d 3 10 ls st (am_setL h a 1 x) Q := j_put (idx := 22) (k := 1) (by decide +kernel) (by decide +kernel) (by decide) (by decide +kernel) (Or.inl rfl) rfl O h4
theorem g3_10 : am_J d 3 10 ls [] h Q ↔ Q none h := j_rt (i := .return_) (by decide +kernel) (by rw [show (am_me 3).2.2.1 = none by decide +kernel]; rfl)
end G3
section G4
-- method 4: LoadBook$Cell.makeReads()V
variable {d : Nat} {ls : am_Lo} {st : List Value} {h : am_H} {Q : Option Value → am_H → Prop} {v0 : Option Value}
theorem g4_0 {a : Nat}  : am_J d 4 0 [some (.ref a)] st h Q ↔ am_J d 4 1 [some (.ref a)] (.ref a :: st) h Q := j_aload (i := .aload_n 0) (by decide +kernel) (Or.inl ⟨0, rfl, rfl, rfl⟩) rfl rfl
theorem g4_1   : am_J d 4 1 ls st h Q ↔ am_J d 4 2 ls (.int (nI 0) :: st) h Q := j_iconst (n := 0) (by decide +kernel) (by decide +kernel)
theorem g4_2 {a : Nat} {x : Int32}  (O : am_ob h a 0) (h4 : 4 ≤ a) : am_J d 4 2 ls (.int x :: .ref a :: st) h Q ↔ am_J d 4 5 ls st (am_setI h a 9 x) Q := j_put (idx := 9) (k := 9) (by decide +kernel) (by decide +kernel) (by decide) (by decide +kernel) (Or.inl rfl) rfl O h4
theorem g4_5 {a : Nat}  : am_J d 4 5 [some (.ref a)] st h Q ↔ am_J d 4 6 [some (.ref a)] (.ref a :: st) h Q := j_aload (i := .aload_n 0) (by decide +kernel) (Or.inl ⟨0, rfl, rfl, rfl⟩) rfl rfl
theorem g4_6 {a : Nat} (O : am_ob h a 0) : am_J d 4 6 ls (.ref a :: st) h Q ↔ am_J d 4 9 ls (va_rf (am_R h a 8) :: st) h Q := j_get (idx := 15) (k := 8) (by decide +kernel) (by decide +kernel) (by decide) (by decide +kernel) rfl O
theorem g4_9 {r : Option Nat} : am_J d 4 9 ls (va_rf r :: st) h Q ↔ (if r = none then am_J d 4 12 ls st h Q else am_J d 4 20 ls st h Q) := j_ifnonnull (off := 11) (by decide +kernel) (by decide +kernel)
theorem g4_12 {a : Nat}  : am_J d 4 12 [some (.ref a)] st h Q ↔ am_J d 4 13 [some (.ref a)] (.ref a :: st) h Q := j_aload (i := .aload_n 0) (by decide +kernel) (Or.inl ⟨0, rfl, rfl, rfl⟩) rfl rfl
theorem g4_13   : am_J d 4 13 ls st h Q ↔ am_J d 4 15 ls (.int (nI 24) :: st) h Q := j_bipush (n := 24) (by decide +kernel) (by decide +kernel)
theorem g4_15 {q : Nat} (hq : q ≤ 65536) : am_J d 4 15 ls (.int (nI q) :: st) h Q ↔ am_J d 4 17 ls (.ref h.1 :: st) (am_new h (100, q) q) Q := j_newa (t := .int) (by decide +kernel) (by decide +kernel) hq
theorem g4_17 {a : Nat} {x : Option Nat}  (O : am_ob h a 0) (h4 : 4 ≤ a) : am_J d 4 17 ls (va_rf x :: .ref a :: st) h Q ↔ am_J d 4 20 ls st (am_setR h a 8 x) Q := j_put (idx := 15) (k := 8) (by decide +kernel) (by decide +kernel) (by decide) (by decide +kernel) (Or.inl rfl) (by cases x <;> rfl) O h4
theorem g4_20 : am_J d 4 20 ls [] h Q ↔ Q none h := j_rt (i := .return_) (by decide +kernel) (by rw [show (am_me 4).2.2.1 = none by decide +kernel]; rfl)
end G4
section G5
-- method 5: LoadBook$Cell.addRead(I)V
variable {d : Nat} {ls : am_Lo} {st : List Value} {h : am_H} {Q : Option Value → am_H → Prop} {v0 v1 : Option Value}
theorem g5_0 {a : Nat}  : am_J d 5 0 [some (.ref a), v1] st h Q ↔ am_J d 5 1 [some (.ref a), v1] (.ref a :: st) h Q := j_aload (i := .aload_n 0) (by decide +kernel) (Or.inl ⟨0, rfl, rfl, rfl⟩) rfl rfl
theorem g5_1 {a : Nat} (O : am_ob h a 0) : am_J d 5 1 ls (.ref a :: st) h Q ↔ am_J d 5 4 ls (va_rf (am_R h a 8) :: st) h Q := j_get (idx := 15) (k := 8) (by decide +kernel) (by decide +kernel) (by decide) (by decide +kernel) rfl O
theorem g5_4 {r : Option Nat} : am_J d 5 4 ls (va_rf r :: st) h Q ↔ (if r = none then am_J d 5 36 ls st h Q else am_J d 5 7 ls st h Q) := j_ifnull (off := 32) (by decide +kernel) (by decide +kernel)
theorem g5_7 {a : Nat}  : am_J d 5 7 [some (.ref a), v1] st h Q ↔ am_J d 5 8 [some (.ref a), v1] (.ref a :: st) h Q := j_aload (i := .aload_n 0) (by decide +kernel) (Or.inl ⟨0, rfl, rfl, rfl⟩) rfl rfl
theorem g5_8 {a : Nat} (O : am_ob h a 0) : am_J d 5 8 ls (.ref a :: st) h Q ↔ am_J d 5 11 ls (.int (am_I h a 9) :: st) h Q := j_get (idx := 9) (k := 9) (by decide +kernel) (by decide +kernel) (by decide) (by decide +kernel) rfl O
theorem g5_11   : am_J d 5 11 ls st h Q ↔ am_J d 5 13 ls (.int (nI 24) :: st) h Q := j_bipush (n := 24) (by decide +kernel) (by decide +kernel)
theorem g5_13 {x y : Int32} : am_J d 5 13 ls (.int y :: .int x :: st) h Q ↔ (if y ≤ x then am_J d 5 36 ls st h Q else am_J d 5 16 ls st h Q) := j_ic (c := .ge) (off := 23) (by decide +kernel) (by decide +kernel) rfl
theorem g5_16 {a : Nat}  : am_J d 5 16 [some (.ref a), v1] st h Q ↔ am_J d 5 17 [some (.ref a), v1] (.ref a :: st) h Q := j_aload (i := .aload_n 0) (by decide +kernel) (Or.inl ⟨0, rfl, rfl, rfl⟩) rfl rfl
theorem g5_17 {a : Nat} (O : am_ob h a 0) : am_J d 5 17 ls (.ref a :: st) h Q ↔ am_J d 5 20 ls (va_rf (am_R h a 8) :: st) h Q := j_get (idx := 15) (k := 8) (by decide +kernel) (by decide +kernel) (by decide) (by decide +kernel) rfl O
theorem g5_20 {a : Nat}  : am_J d 5 20 [some (.ref a), v1] st h Q ↔ am_J d 5 21 [some (.ref a), v1] (.ref a :: st) h Q := j_aload (i := .aload_n 0) (by decide +kernel) (Or.inl ⟨0, rfl, rfl, rfl⟩) rfl rfl
theorem g5_21 {a : Nat} (O : am_ob h a 0) : am_J d 5 21 ls (.ref a :: st) h Q ↔ am_J d 5 24 ls (.int (am_I h a 9) :: st) h Q := j_get (idx := 9) (k := 9) (by decide +kernel) (by decide +kernel) (by decide) (by decide +kernel) rfl O
theorem g5_24 {x : Int32}  : am_J d 5 24 [v0, some (.int x)] st h Q ↔ am_J d 5 25 [v0, some (.int x)] (.int x :: st) h Q := j_lc (i := .iload_n 1) (k := 1) (by decide +kernel) (fun _ => rfl) rfl rfl rfl
theorem g5_25 {a q : Nat} {x : Int32}  (X : am_ax h a 100 q) (h4 : 4 ≤ a) : am_J d 5 25 ls (.int x :: .int (nI q) :: .ref a :: st) h Q ↔ am_J d 5 26 ls st (am_setI h a q x) Q := j_ast (i := .iastore) (by decide +kernel) (Or.inl ⟨rfl, rfl⟩) (by decide) (by decide) rfl X h4
theorem g5_26 {a : Nat}  : am_J d 5 26 [some (.ref a), v1] st h Q ↔ am_J d 5 27 [some (.ref a), v1] (.ref a :: st) h Q := j_aload (i := .aload_n 0) (by decide +kernel) (Or.inl ⟨0, rfl, rfl, rfl⟩) rfl rfl
theorem g5_27 {v : Value} (hv : v.category = 1) : am_J d 5 27 ls (v :: st) h Q ↔ am_J d 5 28 ls (v :: v :: st) h Q := j_dup (by decide +kernel) hv
theorem g5_28 {a : Nat} (O : am_ob h a 0) : am_J d 5 28 ls (.ref a :: st) h Q ↔ am_J d 5 31 ls (.int (am_I h a 9) :: st) h Q := j_get (idx := 9) (k := 9) (by decide +kernel) (by decide +kernel) (by decide) (by decide +kernel) rfl O
theorem g5_31   : am_J d 5 31 ls st h Q ↔ am_J d 5 32 ls (.int (nI 1) :: st) h Q := j_iconst (n := 1) (by decide +kernel) (by decide +kernel)
theorem g5_32 {x y : Int32}  : am_J d 5 32 ls (.int y :: .int x :: st) h Q ↔ am_J d 5 33 ls (.int (x + y) :: st) h Q := j_ps (i := .iadd) (k := 1) (by decide +kernel) (fun _ => rfl) rfl
theorem g5_33 {a : Nat} {x : Int32}  (O : am_ob h a 0) (h4 : 4 ≤ a) : am_J d 5 33 ls (.int x :: .ref a :: st) h Q ↔ am_J d 5 36 ls st (am_setI h a 9 x) Q := j_put (idx := 9) (k := 9) (by decide +kernel) (by decide +kernel) (by decide) (by decide +kernel) (Or.inl rfl) rfl O h4
theorem g5_36 : am_J d 5 36 ls [] h Q ↔ Q none h := j_rt (i := .return_) (by decide +kernel) (by rw [show (am_me 5).2.2.1 = none by decide +kernel]; rfl)
end G5
section G6
-- method 6: LoadBook$Cell.isBroken()Z
variable {d : Nat} {ls : am_Lo} {st : List Value} {h : am_H} {Q : Option Value → am_H → Prop} {v0 : Option Value}
theorem g6_0 {a : Nat}  : am_J d 6 0 [some (.ref a)] st h Q ↔ am_J d 6 1 [some (.ref a)] (.ref a :: st) h Q := j_aload (i := .aload_n 0) (by decide +kernel) (Or.inl ⟨0, rfl, rfl, rfl⟩) rfl rfl
theorem g6_1 {a : Nat} (O : am_ob h a 0) : am_J d 6 1 ls (.ref a :: st) h Q ↔ am_J d 6 4 ls (.int (am_I h a 0) :: st) h Q := j_get (idx := 19) (k := 0) (by decide +kernel) (by decide +kernel) (by decide) (by decide +kernel) rfl O
theorem g6_4   : am_J d 6 4 ls st h Q ↔ am_J d 6 5 ls (.int (nI 3) :: st) h Q := j_iconst (n := 3) (by decide +kernel) (by decide +kernel)
theorem g6_5 {x y : Int32} : am_J d 6 5 ls (.int y :: .int x :: st) h Q ↔ (if x = y then am_J d 6 24 ls st h Q else am_J d 6 8 ls st h Q) := j_ic (c := .eq) (off := 19) (by decide +kernel) (by decide +kernel) rfl
theorem g6_8 {a : Nat}  : am_J d 6 8 [some (.ref a)] st h Q ↔ am_J d 6 9 [some (.ref a)] (.ref a :: st) h Q := j_aload (i := .aload_n 0) (by decide +kernel) (Or.inl ⟨0, rfl, rfl, rfl⟩) rfl rfl
theorem g6_9 {a : Nat} (O : am_ob h a 0) : am_J d 6 9 ls (.ref a :: st) h Q ↔ am_J d 6 12 ls (.int (am_I h a 0) :: st) h Q := j_get (idx := 19) (k := 0) (by decide +kernel) (by decide +kernel) (by decide) (by decide +kernel) rfl O
theorem g6_12   : am_J d 6 12 ls st h Q ↔ am_J d 6 13 ls (.int (nI 4) :: st) h Q := j_iconst (n := 4) (by decide +kernel) (by decide +kernel)
theorem g6_13 {x y : Int32} : am_J d 6 13 ls (.int y :: .int x :: st) h Q ↔ (if x = y then am_J d 6 24 ls st h Q else am_J d 6 16 ls st h Q) := j_ic (c := .eq) (off := 11) (by decide +kernel) (by decide +kernel) rfl
theorem g6_16 {a : Nat}  : am_J d 6 16 [some (.ref a)] st h Q ↔ am_J d 6 17 [some (.ref a)] (.ref a :: st) h Q := j_aload (i := .aload_n 0) (by decide +kernel) (Or.inl ⟨0, rfl, rfl, rfl⟩) rfl rfl
theorem g6_17 {a : Nat} (O : am_ob h a 0) : am_J d 6 17 ls (.ref a :: st) h Q ↔ am_J d 6 20 ls (.int (am_I h a 0) :: st) h Q := j_get (idx := 19) (k := 0) (by decide +kernel) (by decide +kernel) (by decide) (by decide +kernel) rfl O
theorem g6_20   : am_J d 6 20 ls st h Q ↔ am_J d 6 21 ls (.int (nI 5) :: st) h Q := j_iconst (n := 5) (by decide +kernel) (by decide +kernel)
theorem g6_21 {x y : Int32} : am_J d 6 21 ls (.int y :: .int x :: st) h Q ↔ (if x = y then am_J d 6 24 ls st h Q else am_J d 6 28 ls st h Q) := j_icN (off := 7) (by decide +kernel) (by decide +kernel)
theorem g6_24   : am_J d 6 24 ls st h Q ↔ am_J d 6 25 ls (.int (nI 1) :: st) h Q := j_iconst (n := 1) (by decide +kernel) (by decide +kernel)
theorem g6_25   : am_J d 6 25 ls st h Q ↔ am_J d 6 29 ls st h Q := j_goto (off := 4) (by decide +kernel) (by decide +kernel)
theorem g6_28   : am_J d 6 28 ls st h Q ↔ am_J d 6 29 ls (.int (nI 0) :: st) h Q := j_iconst (n := 0) (by decide +kernel) (by decide +kernel)
theorem g6_29 {x : Int32} (hx : x = nI 0 ∨ x = nI 1) : am_J d 6 29 ls [.int x] h Q ↔ Q (some (.int x)) h := j_zret (by decide +kernel) (by decide +kernel) hx
end G6
section G7
-- method 7: LoadBook$Cell.setFailed(IIII)V
variable {d : Nat} {ls : am_Lo} {st : List Value} {h : am_H} {Q : Option Value → am_H → Prop} {v0 v1 v2 v3 v4 : Option Value}
theorem g7_0 {a : Nat}  : am_J d 7 0 [some (.ref a), v1, v2, v3, v4] st h Q ↔ am_J d 7 1 [some (.ref a), v1, v2, v3, v4] (.ref a :: st) h Q := j_aload (i := .aload_n 0) (by decide +kernel) (Or.inl ⟨0, rfl, rfl, rfl⟩) rfl rfl
theorem g7_1 {x : Int32}  : am_J d 7 1 [v0, some (.int x), v2, v3, v4] st h Q ↔ am_J d 7 2 [v0, some (.int x), v2, v3, v4] (.int x :: st) h Q := j_lc (i := .iload_n 1) (k := 1) (by decide +kernel) (fun _ => rfl) rfl rfl rfl
theorem g7_2 {a0 : Int32} {b : Nat} (O : am_ob h b 0) : am_J (d + 1) 7 2 ls (.int a0 :: .ref b :: []) h Q ↔ am_J d 3 0 [some (.ref b), some (.int a0)] [] h (fun r h' => am_J (d + 1) 7 5 ls (r.toList ++ []) h' Q) := j_callV (idx := 36) (kd := 0) (mj := 3) (n := 1) (c := 0) (ml := 2) (as := [.int a0]) (rest := []) (by decide +kernel) (by decide +kernel) (by decide) (by decide +kernel) (by decide) rfl rfl (Nat.le_of_ble_eq_true rfl) (Nat.le_of_ble_eq_true rfl) O
theorem g7_5 {a : Nat}  : am_J d 7 5 [some (.ref a), v1, v2, v3, v4] st h Q ↔ am_J d 7 6 [some (.ref a), v1, v2, v3, v4] (.ref a :: st) h Q := j_aload (i := .aload_n 0) (by decide +kernel) (Or.inl ⟨0, rfl, rfl, rfl⟩) rfl rfl
theorem g7_6 {x : Int32}  : am_J d 7 6 [v0, v1, some (.int x), v3, v4] st h Q ↔ am_J d 7 7 [v0, v1, some (.int x), v3, v4] (.int x :: st) h Q := j_lc (i := .iload_n 2) (k := 1) (by decide +kernel) (fun _ => rfl) rfl rfl rfl
theorem g7_7 {a : Nat} {x : Int32}  (O : am_ob h a 0) (h4 : 4 ≤ a) : am_J d 7 7 ls (.int x :: .ref a :: st) h Q ↔ am_J d 7 10 ls st (am_setI h a 4 x) Q := j_put (idx := 40) (k := 4) (by decide +kernel) (by decide +kernel) (by decide) (by decide +kernel) (Or.inl rfl) rfl O h4
theorem g7_10 {a : Nat}  : am_J d 7 10 [some (.ref a), v1, v2, v3, v4] st h Q ↔ am_J d 7 11 [some (.ref a), v1, v2, v3, v4] (.ref a :: st) h Q := j_aload (i := .aload_n 0) (by decide +kernel) (Or.inl ⟨0, rfl, rfl, rfl⟩) rfl rfl
theorem g7_11 {x : Int32}  : am_J d 7 11 [v0, v1, v2, some (.int x), v4] st h Q ↔ am_J d 7 12 [v0, v1, v2, some (.int x), v4] (.int x :: st) h Q := j_lc (i := .iload_n 3) (k := 1) (by decide +kernel) (fun _ => rfl) rfl rfl rfl
theorem g7_12 {a : Nat} {x : Int32}  (O : am_ob h a 0) (h4 : 4 ≤ a) : am_J d 7 12 ls (.int x :: .ref a :: st) h Q ↔ am_J d 7 15 ls st (am_setI h a 5 x) Q := j_put (idx := 43) (k := 5) (by decide +kernel) (by decide +kernel) (by decide) (by decide +kernel) (Or.inl rfl) rfl O h4
theorem g7_15 {a : Nat}  : am_J d 7 15 [some (.ref a), v1, v2, v3, v4] st h Q ↔ am_J d 7 16 [some (.ref a), v1, v2, v3, v4] (.ref a :: st) h Q := j_aload (i := .aload_n 0) (by decide +kernel) (Or.inl ⟨0, rfl, rfl, rfl⟩) rfl rfl
theorem g7_16 {x : Int32}  : am_J d 7 16 [v0, v1, v2, v3, some (.int x)] st h Q ↔ am_J d 7 18 [v0, v1, v2, v3, some (.int x)] (.int x :: st) h Q := j_lc (i := .iload 4) (k := 2) (by decide +kernel) (fun _ => rfl) rfl rfl rfl
theorem g7_18 {a : Nat} {x : Int32}  (O : am_ob h a 0) (h4 : 4 ≤ a) : am_J d 7 18 ls (.int x :: .ref a :: st) h Q ↔ am_J d 7 21 ls st (am_setI h a 6 x) Q := j_put (idx := 46) (k := 6) (by decide +kernel) (by decide +kernel) (by decide) (by decide +kernel) (Or.inl rfl) rfl O h4
theorem g7_21 : am_J d 7 21 ls [] h Q ↔ Q none h := j_rt (i := .return_) (by decide +kernel) (by rw [show (am_me 7).2.2.1 = none by decide +kernel]; rfl)
end G7
section G8
-- method 8: LoadBook$Cell.shownValue()J
variable {d : Nat} {ls : am_Lo} {st : List Value} {h : am_H} {Q : Option Value → am_H → Prop} {v0 : Option Value}
theorem g8_0 {a : Nat}  : am_J d 8 0 [some (.ref a)] st h Q ↔ am_J d 8 1 [some (.ref a)] (.ref a :: st) h Q := j_aload (i := .aload_n 0) (by decide +kernel) (Or.inl ⟨0, rfl, rfl, rfl⟩) rfl rfl
theorem g8_1 {a : Nat} (O : am_ob h a 0) : am_J d 8 1 ls (.ref a :: st) h Q ↔ am_J d 8 4 ls (.int (am_I h a 0) :: st) h Q := j_get (idx := 19) (k := 0) (by decide +kernel) (by decide +kernel) (by decide) (by decide +kernel) rfl O
theorem g8_4   : am_J d 8 4 ls st h Q ↔ am_J d 8 5 ls (.int (nI 1) :: st) h Q := j_iconst (n := 1) (by decide +kernel) (by decide +kernel)
theorem g8_5 {x y : Int32} : am_J d 8 5 ls (.int y :: .int x :: st) h Q ↔ (if x = y then am_J d 8 16 ls st h Q else am_J d 8 8 ls st h Q) := j_ic (c := .eq) (off := 11) (by decide +kernel) (by decide +kernel) rfl
theorem g8_8 {a : Nat}  : am_J d 8 8 [some (.ref a)] st h Q ↔ am_J d 8 9 [some (.ref a)] (.ref a :: st) h Q := j_aload (i := .aload_n 0) (by decide +kernel) (Or.inl ⟨0, rfl, rfl, rfl⟩) rfl rfl
theorem g8_9 {a : Nat} (O : am_ob h a 0) : am_J d 8 9 ls (.ref a :: st) h Q ↔ am_J d 8 12 ls (.int (am_I h a 0) :: st) h Q := j_get (idx := 19) (k := 0) (by decide +kernel) (by decide +kernel) (by decide) (by decide +kernel) rfl O
theorem g8_12   : am_J d 8 12 ls st h Q ↔ am_J d 8 13 ls (.int (nI 2) :: st) h Q := j_iconst (n := 2) (by decide +kernel) (by decide +kernel)
theorem g8_13 {x y : Int32} : am_J d 8 13 ls (.int y :: .int x :: st) h Q ↔ (if x = y then am_J d 8 16 ls st h Q else am_J d 8 23 ls st h Q) := j_icN (off := 10) (by decide +kernel) (by decide +kernel)
theorem g8_16 {a : Nat}  : am_J d 8 16 [some (.ref a)] st h Q ↔ am_J d 8 17 [some (.ref a)] (.ref a :: st) h Q := j_aload (i := .aload_n 0) (by decide +kernel) (Or.inl ⟨0, rfl, rfl, rfl⟩) rfl rfl
theorem g8_17 {a : Nat} (O : am_ob h a 0) : am_J d 8 17 ls (.ref a :: st) h Q ↔ am_J d 8 20 ls (.long (am_L h a 1) :: st) h Q := j_get (idx := 22) (k := 1) (by decide +kernel) (by decide +kernel) (by decide) (by decide +kernel) rfl O
theorem g8_20   : am_J d 8 20 ls st h Q ↔ am_J d 8 24 ls st h Q := j_goto (off := 4) (by decide +kernel) (by decide +kernel)
theorem g8_23   : am_J d 8 23 ls st h Q ↔ am_J d 8 24 ls (.long (lN 0) :: st) h Q := j_ps (i := .lconst 0) (k := 1) (by decide +kernel) (fun _ => rfl) rfl
theorem g8_24 {x : Int64} : am_J d 8 24 ls [.long x] h Q ↔ Q (some (.long x)) h := j_rt (i := .lreturn) (by decide +kernel) (by rw [show (am_me 8).2.2.1 = some .long by decide +kernel]; rfl)
end G8
section G9
-- method 9: LoadBook$Code.<init>(III)V
variable {d : Nat} {ls : am_Lo} {st : List Value} {h : am_H} {Q : Option Value → am_H → Prop} {v0 v1 v2 v3 : Option Value}
theorem g9_0 {a : Nat}  : am_J d 9 0 [some (.ref a), v1, v2, v3] st h Q ↔ am_J d 9 1 [some (.ref a), v1, v2, v3] (.ref a :: st) h Q := j_aload (i := .aload_n 0) (by decide +kernel) (Or.inl ⟨0, rfl, rfl, rfl⟩) rfl rfl
theorem g9_1 {a : Nat}  : am_J (d + 1) 9 1 ls (.ref a :: []) h Q ↔ am_J (d + 1) 9 4 ls [] h Q := j_oinit (m := 0) (n := 0) (idx := 3) (by decide +kernel) (by decide +kernel) (Nat.le_of_ble_eq_true rfl)
theorem g9_4 {a : Nat}  : am_J d 9 4 [some (.ref a), v1, v2, v3] st h Q ↔ am_J d 9 5 [some (.ref a), v1, v2, v3] (.ref a :: st) h Q := j_aload (i := .aload_n 0) (by decide +kernel) (Or.inl ⟨0, rfl, rfl, rfl⟩) rfl rfl
theorem g9_5   : am_J d 9 5 ls st h Q ↔ am_J d 9 6 ls (.int (nI 4) :: st) h Q := j_iconst (n := 4) (by decide +kernel) (by decide +kernel)
theorem g9_6 {q : Nat} (hq : q ≤ 65536) : am_J d 9 6 ls (.int (nI q) :: st) h Q ↔ am_J d 9 8 ls (.ref h.1 :: st) (am_new h (101, q) q) Q := j_newa (t := .long) (by decide +kernel) (by decide +kernel) hq
theorem g9_8 {a : Nat} {x : Option Nat}  (O : am_ob h a 1) (h4 : 4 ≤ a) : am_J d 9 8 ls (va_rf x :: .ref a :: st) h Q ↔ am_J d 9 11 ls st (am_setR h a 4 x) Q := j_put (idx := 9) (k := 4) (by decide +kernel) (by decide +kernel) (by decide) (by decide +kernel) (Or.inr ⟨by decide +kernel, by decide +kernel⟩) (by cases x <;> rfl) O h4
theorem g9_11 {a : Nat}  : am_J d 9 11 [some (.ref a), v1, v2, v3] st h Q ↔ am_J d 9 12 [some (.ref a), v1, v2, v3] (.ref a :: st) h Q := j_aload (i := .aload_n 0) (by decide +kernel) (Or.inl ⟨0, rfl, rfl, rfl⟩) rfl rfl
theorem g9_12 {x : Int32}  : am_J d 9 12 [v0, some (.int x), v2, v3] st h Q ↔ am_J d 9 13 [v0, some (.int x), v2, v3] (.int x :: st) h Q := j_lc (i := .iload_n 1) (k := 1) (by decide +kernel) (fun _ => rfl) rfl rfl rfl
theorem g9_13   : am_J d 9 13 ls st h Q ↔ am_J d 9 14 ls (.int (nI 0) :: st) h Q := j_iconst (n := 0) (by decide +kernel) (by decide +kernel)
theorem g9_14 {x y : Int32} {r0 : Nat}  : am_J (d + 1) 9 14 ls (.int y :: .int x :: [.ref r0]) h Q ↔ am_J (d + 1) 9 17 ls (.int (if x < y then y else x) :: [.ref r0]) h Q := j_max (m := 0) (n := 0) (idx := 15) (by decide +kernel) (by decide +kernel) (Nat.le_of_ble_eq_true rfl)
theorem g9_17 {q : Nat} (hq : q ≤ 65536) : am_J d 9 17 ls (.int (nI q) :: st) h Q ↔ am_J d 9 19 ls (.ref h.1 :: st) (am_new h (103, q) q) Q := j_newa (t := .byte) (by decide +kernel) (by decide +kernel) hq
theorem g9_19 {a : Nat} {x : Option Nat}  (O : am_ob h a 1) (h4 : 4 ≤ a) : am_J d 9 19 ls (va_rf x :: .ref a :: st) h Q ↔ am_J d 9 22 ls st (am_setR h a 0 x) Q := j_put (idx := 21) (k := 0) (by decide +kernel) (by decide +kernel) (by decide) (by decide +kernel) (Or.inr ⟨by decide +kernel, by decide +kernel⟩) (by cases x <;> rfl) O h4
theorem g9_22 {a : Nat}  : am_J d 9 22 [some (.ref a), v1, v2, v3] st h Q ↔ am_J d 9 23 [some (.ref a), v1, v2, v3] (.ref a :: st) h Q := j_aload (i := .aload_n 0) (by decide +kernel) (Or.inl ⟨0, rfl, rfl, rfl⟩) rfl rfl
theorem g9_23 {x : Int32}  : am_J d 9 23 [v0, some (.int x), v2, v3] st h Q ↔ am_J d 9 24 [v0, some (.int x), v2, v3] (.int x :: st) h Q := j_lc (i := .iload_n 1) (k := 1) (by decide +kernel) (fun _ => rfl) rfl rfl rfl
theorem g9_24   : am_J d 9 24 ls st h Q ↔ am_J d 9 25 ls (.int (nI 0) :: st) h Q := j_iconst (n := 0) (by decide +kernel) (by decide +kernel)
theorem g9_25 {x y : Int32} {r0 : Nat}  : am_J (d + 1) 9 25 ls (.int y :: .int x :: [.ref r0]) h Q ↔ am_J (d + 1) 9 28 ls (.int (if x < y then y else x) :: [.ref r0]) h Q := j_max (m := 0) (n := 0) (idx := 15) (by decide +kernel) (by decide +kernel) (Nat.le_of_ble_eq_true rfl)
theorem g9_28 {q : Nat} (hq : q ≤ 65536) : am_J d 9 28 ls (.int (nI q) :: st) h Q ↔ am_J d 9 30 ls (.ref h.1 :: st) (am_new h (101, q) q) Q := j_newa (t := .long) (by decide +kernel) (by decide +kernel) hq
theorem g9_30 {a : Nat} {x : Option Nat}  (O : am_ob h a 1) (h4 : 4 ≤ a) : am_J d 9 30 ls (va_rf x :: .ref a :: st) h Q ↔ am_J d 9 33 ls st (am_setR h a 1 x) Q := j_put (idx := 25) (k := 1) (by decide +kernel) (by decide +kernel) (by decide) (by decide +kernel) (Or.inr ⟨by decide +kernel, by decide +kernel⟩) (by cases x <;> rfl) O h4
theorem g9_33 {a : Nat}  : am_J d 9 33 [some (.ref a), v1, v2, v3] st h Q ↔ am_J d 9 34 [some (.ref a), v1, v2, v3] (.ref a :: st) h Q := j_aload (i := .aload_n 0) (by decide +kernel) (Or.inl ⟨0, rfl, rfl, rfl⟩) rfl rfl
theorem g9_34   : am_J d 9 34 ls st h Q ↔ am_J d 9 37 ls (.ref h.1 :: st) (am_new h (10, 0) 2) Q := j_new (idx := 28) (by decide +kernel) (by decide +kernel) (by decide)
theorem g9_37 {v : Value} (hv : v.category = 1) : am_J d 9 37 ls (v :: st) h Q ↔ am_J d 9 38 ls (v :: v :: st) h Q := j_dup (by decide +kernel) hv
theorem g9_38 {x : Int32}  : am_J d 9 38 [v0, v1, some (.int x), v3] st h Q ↔ am_J d 9 39 [v0, v1, some (.int x), v3] (.int x :: st) h Q := j_lc (i := .iload_n 2) (k := 1) (by decide +kernel) (fun _ => rfl) rfl rfl rfl
theorem g9_39 {r0 : Nat} {r1 : Nat} {a0 : Int32} {b : Nat}  : am_J (d + 1) 9 39 ls (.int a0 :: .ref b :: [.ref r0, .ref r1]) h Q ↔ am_J d 133 0 [some (.ref b), some (.int a0)] [] h (fun r h' => am_J (d + 1) 9 42 ls (r.toList ++ [.ref r0, .ref r1]) h' Q) := j_callI (idx := 30) (kd := 1) (mj := 133) (n := 1) (ml := 2) (as := [.int a0]) (rest := [.ref r0, .ref r1]) (by decide +kernel) (by decide +kernel) (by decide) (by decide +kernel) (by decide) rfl rfl (Nat.le_of_ble_eq_true rfl) (Nat.le_of_ble_eq_true rfl)
theorem g9_42 {a : Nat} {x : Option Nat}  (O : am_ob h a 1) (h4 : 4 ≤ a) : am_J d 9 42 ls (va_rf x :: .ref a :: st) h Q ↔ am_J d 9 45 ls st (am_setR h a 2 x) Q := j_put (idx := 33) (k := 2) (by decide +kernel) (by decide +kernel) (by decide) (by decide +kernel) (Or.inr ⟨by decide +kernel, by decide +kernel⟩) (by cases x <;> rfl) O h4
theorem g9_45 {a : Nat}  : am_J d 9 45 [some (.ref a), v1, v2, v3] st h Q ↔ am_J d 9 46 [some (.ref a), v1, v2, v3] (.ref a :: st) h Q := j_aload (i := .aload_n 0) (by decide +kernel) (Or.inl ⟨0, rfl, rfl, rfl⟩) rfl rfl
theorem g9_46 {x : Int32}  : am_J d 9 46 [v0, v1, v2, some (.int x)] st h Q ↔ am_J d 9 47 [v0, v1, v2, some (.int x)] (.int x :: st) h Q := j_lc (i := .iload_n 3) (k := 1) (by decide +kernel) (fun _ => rfl) rfl rfl rfl
theorem g9_47   : am_J d 9 47 ls st h Q ↔ am_J d 9 48 ls (.int (nI 0) :: st) h Q := j_iconst (n := 0) (by decide +kernel) (by decide +kernel)
theorem g9_48 {x y : Int32} {r0 : Nat}  : am_J (d + 1) 9 48 ls (.int y :: .int x :: [.ref r0]) h Q ↔ am_J (d + 1) 9 51 ls (.int (if x < y then y else x) :: [.ref r0]) h Q := j_max (m := 0) (n := 0) (idx := 15) (by decide +kernel) (by decide +kernel) (Nat.le_of_ble_eq_true rfl)
theorem g9_51 {q : Nat} (hq : q ≤ 65536) : am_J d 9 51 ls (.int (nI q) :: st) h Q ↔ am_J d 9 53 ls (.ref h.1 :: st) (am_new h (100, q) q) Q := j_newa (t := .int) (by decide +kernel) (by decide +kernel) hq
theorem g9_53 {a : Nat} {x : Option Nat}  (O : am_ob h a 1) (h4 : 4 ≤ a) : am_J d 9 53 ls (va_rf x :: .ref a :: st) h Q ↔ am_J d 9 56 ls st (am_setR h a 3 x) Q := j_put (idx := 37) (k := 3) (by decide +kernel) (by decide +kernel) (by decide) (by decide +kernel) (Or.inr ⟨by decide +kernel, by decide +kernel⟩) (by cases x <;> rfl) O h4
theorem g9_56 : am_J d 9 56 ls [] h Q ↔ Q none h := j_rt (i := .return_) (by decide +kernel) (by rw [show (am_me 9).2.2.1 = none by decide +kernel]; rfl)
end G9
section G10
-- method 10: LoadBook$Code.restart()V
variable {d : Nat} {ls : am_Lo} {st : List Value} {h : am_H} {Q : Option Value → am_H → Prop} {v0 v1 : Option Value}
theorem g10_0 {a : Nat}  : am_J d 10 0 [some (.ref a), v1] st h Q ↔ am_J d 10 1 [some (.ref a), v1] (.ref a :: st) h Q := j_aload (i := .aload_n 0) (by decide +kernel) (Or.inl ⟨0, rfl, rfl, rfl⟩) rfl rfl
theorem g10_1   : am_J d 10 1 ls st h Q ↔ am_J d 10 2 ls (.int (nI 0) :: st) h Q := j_iconst (n := 0) (by decide +kernel) (by decide +kernel)
theorem g10_2 {a : Nat} {x : Int32}  (O : am_ob h a 1) (h4 : 4 ≤ a) : am_J d 10 2 ls (.int x :: .ref a :: st) h Q ↔ am_J d 10 5 ls st (am_setI h a 5 x) Q := j_put (idx := 41) (k := 5) (by decide +kernel) (by decide +kernel) (by decide) (by decide +kernel) (Or.inl rfl) rfl O h4
theorem g10_5 {a : Nat}  : am_J d 10 5 [some (.ref a), v1] st h Q ↔ am_J d 10 6 [some (.ref a), v1] (.ref a :: st) h Q := j_aload (i := .aload_n 0) (by decide +kernel) (Or.inl ⟨0, rfl, rfl, rfl⟩) rfl rfl
theorem g10_6   : am_J d 10 6 ls st h Q ↔ am_J d 10 7 ls (.int (nI 0) :: st) h Q := j_iconst (n := 0) (by decide +kernel) (by decide +kernel)
theorem g10_7 {a : Nat} {x : Int32}  (O : am_ob h a 1) (h4 : 4 ≤ a) : am_J d 10 7 ls (.int x :: .ref a :: st) h Q ↔ am_J d 10 10 ls st (am_setI h a 6 x) Q := j_put (idx := 45) (k := 6) (by decide +kernel) (by decide +kernel) (by decide) (by decide +kernel) (Or.inl rfl) rfl O h4
theorem g10_10 {a : Nat}  : am_J d 10 10 [some (.ref a), v1] st h Q ↔ am_J d 10 11 [some (.ref a), v1] (.ref a :: st) h Q := j_aload (i := .aload_n 0) (by decide +kernel) (Or.inl ⟨0, rfl, rfl, rfl⟩) rfl rfl
theorem g10_11   : am_J d 10 11 ls st h Q ↔ am_J d 10 12 ls (.int (nI 0) :: st) h Q := j_iconst (n := 0) (by decide +kernel) (by decide +kernel)
theorem g10_12 {a : Nat} {x : Int32}  (O : am_ob h a 1) (h4 : 4 ≤ a) : am_J d 10 12 ls (.int x :: .ref a :: st) h Q ↔ am_J d 10 15 ls st (am_setI h a 7 x) Q := j_put (idx := 48) (k := 7) (by decide +kernel) (by decide +kernel) (by decide) (by decide +kernel) (Or.inl rfl) rfl O h4
theorem g10_15 {a : Nat}  : am_J d 10 15 [some (.ref a), v1] st h Q ↔ am_J d 10 16 [some (.ref a), v1] (.ref a :: st) h Q := j_aload (i := .aload_n 0) (by decide +kernel) (Or.inl ⟨0, rfl, rfl, rfl⟩) rfl rfl
theorem g10_16   : am_J d 10 16 ls st h Q ↔ am_J d 10 17 ls (.int (nI 0) :: st) h Q := j_iconst (n := 0) (by decide +kernel) (by decide +kernel)
theorem g10_17 {a : Nat} {x : Int32}  (O : am_ob h a 1) (h4 : 4 ≤ a) : am_J d 10 17 ls (.int x :: .ref a :: st) h Q ↔ am_J d 10 20 ls st (am_setI h a 8 x) Q := j_put (idx := 51) (k := 8) (by decide +kernel) (by decide +kernel) (by decide) (by decide +kernel) (Or.inl rfl) rfl O h4
theorem g10_20 {a : Nat}  : am_J d 10 20 [some (.ref a), v1] st h Q ↔ am_J d 10 21 [some (.ref a), v1] (.ref a :: st) h Q := j_aload (i := .aload_n 0) (by decide +kernel) (Or.inl ⟨0, rfl, rfl, rfl⟩) rfl rfl
theorem g10_21 {a : Nat} (O : am_ob h a 1) : am_J d 10 21 ls (.ref a :: st) h Q ↔ am_J d 10 24 ls (va_rf (am_R h a 2) :: st) h Q := j_get (idx := 33) (k := 2) (by decide +kernel) (by decide +kernel) (by decide) (by decide +kernel) rfl O
theorem g10_24   : am_J d 10 24 ls st h Q ↔ am_J d 10 25 ls (.int (nI 0) :: st) h Q := j_iconst (n := 0) (by decide +kernel) (by decide +kernel)
theorem g10_25 {a : Nat} {x : Int32}  (O : am_ob h a 10) (h4 : 4 ≤ a) : am_J d 10 25 ls (.int x :: .ref a :: st) h Q ↔ am_J d 10 28 ls st (am_setI h a 1 x) Q := j_put (idx := 54) (k := 1) (by decide +kernel) (by decide +kernel) (by decide) (by decide +kernel) (Or.inl rfl) rfl O h4
theorem g10_28   : am_J d 10 28 ls st h Q ↔ am_J d 10 29 ls (.int (nI 0) :: st) h Q := j_iconst (n := 0) (by decide +kernel) (by decide +kernel)
theorem g10_29 {x : Int32}  : am_J d 10 29 [v0, v1] (.int x :: st) h Q ↔ am_J d 10 30 [v0, some (.int x)] st h Q := j_lc (i := .istore_n 1) (k := 1) (by decide +kernel) (fun _ => rfl) rfl rfl rfl
theorem g10_30 {x : Int32}  : am_J d 10 30 [v0, some (.int x)] st h Q ↔ am_J d 10 31 [v0, some (.int x)] (.int x :: st) h Q := j_lc (i := .iload_n 1) (k := 1) (by decide +kernel) (fun _ => rfl) rfl rfl rfl
theorem g10_31   : am_J d 10 31 ls st h Q ↔ am_J d 10 32 ls (.int (nI 4) :: st) h Q := j_iconst (n := 4) (by decide +kernel) (by decide +kernel)
theorem g10_32 {x y : Int32} : am_J d 10 32 ls (.int y :: .int x :: st) h Q ↔ (if y ≤ x then am_J d 10 48 ls st h Q else am_J d 10 35 ls st h Q) := j_ic (c := .ge) (off := 16) (by decide +kernel) (by decide +kernel) rfl
theorem g10_35 {a : Nat}  : am_J d 10 35 [some (.ref a), v1] st h Q ↔ am_J d 10 36 [some (.ref a), v1] (.ref a :: st) h Q := j_aload (i := .aload_n 0) (by decide +kernel) (Or.inl ⟨0, rfl, rfl, rfl⟩) rfl rfl
theorem g10_36 {a : Nat} (O : am_ob h a 1) : am_J d 10 36 ls (.ref a :: st) h Q ↔ am_J d 10 39 ls (va_rf (am_R h a 4) :: st) h Q := j_get (idx := 9) (k := 4) (by decide +kernel) (by decide +kernel) (by decide) (by decide +kernel) rfl O
theorem g10_39 {x : Int32}  : am_J d 10 39 [v0, some (.int x)] st h Q ↔ am_J d 10 40 [v0, some (.int x)] (.int x :: st) h Q := j_lc (i := .iload_n 1) (k := 1) (by decide +kernel) (fun _ => rfl) rfl rfl rfl
theorem g10_40   : am_J d 10 40 ls st h Q ↔ am_J d 10 41 ls (.long (lN 0) :: st) h Q := j_ps (i := .lconst 0) (k := 1) (by decide +kernel) (fun _ => rfl) rfl
theorem g10_41 {a q : Nat} {x : Int64}  (X : am_ax h a 101 q) (h4 : 4 ≤ a) : am_J d 10 41 ls (.long x :: .int (nI q) :: .ref a :: st) h Q ↔ am_J d 10 42 ls st (am_setL h a q x) Q := j_ast (i := .lastore) (by decide +kernel) (Or.inr (Or.inl ⟨rfl, rfl⟩)) (by decide) (by decide) rfl X h4
theorem g10_42 {x : Int32}  : am_J d 10 42 [v0, some (.int x)] st h Q ↔ am_J d 10 45 [v0, some (.int (x + nI 1))] st h Q := j_iinc (j := 1) (n := 1) (by decide +kernel) (by decide +kernel) rfl rfl
theorem g10_45   : am_J d 10 45 ls st h Q ↔ am_J d 10 30 ls st h Q := j_goto (off := -15) (by decide +kernel) (by decide +kernel)
theorem g10_48 : am_J d 10 48 ls [] h Q ↔ Q none h := j_rt (i := .return_) (by decide +kernel) (by rw [show (am_me 10).2.2.1 = none by decide +kernel]; rfl)
end G10
section G11
-- method 11: LoadBook$Code.add(IJ)I
variable {d : Nat} {ls : am_Lo} {st : List Value} {h : am_H} {Q : Option Value → am_H → Prop} {v0 v1 v2 v3 : Option Value}
theorem g11_0 {a : Nat}  : am_J d 11 0 [some (.ref a), v1, v2, v3] st h Q ↔ am_J d 11 1 [some (.ref a), v1, v2, v3] (.ref a :: st) h Q := j_aload (i := .aload_n 0) (by decide +kernel) (Or.inl ⟨0, rfl, rfl, rfl⟩) rfl rfl
theorem g11_1 {a : Nat} (O : am_ob h a 1) : am_J d 11 1 ls (.ref a :: st) h Q ↔ am_J d 11 4 ls (.int (am_I h a 5) :: st) h Q := j_get (idx := 41) (k := 5) (by decide +kernel) (by decide +kernel) (by decide) (by decide +kernel) rfl O
theorem g11_4 {a : Nat}  : am_J d 11 4 [some (.ref a), v1, v2, v3] st h Q ↔ am_J d 11 5 [some (.ref a), v1, v2, v3] (.ref a :: st) h Q := j_aload (i := .aload_n 0) (by decide +kernel) (Or.inl ⟨0, rfl, rfl, rfl⟩) rfl rfl
theorem g11_5 {a : Nat} (O : am_ob h a 1) : am_J d 11 5 ls (.ref a :: st) h Q ↔ am_J d 11 8 ls (va_rf (am_R h a 0) :: st) h Q := j_get (idx := 21) (k := 0) (by decide +kernel) (by decide +kernel) (by decide) (by decide +kernel) rfl O
theorem g11_8 {a : Nat} (h1 : a < h.1) (h2 : 100 ≤ (am_tg h a).1) : am_J d 11 8 ls (.ref a :: st) h Q ↔ am_J d 11 9 ls (.int (nI (am_tg h a).2) :: st) h Q := j_alen (by decide +kernel) h1 h2
theorem g11_9 {x y : Int32} : am_J d 11 9 ls (.int y :: .int x :: st) h Q ↔ (if y ≤ x then am_J d 11 43 ls st h Q else am_J d 11 12 ls st h Q) := j_ic (c := .ge) (off := 34) (by decide +kernel) (by decide +kernel) rfl
theorem g11_12 {a : Nat}  : am_J d 11 12 [some (.ref a), v1, v2, v3] st h Q ↔ am_J d 11 13 [some (.ref a), v1, v2, v3] (.ref a :: st) h Q := j_aload (i := .aload_n 0) (by decide +kernel) (Or.inl ⟨0, rfl, rfl, rfl⟩) rfl rfl
theorem g11_13 {a : Nat} (O : am_ob h a 1) : am_J d 11 13 ls (.ref a :: st) h Q ↔ am_J d 11 16 ls (va_rf (am_R h a 0) :: st) h Q := j_get (idx := 21) (k := 0) (by decide +kernel) (by decide +kernel) (by decide) (by decide +kernel) rfl O
theorem g11_16 {a : Nat}  : am_J d 11 16 [some (.ref a), v1, v2, v3] st h Q ↔ am_J d 11 17 [some (.ref a), v1, v2, v3] (.ref a :: st) h Q := j_aload (i := .aload_n 0) (by decide +kernel) (Or.inl ⟨0, rfl, rfl, rfl⟩) rfl rfl
theorem g11_17 {a : Nat} (O : am_ob h a 1) : am_J d 11 17 ls (.ref a :: st) h Q ↔ am_J d 11 20 ls (.int (am_I h a 5) :: st) h Q := j_get (idx := 41) (k := 5) (by decide +kernel) (by decide +kernel) (by decide) (by decide +kernel) rfl O
theorem g11_20 {x : Int32}  : am_J d 11 20 [v0, some (.int x), v2, v3] st h Q ↔ am_J d 11 21 [v0, some (.int x), v2, v3] (.int x :: st) h Q := j_lc (i := .iload_n 1) (k := 1) (by decide +kernel) (fun _ => rfl) rfl rfl rfl
theorem g11_21 {x : Int32}  : am_J d 11 21 ls (.int x :: st) h Q ↔ am_J d 11 22 ls (.int (x.toInt8.toInt32) :: st) h Q := j_ps (i := .i2b) (k := 1) (by decide +kernel) (fun _ => rfl) rfl
theorem g11_22 {a q : Nat} {x : Int32}  (X : am_ax h a 103 q) (h4 : 4 ≤ a) : am_J d 11 22 ls (.int x :: .int (nI q) :: .ref a :: st) h Q ↔ am_J d 11 23 ls st (am_setI h a q x.toInt8.toInt32) Q := j_ast (i := .bastore) (by decide +kernel) (Or.inr (Or.inr (Or.inr ⟨rfl, rfl⟩))) (by decide) (by decide) rfl X h4
theorem g11_23 {a : Nat}  : am_J d 11 23 [some (.ref a), v1, v2, v3] st h Q ↔ am_J d 11 24 [some (.ref a), v1, v2, v3] (.ref a :: st) h Q := j_aload (i := .aload_n 0) (by decide +kernel) (Or.inl ⟨0, rfl, rfl, rfl⟩) rfl rfl
theorem g11_24 {a : Nat} (O : am_ob h a 1) : am_J d 11 24 ls (.ref a :: st) h Q ↔ am_J d 11 27 ls (va_rf (am_R h a 1) :: st) h Q := j_get (idx := 25) (k := 1) (by decide +kernel) (by decide +kernel) (by decide) (by decide +kernel) rfl O
theorem g11_27 {a : Nat}  : am_J d 11 27 [some (.ref a), v1, v2, v3] st h Q ↔ am_J d 11 28 [some (.ref a), v1, v2, v3] (.ref a :: st) h Q := j_aload (i := .aload_n 0) (by decide +kernel) (Or.inl ⟨0, rfl, rfl, rfl⟩) rfl rfl
theorem g11_28 {a : Nat} (O : am_ob h a 1) : am_J d 11 28 ls (.ref a :: st) h Q ↔ am_J d 11 31 ls (.int (am_I h a 5) :: st) h Q := j_get (idx := 41) (k := 5) (by decide +kernel) (by decide +kernel) (by decide) (by decide +kernel) rfl O
theorem g11_31 {x : Int64}  : am_J d 11 31 [v0, v1, some (.long x), none] st h Q ↔ am_J d 11 32 [v0, v1, some (.long x), none] (.long x :: st) h Q := j_lc (i := .lload_n 2) (k := 1) (by decide +kernel) (fun _ => rfl) rfl rfl rfl
theorem g11_32 {a q : Nat} {x : Int64}  (X : am_ax h a 101 q) (h4 : 4 ≤ a) : am_J d 11 32 ls (.long x :: .int (nI q) :: .ref a :: st) h Q ↔ am_J d 11 33 ls st (am_setL h a q x) Q := j_ast (i := .lastore) (by decide +kernel) (Or.inr (Or.inl ⟨rfl, rfl⟩)) (by decide) (by decide) rfl X h4
theorem g11_33 {a : Nat}  : am_J d 11 33 [some (.ref a), v1, v2, v3] st h Q ↔ am_J d 11 34 [some (.ref a), v1, v2, v3] (.ref a :: st) h Q := j_aload (i := .aload_n 0) (by decide +kernel) (Or.inl ⟨0, rfl, rfl, rfl⟩) rfl rfl
theorem g11_34 {v : Value} (hv : v.category = 1) : am_J d 11 34 ls (v :: st) h Q ↔ am_J d 11 35 ls (v :: v :: st) h Q := j_dup (by decide +kernel) hv
theorem g11_35 {a : Nat} (O : am_ob h a 1) : am_J d 11 35 ls (.ref a :: st) h Q ↔ am_J d 11 38 ls (.int (am_I h a 5) :: st) h Q := j_get (idx := 41) (k := 5) (by decide +kernel) (by decide +kernel) (by decide) (by decide +kernel) rfl O
theorem g11_38   : am_J d 11 38 ls st h Q ↔ am_J d 11 39 ls (.int (nI 1) :: st) h Q := j_iconst (n := 1) (by decide +kernel) (by decide +kernel)
theorem g11_39 {x y : Int32}  : am_J d 11 39 ls (.int y :: .int x :: st) h Q ↔ am_J d 11 40 ls (.int (x + y) :: st) h Q := j_ps (i := .iadd) (k := 1) (by decide +kernel) (fun _ => rfl) rfl
theorem g11_40 {a : Nat} {x : Int32}  (O : am_ob h a 1) (h4 : 4 ≤ a) : am_J d 11 40 ls (.int x :: .ref a :: st) h Q ↔ am_J d 11 43 ls st (am_setI h a 5 x) Q := j_put (idx := 41) (k := 5) (by decide +kernel) (by decide +kernel) (by decide) (by decide +kernel) (Or.inl rfl) rfl O h4
theorem g11_43 {a : Nat}  : am_J d 11 43 [some (.ref a), v1, v2, v3] st h Q ↔ am_J d 11 44 [some (.ref a), v1, v2, v3] (.ref a :: st) h Q := j_aload (i := .aload_n 0) (by decide +kernel) (Or.inl ⟨0, rfl, rfl, rfl⟩) rfl rfl
theorem g11_44 {a : Nat} (O : am_ob h a 1) : am_J d 11 44 ls (.ref a :: st) h Q ↔ am_J d 11 47 ls (.int (am_I h a 5) :: st) h Q := j_get (idx := 41) (k := 5) (by decide +kernel) (by decide +kernel) (by decide) (by decide +kernel) rfl O
theorem g11_47   : am_J d 11 47 ls st h Q ↔ am_J d 11 48 ls (.int (nI 1) :: st) h Q := j_iconst (n := 1) (by decide +kernel) (by decide +kernel)
theorem g11_48 {x y : Int32}  : am_J d 11 48 ls (.int y :: .int x :: st) h Q ↔ am_J d 11 49 ls (.int (x - y) :: st) h Q := j_ps (i := .isub) (k := 1) (by decide +kernel) (fun _ => rfl) rfl
theorem g11_49 {x : Int32}  : am_J d 11 49 ls [.int x] h Q ↔ Q (some (.int x)) h := j_iret (by decide +kernel) (by decide +kernel)
end G11
section G12
-- method 12: LoadBook$Code.addNeed(I)V
variable {d : Nat} {ls : am_Lo} {st : List Value} {h : am_H} {Q : Option Value → am_H → Prop} {v0 v1 : Option Value}
theorem g12_0 {x : Int32}  : am_J d 12 0 [v0, some (.int x)] st h Q ↔ am_J d 12 1 [v0, some (.int x)] (.int x :: st) h Q := j_lc (i := .iload_n 1) (k := 1) (by decide +kernel) (fun _ => rfl) rfl rfl rfl
theorem g12_1 {a0 : Int32}  : am_J (d + 1) 12 1 ls (.int a0 :: []) h Q ↔ am_J d 142 0 [some (.int a0)] [] h (fun r h' => am_J (d + 1) 12 4 ls (r.toList ++ []) h' Q) := j_callS (idx := 55) (kd := 12) (mj := 142) (n := 1) (ml := 1) (as := [.int a0]) (rest := []) (by decide +kernel) (by decide +kernel) (by decide) (by decide +kernel) (by decide) rfl rfl (Nat.le_of_ble_eq_true rfl) (Nat.le_of_ble_eq_true rfl)
theorem g12_4 {x : Int32} : am_J d 12 4 ls (.int x :: st) h Q ↔ (if x = 0 then am_J d 12 7 ls st h Q else am_J d 12 27 ls st h Q) := j_ifN (off := 23) (by decide +kernel) (by decide +kernel)
theorem g12_7 {a : Nat}  : am_J d 12 7 [some (.ref a), v1] st h Q ↔ am_J d 12 8 [some (.ref a), v1] (.ref a :: st) h Q := j_aload (i := .aload_n 0) (by decide +kernel) (Or.inl ⟨0, rfl, rfl, rfl⟩) rfl rfl
theorem g12_8 {x : Int32}  : am_J d 12 8 [v0, some (.int x)] st h Q ↔ am_J d 12 9 [v0, some (.int x)] (.int x :: st) h Q := j_lc (i := .iload_n 1) (k := 1) (by decide +kernel) (fun _ => rfl) rfl rfl rfl
theorem g12_9 {a0 : Int32} {b : Nat} (O : am_ob h b 1) : am_J (d + 1) 12 9 ls (.int a0 :: .ref b :: []) h Q ↔ am_J d 13 0 [some (.ref b), some (.int a0)] [] h (fun r h' => am_J (d + 1) 12 12 ls (r.toList ++ []) h' Q) := j_callV (idx := 59) (kd := 0) (mj := 13) (n := 1) (c := 1) (ml := 2) (as := [.int a0]) (rest := []) (by decide +kernel) (by decide +kernel) (by decide) (by decide +kernel) (by decide) rfl rfl (Nat.le_of_ble_eq_true rfl) (Nat.le_of_ble_eq_true rfl) O
theorem g12_12 {x : Int32} : am_J d 12 12 ls (.int x :: st) h Q ↔ (if x = 0 then am_J d 12 15 ls st h Q else am_J d 12 27 ls st h Q) := j_ifN (off := 15) (by decide +kernel) (by decide +kernel)
theorem g12_15 {a : Nat}  : am_J d 12 15 [some (.ref a), v1] st h Q ↔ am_J d 12 16 [some (.ref a), v1] (.ref a :: st) h Q := j_aload (i := .aload_n 0) (by decide +kernel) (Or.inl ⟨0, rfl, rfl, rfl⟩) rfl rfl
theorem g12_16 {a : Nat} (O : am_ob h a 1) : am_J d 12 16 ls (.ref a :: st) h Q ↔ am_J d 12 19 ls (.int (am_I h a 6) :: st) h Q := j_get (idx := 45) (k := 6) (by decide +kernel) (by decide +kernel) (by decide) (by decide +kernel) rfl O
theorem g12_19 {a : Nat}  : am_J d 12 19 [some (.ref a), v1] st h Q ↔ am_J d 12 20 [some (.ref a), v1] (.ref a :: st) h Q := j_aload (i := .aload_n 0) (by decide +kernel) (Or.inl ⟨0, rfl, rfl, rfl⟩) rfl rfl
theorem g12_20 {a : Nat} (O : am_ob h a 1) : am_J d 12 20 ls (.ref a :: st) h Q ↔ am_J d 12 23 ls (va_rf (am_R h a 3) :: st) h Q := j_get (idx := 37) (k := 3) (by decide +kernel) (by decide +kernel) (by decide) (by decide +kernel) rfl O
theorem g12_23 {a : Nat} (h1 : a < h.1) (h2 : 100 ≤ (am_tg h a).1) : am_J d 12 23 ls (.ref a :: st) h Q ↔ am_J d 12 24 ls (.int (nI (am_tg h a).2) :: st) h Q := j_alen (by decide +kernel) h1 h2
theorem g12_24 {x y : Int32} : am_J d 12 24 ls (.int y :: .int x :: st) h Q ↔ (if x < y then am_J d 12 28 ls st h Q else am_J d 12 27 ls st h Q) := j_ic (c := .lt) (off := 4) (by decide +kernel) (by decide +kernel) rfl
theorem g12_27 : am_J d 12 27 ls [] h Q ↔ Q none h := j_rt (i := .return_) (by decide +kernel) (by rw [show (am_me 12).2.2.1 = none by decide +kernel]; rfl)
theorem g12_28 {a : Nat}  : am_J d 12 28 [some (.ref a), v1] st h Q ↔ am_J d 12 29 [some (.ref a), v1] (.ref a :: st) h Q := j_aload (i := .aload_n 0) (by decide +kernel) (Or.inl ⟨0, rfl, rfl, rfl⟩) rfl rfl
theorem g12_29 {a : Nat} (O : am_ob h a 1) : am_J d 12 29 ls (.ref a :: st) h Q ↔ am_J d 12 32 ls (va_rf (am_R h a 4) :: st) h Q := j_get (idx := 9) (k := 4) (by decide +kernel) (by decide +kernel) (by decide) (by decide +kernel) rfl O
theorem g12_32 {x : Int32}  : am_J d 12 32 [v0, some (.int x)] st h Q ↔ am_J d 12 33 [v0, some (.int x)] (.int x :: st) h Q := j_lc (i := .iload_n 1) (k := 1) (by decide +kernel) (fun _ => rfl) rfl rfl rfl
theorem g12_33   : am_J d 12 33 ls st h Q ↔ am_J d 12 35 ls (.int (nI 6) :: st) h Q := j_bipush (n := 6) (by decide +kernel) (by decide +kernel)
theorem g12_35 {x y : Int32}  : am_J d 12 35 ls (.int y :: .int x :: st) h Q ↔ am_J d 12 36 ls (.int (x >>> (y &&& 31)) :: st) h Q := j_ps (i := .ishr) (k := 1) (by decide +kernel) (fun _ => rfl) rfl
theorem g12_36 {j : Int32} {a : Nat}  : am_J d 12 36 ls (.int j :: .ref a :: st) h Q ↔ am_J d 12 37 ls (.int j :: .ref a :: .int j :: .ref a :: st) h Q := j_ps (i := .dup2) (k := 1) (by decide +kernel) (fun _ => rfl) rfl
theorem g12_37 {a q : Nat} (X : am_ax h a 101 q) : am_J d 12 37 ls (.int (nI q) :: .ref a :: st) h Q ↔ am_J d 12 38 ls (.long (am_L h a q) :: st) h Q := j_ald (i := .laload) (by decide +kernel) (Or.inr (Or.inl ⟨rfl, rfl⟩)) (by decide) (by decide) rfl X
theorem g12_38   : am_J d 12 38 ls st h Q ↔ am_J d 12 39 ls (.long (lN 1) :: st) h Q := j_ps (i := .lconst 1) (k := 1) (by decide +kernel) (fun _ => rfl) rfl
theorem g12_39 {x : Int32}  : am_J d 12 39 [v0, some (.int x)] st h Q ↔ am_J d 12 40 [v0, some (.int x)] (.int x :: st) h Q := j_lc (i := .iload_n 1) (k := 1) (by decide +kernel) (fun _ => rfl) rfl rfl rfl
theorem g12_40   : am_J d 12 40 ls st h Q ↔ am_J d 12 42 ls (.int (nI 63) :: st) h Q := j_bipush (n := 63) (by decide +kernel) (by decide +kernel)
theorem g12_42 {x y : Int32}  : am_J d 12 42 ls (.int y :: .int x :: st) h Q ↔ am_J d 12 43 ls (.int (x &&& y) :: st) h Q := j_ps (i := .iand) (k := 1) (by decide +kernel) (fun _ => rfl) rfl
theorem g12_43 {x : Int64} {y : Int32}  : am_J d 12 43 ls (.int y :: .long x :: st) h Q ↔ am_J d 12 44 ls (.long (x <<< (y.toInt64 &&& 63)) :: st) h Q := j_ps (i := .lshl) (k := 1) (by decide +kernel) (fun _ => rfl) rfl
theorem g12_44 {x y : Int64}  : am_J d 12 44 ls (.long y :: .long x :: st) h Q ↔ am_J d 12 45 ls (.long (x ||| y) :: st) h Q := j_ps (i := .lor) (k := 1) (by decide +kernel) (fun _ => rfl) rfl
theorem g12_45 {a q : Nat} {x : Int64}  (X : am_ax h a 101 q) (h4 : 4 ≤ a) : am_J d 12 45 ls (.long x :: .int (nI q) :: .ref a :: st) h Q ↔ am_J d 12 46 ls st (am_setL h a q x) Q := j_ast (i := .lastore) (by decide +kernel) (Or.inr (Or.inl ⟨rfl, rfl⟩)) (by decide) (by decide) rfl X h4
theorem g12_46 {a : Nat}  : am_J d 12 46 [some (.ref a), v1] st h Q ↔ am_J d 12 47 [some (.ref a), v1] (.ref a :: st) h Q := j_aload (i := .aload_n 0) (by decide +kernel) (Or.inl ⟨0, rfl, rfl, rfl⟩) rfl rfl
theorem g12_47 {a : Nat} (O : am_ob h a 1) : am_J d 12 47 ls (.ref a :: st) h Q ↔ am_J d 12 50 ls (va_rf (am_R h a 3) :: st) h Q := j_get (idx := 37) (k := 3) (by decide +kernel) (by decide +kernel) (by decide) (by decide +kernel) rfl O
theorem g12_50 {a : Nat}  : am_J d 12 50 [some (.ref a), v1] st h Q ↔ am_J d 12 51 [some (.ref a), v1] (.ref a :: st) h Q := j_aload (i := .aload_n 0) (by decide +kernel) (Or.inl ⟨0, rfl, rfl, rfl⟩) rfl rfl
theorem g12_51 {a : Nat} (O : am_ob h a 1) : am_J d 12 51 ls (.ref a :: st) h Q ↔ am_J d 12 54 ls (.int (am_I h a 6) :: st) h Q := j_get (idx := 45) (k := 6) (by decide +kernel) (by decide +kernel) (by decide) (by decide +kernel) rfl O
theorem g12_54 {x : Int32}  : am_J d 12 54 [v0, some (.int x)] st h Q ↔ am_J d 12 55 [v0, some (.int x)] (.int x :: st) h Q := j_lc (i := .iload_n 1) (k := 1) (by decide +kernel) (fun _ => rfl) rfl rfl rfl
theorem g12_55 {a q : Nat} {x : Int32}  (X : am_ax h a 100 q) (h4 : 4 ≤ a) : am_J d 12 55 ls (.int x :: .int (nI q) :: .ref a :: st) h Q ↔ am_J d 12 56 ls st (am_setI h a q x) Q := j_ast (i := .iastore) (by decide +kernel) (Or.inl ⟨rfl, rfl⟩) (by decide) (by decide) rfl X h4
theorem g12_56 {a : Nat}  : am_J d 12 56 [some (.ref a), v1] st h Q ↔ am_J d 12 57 [some (.ref a), v1] (.ref a :: st) h Q := j_aload (i := .aload_n 0) (by decide +kernel) (Or.inl ⟨0, rfl, rfl, rfl⟩) rfl rfl
theorem g12_57 {v : Value} (hv : v.category = 1) : am_J d 12 57 ls (v :: st) h Q ↔ am_J d 12 58 ls (v :: v :: st) h Q := j_dup (by decide +kernel) hv
theorem g12_58 {a : Nat} (O : am_ob h a 1) : am_J d 12 58 ls (.ref a :: st) h Q ↔ am_J d 12 61 ls (.int (am_I h a 6) :: st) h Q := j_get (idx := 45) (k := 6) (by decide +kernel) (by decide +kernel) (by decide) (by decide +kernel) rfl O
theorem g12_61   : am_J d 12 61 ls st h Q ↔ am_J d 12 62 ls (.int (nI 1) :: st) h Q := j_iconst (n := 1) (by decide +kernel) (by decide +kernel)
theorem g12_62 {x y : Int32}  : am_J d 12 62 ls (.int y :: .int x :: st) h Q ↔ am_J d 12 63 ls (.int (x + y) :: st) h Q := j_ps (i := .iadd) (k := 1) (by decide +kernel) (fun _ => rfl) rfl
theorem g12_63 {a : Nat} {x : Int32}  (O : am_ob h a 1) (h4 : 4 ≤ a) : am_J d 12 63 ls (.int x :: .ref a :: st) h Q ↔ am_J d 12 66 ls st (am_setI h a 6 x) Q := j_put (idx := 45) (k := 6) (by decide +kernel) (by decide +kernel) (by decide) (by decide +kernel) (Or.inl rfl) rfl O h4
theorem g12_66 : am_J d 12 66 ls [] h Q ↔ Q none h := j_rt (i := .return_) (by decide +kernel) (by rw [show (am_me 12).2.2.1 = none by decide +kernel]; rfl)
end G12
section G13
-- method 13: LoadBook$Code.hasNeed(I)Z
variable {d : Nat} {ls : am_Lo} {st : List Value} {h : am_H} {Q : Option Value → am_H → Prop} {v0 v1 : Option Value}
theorem g13_0 {x : Int32}  : am_J d 13 0 [v0, some (.int x)] st h Q ↔ am_J d 13 1 [v0, some (.int x)] (.int x :: st) h Q := j_lc (i := .iload_n 1) (k := 1) (by decide +kernel) (fun _ => rfl) rfl rfl rfl
theorem g13_1 {a0 : Int32}  : am_J (d + 1) 13 1 ls (.int a0 :: []) h Q ↔ am_J d 142 0 [some (.int a0)] [] h (fun r h' => am_J (d + 1) 13 4 ls (r.toList ++ []) h' Q) := j_callS (idx := 55) (kd := 12) (mj := 142) (n := 1) (ml := 1) (as := [.int a0]) (rest := []) (by decide +kernel) (by decide +kernel) (by decide) (by decide +kernel) (by decide) rfl rfl (Nat.le_of_ble_eq_true rfl) (Nat.le_of_ble_eq_true rfl)
theorem g13_4 {x : Int32} : am_J d 13 4 ls (.int x :: st) h Q ↔ (if x = 0 then am_J d 13 7 ls st h Q else am_J d 13 32 ls st h Q) := j_ifN (off := 28) (by decide +kernel) (by decide +kernel)
theorem g13_7 {a : Nat}  : am_J d 13 7 [some (.ref a), v1] st h Q ↔ am_J d 13 8 [some (.ref a), v1] (.ref a :: st) h Q := j_aload (i := .aload_n 0) (by decide +kernel) (Or.inl ⟨0, rfl, rfl, rfl⟩) rfl rfl
theorem g13_8 {a : Nat} (O : am_ob h a 1) : am_J d 13 8 ls (.ref a :: st) h Q ↔ am_J d 13 11 ls (va_rf (am_R h a 4) :: st) h Q := j_get (idx := 9) (k := 4) (by decide +kernel) (by decide +kernel) (by decide) (by decide +kernel) rfl O
theorem g13_11 {x : Int32}  : am_J d 13 11 [v0, some (.int x)] st h Q ↔ am_J d 13 12 [v0, some (.int x)] (.int x :: st) h Q := j_lc (i := .iload_n 1) (k := 1) (by decide +kernel) (fun _ => rfl) rfl rfl rfl
theorem g13_12   : am_J d 13 12 ls st h Q ↔ am_J d 13 14 ls (.int (nI 6) :: st) h Q := j_bipush (n := 6) (by decide +kernel) (by decide +kernel)
theorem g13_14 {x y : Int32}  : am_J d 13 14 ls (.int y :: .int x :: st) h Q ↔ am_J d 13 15 ls (.int (x >>> (y &&& 31)) :: st) h Q := j_ps (i := .ishr) (k := 1) (by decide +kernel) (fun _ => rfl) rfl
theorem g13_15 {a q : Nat} (X : am_ax h a 101 q) : am_J d 13 15 ls (.int (nI q) :: .ref a :: st) h Q ↔ am_J d 13 16 ls (.long (am_L h a q) :: st) h Q := j_ald (i := .laload) (by decide +kernel) (Or.inr (Or.inl ⟨rfl, rfl⟩)) (by decide) (by decide) rfl X
theorem g13_16 {x : Int32}  : am_J d 13 16 [v0, some (.int x)] st h Q ↔ am_J d 13 17 [v0, some (.int x)] (.int x :: st) h Q := j_lc (i := .iload_n 1) (k := 1) (by decide +kernel) (fun _ => rfl) rfl rfl rfl
theorem g13_17   : am_J d 13 17 ls st h Q ↔ am_J d 13 19 ls (.int (nI 63) :: st) h Q := j_bipush (n := 63) (by decide +kernel) (by decide +kernel)
theorem g13_19 {x y : Int32}  : am_J d 13 19 ls (.int y :: .int x :: st) h Q ↔ am_J d 13 20 ls (.int (x &&& y) :: st) h Q := j_ps (i := .iand) (k := 1) (by decide +kernel) (fun _ => rfl) rfl
theorem g13_20 {x : Int64} {y : Int32}  : am_J d 13 20 ls (.int y :: .long x :: st) h Q ↔ am_J d 13 21 ls (.long ((x.toUInt64 >>> (y.toInt64.toUInt64 &&& Int64.toUInt64 63)).toInt64) :: st) h Q := j_ps (i := .lushr) (k := 1) (by decide +kernel) (fun _ => rfl) rfl
theorem g13_21   : am_J d 13 21 ls st h Q ↔ am_J d 13 22 ls (.long (lN 1) :: st) h Q := j_ps (i := .lconst 1) (k := 1) (by decide +kernel) (fun _ => rfl) rfl
theorem g13_22 {x y : Int64}  : am_J d 13 22 ls (.long y :: .long x :: st) h Q ↔ am_J d 13 23 ls (.long (x &&& y) :: st) h Q := j_ps (i := .land) (k := 1) (by decide +kernel) (fun _ => rfl) rfl
theorem g13_23   : am_J d 13 23 ls st h Q ↔ am_J d 13 24 ls (.long (lN 0) :: st) h Q := j_ps (i := .lconst 0) (k := 1) (by decide +kernel) (fun _ => rfl) rfl
theorem g13_24 {x y : Int64}  : am_J d 13 24 ls (.long y :: .long x :: st) h Q ↔ am_J d 13 25 ls (.int (lg_cmp x y) :: st) h Q := j_ps (i := .lcmp) (k := 1) (by decide +kernel) (fun _ => rfl) rfl
theorem g13_25 {x : Int32} : am_J d 13 25 ls (.int x :: st) h Q ↔ (if x = 0 then am_J d 13 32 ls st h Q else am_J d 13 28 ls st h Q) := j_if (c := .eq) (off := 7) (by decide +kernel) (by decide +kernel) rfl
theorem g13_28   : am_J d 13 28 ls st h Q ↔ am_J d 13 29 ls (.int (nI 1) :: st) h Q := j_iconst (n := 1) (by decide +kernel) (by decide +kernel)
theorem g13_29   : am_J d 13 29 ls st h Q ↔ am_J d 13 33 ls st h Q := j_goto (off := 4) (by decide +kernel) (by decide +kernel)
theorem g13_32   : am_J d 13 32 ls st h Q ↔ am_J d 13 33 ls (.int (nI 0) :: st) h Q := j_iconst (n := 0) (by decide +kernel) (by decide +kernel)
theorem g13_33 {x : Int32} (hx : x = nI 0 ∨ x = nI 1) : am_J d 13 33 ls [.int x] h Q ↔ Q (some (.int x)) h := j_zret (by decide +kernel) (by decide +kernel) hx
end G13
section G14
-- method 14: LoadBook$Code.aim(I)V
variable {d : Nat} {ls : am_Lo} {st : List Value} {h : am_H} {Q : Option Value → am_H → Prop} {v0 v1 : Option Value}
theorem g14_0 {x : Int32}  : am_J d 14 0 [v0, some (.int x)] st h Q ↔ am_J d 14 1 [v0, some (.int x)] (.int x :: st) h Q := j_lc (i := .iload_n 1) (k := 1) (by decide +kernel) (fun _ => rfl) rfl rfl rfl
theorem g14_1 {x : Int32} : am_J d 14 1 ls (.int x :: st) h Q ↔ (if x < 0 then am_J d 14 27 ls st h Q else am_J d 14 4 ls st h Q) := j_if (c := .lt) (off := 26) (by decide +kernel) (by decide +kernel) rfl
theorem g14_4 {x : Int32}  : am_J d 14 4 [v0, some (.int x)] st h Q ↔ am_J d 14 5 [v0, some (.int x)] (.int x :: st) h Q := j_lc (i := .iload_n 1) (k := 1) (by decide +kernel) (fun _ => rfl) rfl rfl rfl
theorem g14_5 {a : Nat}  : am_J d 14 5 [some (.ref a), v1] st h Q ↔ am_J d 14 6 [some (.ref a), v1] (.ref a :: st) h Q := j_aload (i := .aload_n 0) (by decide +kernel) (Or.inl ⟨0, rfl, rfl, rfl⟩) rfl rfl
theorem g14_6 {a : Nat} (O : am_ob h a 1) : am_J d 14 6 ls (.ref a :: st) h Q ↔ am_J d 14 9 ls (.int (am_I h a 5) :: st) h Q := j_get (idx := 41) (k := 5) (by decide +kernel) (by decide +kernel) (by decide) (by decide +kernel) rfl O
theorem g14_9 {x y : Int32} : am_J d 14 9 ls (.int y :: .int x :: st) h Q ↔ (if y ≤ x then am_J d 14 27 ls st h Q else am_J d 14 12 ls st h Q) := j_ic (c := .ge) (off := 18) (by decide +kernel) (by decide +kernel) rfl
theorem g14_12 {a : Nat}  : am_J d 14 12 [some (.ref a), v1] st h Q ↔ am_J d 14 13 [some (.ref a), v1] (.ref a :: st) h Q := j_aload (i := .aload_n 0) (by decide +kernel) (Or.inl ⟨0, rfl, rfl, rfl⟩) rfl rfl
theorem g14_13 {a : Nat} (O : am_ob h a 1) : am_J d 14 13 ls (.ref a :: st) h Q ↔ am_J d 14 16 ls (va_rf (am_R h a 1) :: st) h Q := j_get (idx := 25) (k := 1) (by decide +kernel) (by decide +kernel) (by decide) (by decide +kernel) rfl O
theorem g14_16 {x : Int32}  : am_J d 14 16 [v0, some (.int x)] st h Q ↔ am_J d 14 17 [v0, some (.int x)] (.int x :: st) h Q := j_lc (i := .iload_n 1) (k := 1) (by decide +kernel) (fun _ => rfl) rfl rfl rfl
theorem g14_17 {a : Nat}  : am_J d 14 17 [some (.ref a), v1] st h Q ↔ am_J d 14 18 [some (.ref a), v1] (.ref a :: st) h Q := j_aload (i := .aload_n 0) (by decide +kernel) (Or.inl ⟨0, rfl, rfl, rfl⟩) rfl rfl
theorem g14_18 {a : Nat} (O : am_ob h a 1) : am_J d 14 18 ls (.ref a :: st) h Q ↔ am_J d 14 21 ls (.int (am_I h a 5) :: st) h Q := j_get (idx := 41) (k := 5) (by decide +kernel) (by decide +kernel) (by decide) (by decide +kernel) rfl O
theorem g14_21 {x : Int32}  : am_J d 14 21 [v0, some (.int x)] st h Q ↔ am_J d 14 22 [v0, some (.int x)] (.int x :: st) h Q := j_lc (i := .iload_n 1) (k := 1) (by decide +kernel) (fun _ => rfl) rfl rfl rfl
theorem g14_22 {x y : Int32}  : am_J d 14 22 ls (.int y :: .int x :: st) h Q ↔ am_J d 14 23 ls (.int (x - y) :: st) h Q := j_ps (i := .isub) (k := 1) (by decide +kernel) (fun _ => rfl) rfl
theorem g14_23   : am_J d 14 23 ls st h Q ↔ am_J d 14 24 ls (.int (nI 1) :: st) h Q := j_iconst (n := 1) (by decide +kernel) (by decide +kernel)
theorem g14_24 {x y : Int32}  : am_J d 14 24 ls (.int y :: .int x :: st) h Q ↔ am_J d 14 25 ls (.int (x - y) :: st) h Q := j_ps (i := .isub) (k := 1) (by decide +kernel) (fun _ => rfl) rfl
theorem g14_25 {x : Int32}  : am_J d 14 25 ls (.int x :: st) h Q ↔ am_J d 14 26 ls (.long (x.toInt64) :: st) h Q := j_ps (i := .i2l) (k := 1) (by decide +kernel) (fun _ => rfl) rfl
theorem g14_26 {a q : Nat} {x : Int64}  (X : am_ax h a 101 q) (h4 : 4 ≤ a) : am_J d 14 26 ls (.long x :: .int (nI q) :: .ref a :: st) h Q ↔ am_J d 14 27 ls st (am_setL h a q x) Q := j_ast (i := .lastore) (by decide +kernel) (Or.inr (Or.inl ⟨rfl, rfl⟩)) (by decide) (by decide) rfl X h4
theorem g14_27 : am_J d 14 27 ls [] h Q ↔ Q none h := j_rt (i := .return_) (by decide +kernel) (by rw [show (am_me 14).2.2.1 = none by decide +kernel]; rfl)
end G14
section G15
-- method 15: LoadBook$Code.rangeSize(I)I
variable {d : Nat} {ls : am_Lo} {st : List Value} {h : am_H} {Q : Option Value → am_H → Prop} {v0 v1 v2 : Option Value}
theorem g15_0 {x : Int32}  : am_J d 15 0 [some (.int x), v1, v2] st h Q ↔ am_J d 15 1 [some (.int x), v1, v2] (.int x :: st) h Q := j_lc (i := .iload_n 0) (k := 1) (by decide +kernel) (fun _ => rfl) rfl rfl rfl
theorem g15_1   : am_J d 15 1 ls st h Q ↔ am_J d 15 4 ls (.int (nI 255) :: st) h Q := j_sipush (n := 255) (by decide +kernel) (by decide +kernel)
theorem g15_4 {x y : Int32}  : am_J d 15 4 ls (.int y :: .int x :: st) h Q ↔ am_J d 15 5 ls (.int (x &&& y) :: st) h Q := j_ps (i := .iand) (k := 1) (by decide +kernel) (fun _ => rfl) rfl
theorem g15_5 {x : Int32}  : am_J d 15 5 [v0, v1, v2] (.int x :: st) h Q ↔ am_J d 15 6 [v0, some (.int x), v2] st h Q := j_lc (i := .istore_n 1) (k := 1) (by decide +kernel) (fun _ => rfl) rfl rfl rfl
theorem g15_6 {x : Int32}  : am_J d 15 6 [some (.int x), v1, v2] st h Q ↔ am_J d 15 7 [some (.int x), v1, v2] (.int x :: st) h Q := j_lc (i := .iload_n 0) (k := 1) (by decide +kernel) (fun _ => rfl) rfl rfl rfl
theorem g15_7   : am_J d 15 7 ls st h Q ↔ am_J d 15 9 ls (.int (nI 8) :: st) h Q := j_bipush (n := 8) (by decide +kernel) (by decide +kernel)
theorem g15_9 {x y : Int32}  : am_J d 15 9 ls (.int y :: .int x :: st) h Q ↔ am_J d 15 10 ls (.int (x >>> (y &&& 31)) :: st) h Q := j_ps (i := .ishr) (k := 1) (by decide +kernel) (fun _ => rfl) rfl
theorem g15_10   : am_J d 15 10 ls st h Q ↔ am_J d 15 13 ls (.int (nI 255) :: st) h Q := j_sipush (n := 255) (by decide +kernel) (by decide +kernel)
theorem g15_13 {x y : Int32}  : am_J d 15 13 ls (.int y :: .int x :: st) h Q ↔ am_J d 15 14 ls (.int (x &&& y) :: st) h Q := j_ps (i := .iand) (k := 1) (by decide +kernel) (fun _ => rfl) rfl
theorem g15_14 {x : Int32}  : am_J d 15 14 [v0, v1, v2] (.int x :: st) h Q ↔ am_J d 15 15 [v0, v1, some (.int x)] st h Q := j_lc (i := .istore_n 2) (k := 1) (by decide +kernel) (fun _ => rfl) rfl rfl rfl
theorem g15_15 {x : Int32}  : am_J d 15 15 [v0, v1, some (.int x)] st h Q ↔ am_J d 15 16 [v0, v1, some (.int x)] (.int x :: st) h Q := j_lc (i := .iload_n 2) (k := 1) (by decide +kernel) (fun _ => rfl) rfl rfl rfl
theorem g15_16   : am_J d 15 16 ls st h Q ↔ am_J d 15 17 ls (.int (nI 3) :: st) h Q := j_iconst (n := 3) (by decide +kernel) (by decide +kernel)
theorem g15_17 {x y : Int32}  : am_J d 15 17 ls (.int y :: .int x :: st) h Q ↔ am_J d 15 18 ls (.int (x >>> (y &&& 31)) :: st) h Q := j_ps (i := .ishr) (k := 1) (by decide +kernel) (fun _ => rfl) rfl
theorem g15_18 {x : Int32}  : am_J d 15 18 [v0, some (.int x), v2] st h Q ↔ am_J d 15 19 [v0, some (.int x), v2] (.int x :: st) h Q := j_lc (i := .iload_n 1) (k := 1) (by decide +kernel) (fun _ => rfl) rfl rfl rfl
theorem g15_19   : am_J d 15 19 ls st h Q ↔ am_J d 15 20 ls (.int (nI 3) :: st) h Q := j_iconst (n := 3) (by decide +kernel) (by decide +kernel)
theorem g15_20 {x y : Int32}  : am_J d 15 20 ls (.int y :: .int x :: st) h Q ↔ am_J d 15 21 ls (.int (x >>> (y &&& 31)) :: st) h Q := j_ps (i := .ishr) (k := 1) (by decide +kernel) (fun _ => rfl) rfl
theorem g15_21 {x y : Int32}  : am_J d 15 21 ls (.int y :: .int x :: st) h Q ↔ am_J d 15 22 ls (.int (x - y) :: st) h Q := j_ps (i := .isub) (k := 1) (by decide +kernel) (fun _ => rfl) rfl
theorem g15_22   : am_J d 15 22 ls st h Q ↔ am_J d 15 23 ls (.int (nI 1) :: st) h Q := j_iconst (n := 1) (by decide +kernel) (by decide +kernel)
theorem g15_23 {x y : Int32}  : am_J d 15 23 ls (.int y :: .int x :: st) h Q ↔ am_J d 15 24 ls (.int (x + y) :: st) h Q := j_ps (i := .iadd) (k := 1) (by decide +kernel) (fun _ => rfl) rfl
theorem g15_24 {x : Int32}  : am_J d 15 24 [v0, v1, some (.int x)] st h Q ↔ am_J d 15 25 [v0, v1, some (.int x)] (.int x :: st) h Q := j_lc (i := .iload_n 2) (k := 1) (by decide +kernel) (fun _ => rfl) rfl rfl rfl
theorem g15_25   : am_J d 15 25 ls st h Q ↔ am_J d 15 27 ls (.int (nI 7) :: st) h Q := j_bipush (n := 7) (by decide +kernel) (by decide +kernel)
theorem g15_27 {x y : Int32}  : am_J d 15 27 ls (.int y :: .int x :: st) h Q ↔ am_J d 15 28 ls (.int (x &&& y) :: st) h Q := j_ps (i := .iand) (k := 1) (by decide +kernel) (fun _ => rfl) rfl
theorem g15_28 {x : Int32}  : am_J d 15 28 [v0, some (.int x), v2] st h Q ↔ am_J d 15 29 [v0, some (.int x), v2] (.int x :: st) h Q := j_lc (i := .iload_n 1) (k := 1) (by decide +kernel) (fun _ => rfl) rfl rfl rfl
theorem g15_29   : am_J d 15 29 ls st h Q ↔ am_J d 15 31 ls (.int (nI 7) :: st) h Q := j_bipush (n := 7) (by decide +kernel) (by decide +kernel)
theorem g15_31 {x y : Int32}  : am_J d 15 31 ls (.int y :: .int x :: st) h Q ↔ am_J d 15 32 ls (.int (x &&& y) :: st) h Q := j_ps (i := .iand) (k := 1) (by decide +kernel) (fun _ => rfl) rfl
theorem g15_32 {x y : Int32}  : am_J d 15 32 ls (.int y :: .int x :: st) h Q ↔ am_J d 15 33 ls (.int (x - y) :: st) h Q := j_ps (i := .isub) (k := 1) (by decide +kernel) (fun _ => rfl) rfl
theorem g15_33   : am_J d 15 33 ls st h Q ↔ am_J d 15 34 ls (.int (nI 1) :: st) h Q := j_iconst (n := 1) (by decide +kernel) (by decide +kernel)
theorem g15_34 {x y : Int32}  : am_J d 15 34 ls (.int y :: .int x :: st) h Q ↔ am_J d 15 35 ls (.int (x + y) :: st) h Q := j_ps (i := .iadd) (k := 1) (by decide +kernel) (fun _ => rfl) rfl
theorem g15_35 {x y : Int32}  : am_J d 15 35 ls (.int y :: .int x :: st) h Q ↔ am_J d 15 36 ls (.int (x * y) :: st) h Q := j_ps (i := .imul) (k := 1) (by decide +kernel) (fun _ => rfl) rfl
theorem g15_36 {x : Int32}  : am_J d 15 36 ls [.int x] h Q ↔ Q (some (.int x)) h := j_iret (by decide +kernel) (by decide +kernel)
end G15
section G16
-- method 16: LoadBook$Code.rangeCell(II)I
variable {d : Nat} {ls : am_Lo} {st : List Value} {h : am_H} {Q : Option Value → am_H → Prop} {v0 v1 v2 v3 : Option Value}
theorem g16_0 {x : Int32}  : am_J d 16 0 [some (.int x), v1, v2, v3] st h Q ↔ am_J d 16 1 [some (.int x), v1, v2, v3] (.int x :: st) h Q := j_lc (i := .iload_n 0) (k := 1) (by decide +kernel) (fun _ => rfl) rfl rfl rfl
theorem g16_1   : am_J d 16 1 ls st h Q ↔ am_J d 16 4 ls (.int (nI 255) :: st) h Q := j_sipush (n := 255) (by decide +kernel) (by decide +kernel)
theorem g16_4 {x y : Int32}  : am_J d 16 4 ls (.int y :: .int x :: st) h Q ↔ am_J d 16 5 ls (.int (x &&& y) :: st) h Q := j_ps (i := .iand) (k := 1) (by decide +kernel) (fun _ => rfl) rfl
theorem g16_5 {x : Int32}  : am_J d 16 5 [v0, v1, v2, v3] (.int x :: st) h Q ↔ am_J d 16 6 [v0, v1, some (.int x), v3] st h Q := j_lc (i := .istore_n 2) (k := 1) (by decide +kernel) (fun _ => rfl) rfl rfl rfl
theorem g16_6 {x : Int32}  : am_J d 16 6 [some (.int x), v1, v2, v3] st h Q ↔ am_J d 16 7 [some (.int x), v1, v2, v3] (.int x :: st) h Q := j_lc (i := .iload_n 0) (k := 1) (by decide +kernel) (fun _ => rfl) rfl rfl rfl
theorem g16_7   : am_J d 16 7 ls st h Q ↔ am_J d 16 9 ls (.int (nI 8) :: st) h Q := j_bipush (n := 8) (by decide +kernel) (by decide +kernel)
theorem g16_9 {x y : Int32}  : am_J d 16 9 ls (.int y :: .int x :: st) h Q ↔ am_J d 16 10 ls (.int (x >>> (y &&& 31)) :: st) h Q := j_ps (i := .ishr) (k := 1) (by decide +kernel) (fun _ => rfl) rfl
theorem g16_10   : am_J d 16 10 ls st h Q ↔ am_J d 16 12 ls (.int (nI 7) :: st) h Q := j_bipush (n := 7) (by decide +kernel) (by decide +kernel)
theorem g16_12 {x y : Int32}  : am_J d 16 12 ls (.int y :: .int x :: st) h Q ↔ am_J d 16 13 ls (.int (x &&& y) :: st) h Q := j_ps (i := .iand) (k := 1) (by decide +kernel) (fun _ => rfl) rfl
theorem g16_13 {x : Int32}  : am_J d 16 13 [v0, v1, some (.int x), v3] st h Q ↔ am_J d 16 14 [v0, v1, some (.int x), v3] (.int x :: st) h Q := j_lc (i := .iload_n 2) (k := 1) (by decide +kernel) (fun _ => rfl) rfl rfl rfl
theorem g16_14   : am_J d 16 14 ls st h Q ↔ am_J d 16 16 ls (.int (nI 7) :: st) h Q := j_bipush (n := 7) (by decide +kernel) (by decide +kernel)
theorem g16_16 {x y : Int32}  : am_J d 16 16 ls (.int y :: .int x :: st) h Q ↔ am_J d 16 17 ls (.int (x &&& y) :: st) h Q := j_ps (i := .iand) (k := 1) (by decide +kernel) (fun _ => rfl) rfl
theorem g16_17 {x y : Int32}  : am_J d 16 17 ls (.int y :: .int x :: st) h Q ↔ am_J d 16 18 ls (.int (x - y) :: st) h Q := j_ps (i := .isub) (k := 1) (by decide +kernel) (fun _ => rfl) rfl
theorem g16_18   : am_J d 16 18 ls st h Q ↔ am_J d 16 19 ls (.int (nI 1) :: st) h Q := j_iconst (n := 1) (by decide +kernel) (by decide +kernel)
theorem g16_19 {x y : Int32}  : am_J d 16 19 ls (.int y :: .int x :: st) h Q ↔ am_J d 16 20 ls (.int (x + y) :: st) h Q := j_ps (i := .iadd) (k := 1) (by decide +kernel) (fun _ => rfl) rfl
theorem g16_20 {x : Int32}  : am_J d 16 20 [v0, v1, v2, v3] (.int x :: st) h Q ↔ am_J d 16 21 [v0, v1, v2, some (.int x)] st h Q := j_lc (i := .istore_n 3) (k := 1) (by decide +kernel) (fun _ => rfl) rfl rfl rfl
theorem g16_21 {x : Int32}  : am_J d 16 21 [v0, v1, v2, some (.int x)] st h Q ↔ am_J d 16 22 [v0, v1, v2, some (.int x)] (.int x :: st) h Q := j_lc (i := .iload_n 3) (k := 1) (by decide +kernel) (fun _ => rfl) rfl rfl rfl
theorem g16_22   : am_J d 16 22 ls st h Q ↔ am_J d 16 23 ls (.int (nI 1) :: st) h Q := j_iconst (n := 1) (by decide +kernel) (by decide +kernel)
theorem g16_23 {x y : Int32} : am_J d 16 23 ls (.int y :: .int x :: st) h Q ↔ (if y ≤ x then am_J d 16 30 ls st h Q else am_J d 16 26 ls st h Q) := j_ic (c := .ge) (off := 7) (by decide +kernel) (by decide +kernel) rfl
theorem g16_26 {x : Int32}  : am_J d 16 26 [v0, v1, some (.int x), v3] st h Q ↔ am_J d 16 27 [v0, v1, some (.int x), v3] (.int x :: st) h Q := j_lc (i := .iload_n 2) (k := 1) (by decide +kernel) (fun _ => rfl) rfl rfl rfl
theorem g16_27   : am_J d 16 27 ls st h Q ↔ am_J d 16 42 ls st h Q := j_goto (off := 15) (by decide +kernel) (by decide +kernel)
theorem g16_30 {x : Int32}  : am_J d 16 30 [v0, v1, some (.int x), v3] st h Q ↔ am_J d 16 31 [v0, v1, some (.int x), v3] (.int x :: st) h Q := j_lc (i := .iload_n 2) (k := 1) (by decide +kernel) (fun _ => rfl) rfl rfl rfl
theorem g16_31 {x : Int32}  : am_J d 16 31 [v0, some (.int x), v2, v3] st h Q ↔ am_J d 16 32 [v0, some (.int x), v2, v3] (.int x :: st) h Q := j_lc (i := .iload_n 1) (k := 1) (by decide +kernel) (fun _ => rfl) rfl rfl rfl
theorem g16_32 {x : Int32}  : am_J d 16 32 [v0, v1, v2, some (.int x)] st h Q ↔ am_J d 16 33 [v0, v1, v2, some (.int x)] (.int x :: st) h Q := j_lc (i := .iload_n 3) (k := 1) (by decide +kernel) (fun _ => rfl) rfl rfl rfl
theorem g16_33 {x y : Int32} (hy : ¬ y = 0) : am_J d 16 33 ls (.int y :: .int x :: st) h Q ↔ am_J d 16 34 ls (.int (x / y) :: st) h Q := j_idiv (by decide +kernel) hy
theorem g16_34   : am_J d 16 34 ls st h Q ↔ am_J d 16 36 ls (.int (nI 8) :: st) h Q := j_bipush (n := 8) (by decide +kernel) (by decide +kernel)
theorem g16_36 {x y : Int32}  : am_J d 16 36 ls (.int y :: .int x :: st) h Q ↔ am_J d 16 37 ls (.int (x * y) :: st) h Q := j_ps (i := .imul) (k := 1) (by decide +kernel) (fun _ => rfl) rfl
theorem g16_37 {x y : Int32}  : am_J d 16 37 ls (.int y :: .int x :: st) h Q ↔ am_J d 16 38 ls (.int (x + y) :: st) h Q := j_ps (i := .iadd) (k := 1) (by decide +kernel) (fun _ => rfl) rfl
theorem g16_38 {x : Int32}  : am_J d 16 38 [v0, some (.int x), v2, v3] st h Q ↔ am_J d 16 39 [v0, some (.int x), v2, v3] (.int x :: st) h Q := j_lc (i := .iload_n 1) (k := 1) (by decide +kernel) (fun _ => rfl) rfl rfl rfl
theorem g16_39 {x : Int32}  : am_J d 16 39 [v0, v1, v2, some (.int x)] st h Q ↔ am_J d 16 40 [v0, v1, v2, some (.int x)] (.int x :: st) h Q := j_lc (i := .iload_n 3) (k := 1) (by decide +kernel) (fun _ => rfl) rfl rfl rfl
theorem g16_40 {x y : Int32} (hy : ¬ y = 0) : am_J d 16 40 ls (.int y :: .int x :: st) h Q ↔ am_J d 16 41 ls (.int (x - x / y * y) :: st) h Q := j_irem (by decide +kernel) hy
theorem g16_41 {x y : Int32}  : am_J d 16 41 ls (.int y :: .int x :: st) h Q ↔ am_J d 16 42 ls (.int (x + y) :: st) h Q := j_ps (i := .iadd) (k := 1) (by decide +kernel) (fun _ => rfl) rfl
theorem g16_42 {x : Int32}  : am_J d 16 42 ls [.int x] h Q ↔ Q (some (.int x)) h := j_iret (by decide +kernel) (by decide +kernel)
end G16
section G17
-- method 17: LoadBook$Code.insertStep(I)V
variable {d : Nat} {ls : am_Lo} {st : List Value} {h : am_H} {Q : Option Value → am_H → Prop} {v0 v1 v2 : Option Value}
theorem g17_0 {x : Int32}  : am_J d 17 0 [v0, some (.int x), v2] st h Q ↔ am_J d 17 1 [v0, some (.int x), v2] (.int x :: st) h Q := j_lc (i := .iload_n 1) (k := 1) (by decide +kernel) (fun _ => rfl) rfl rfl rfl
theorem g17_1 {x : Int32} : am_J d 17 1 ls (.int x :: st) h Q ↔ (if x < 0 then am_J d 17 24 ls st h Q else am_J d 17 4 ls st h Q) := j_if (c := .lt) (off := 23) (by decide +kernel) (by decide +kernel) rfl
theorem g17_4 {x : Int32}  : am_J d 17 4 [v0, some (.int x), v2] st h Q ↔ am_J d 17 5 [v0, some (.int x), v2] (.int x :: st) h Q := j_lc (i := .iload_n 1) (k := 1) (by decide +kernel) (fun _ => rfl) rfl rfl rfl
theorem g17_5 {a : Nat}  : am_J d 17 5 [some (.ref a), v1, v2] st h Q ↔ am_J d 17 6 [some (.ref a), v1, v2] (.ref a :: st) h Q := j_aload (i := .aload_n 0) (by decide +kernel) (Or.inl ⟨0, rfl, rfl, rfl⟩) rfl rfl
theorem g17_6 {a : Nat} (O : am_ob h a 1) : am_J d 17 6 ls (.ref a :: st) h Q ↔ am_J d 17 9 ls (.int (am_I h a 5) :: st) h Q := j_get (idx := 41) (k := 5) (by decide +kernel) (by decide +kernel) (by decide) (by decide +kernel) rfl O
theorem g17_9 {x y : Int32} : am_J d 17 9 ls (.int y :: .int x :: st) h Q ↔ (if y < x then am_J d 17 24 ls st h Q else am_J d 17 12 ls st h Q) := j_ic (c := .gt) (off := 15) (by decide +kernel) (by decide +kernel) rfl
theorem g17_12 {a : Nat}  : am_J d 17 12 [some (.ref a), v1, v2] st h Q ↔ am_J d 17 13 [some (.ref a), v1, v2] (.ref a :: st) h Q := j_aload (i := .aload_n 0) (by decide +kernel) (Or.inl ⟨0, rfl, rfl, rfl⟩) rfl rfl
theorem g17_13 {a : Nat} (O : am_ob h a 1) : am_J d 17 13 ls (.ref a :: st) h Q ↔ am_J d 17 16 ls (.int (am_I h a 5) :: st) h Q := j_get (idx := 41) (k := 5) (by decide +kernel) (by decide +kernel) (by decide) (by decide +kernel) rfl O
theorem g17_16 {a : Nat}  : am_J d 17 16 [some (.ref a), v1, v2] st h Q ↔ am_J d 17 17 [some (.ref a), v1, v2] (.ref a :: st) h Q := j_aload (i := .aload_n 0) (by decide +kernel) (Or.inl ⟨0, rfl, rfl, rfl⟩) rfl rfl
theorem g17_17 {a : Nat} (O : am_ob h a 1) : am_J d 17 17 ls (.ref a :: st) h Q ↔ am_J d 17 20 ls (va_rf (am_R h a 0) :: st) h Q := j_get (idx := 21) (k := 0) (by decide +kernel) (by decide +kernel) (by decide) (by decide +kernel) rfl O
theorem g17_20 {a : Nat} (h1 : a < h.1) (h2 : 100 ≤ (am_tg h a).1) : am_J d 17 20 ls (.ref a :: st) h Q ↔ am_J d 17 21 ls (.int (nI (am_tg h a).2) :: st) h Q := j_alen (by decide +kernel) h1 h2
theorem g17_21 {x y : Int32} : am_J d 17 21 ls (.int y :: .int x :: st) h Q ↔ (if x < y then am_J d 17 25 ls st h Q else am_J d 17 24 ls st h Q) := j_ic (c := .lt) (off := 4) (by decide +kernel) (by decide +kernel) rfl
theorem g17_24 : am_J d 17 24 ls [] h Q ↔ Q none h := j_rt (i := .return_) (by decide +kernel) (by rw [show (am_me 17).2.2.1 = none by decide +kernel]; rfl)
theorem g17_25 {a : Nat}  : am_J d 17 25 [some (.ref a), v1, v2] st h Q ↔ am_J d 17 26 [some (.ref a), v1, v2] (.ref a :: st) h Q := j_aload (i := .aload_n 0) (by decide +kernel) (Or.inl ⟨0, rfl, rfl, rfl⟩) rfl rfl
theorem g17_26 {a : Nat} (O : am_ob h a 1) : am_J d 17 26 ls (.ref a :: st) h Q ↔ am_J d 17 29 ls (.int (am_I h a 5) :: st) h Q := j_get (idx := 41) (k := 5) (by decide +kernel) (by decide +kernel) (by decide) (by decide +kernel) rfl O
theorem g17_29 {x : Int32}  : am_J d 17 29 [v0, v1, v2] (.int x :: st) h Q ↔ am_J d 17 30 [v0, v1, some (.int x)] st h Q := j_lc (i := .istore_n 2) (k := 1) (by decide +kernel) (fun _ => rfl) rfl rfl rfl
theorem g17_30 {x : Int32}  : am_J d 17 30 [v0, v1, some (.int x)] st h Q ↔ am_J d 17 31 [v0, v1, some (.int x)] (.int x :: st) h Q := j_lc (i := .iload_n 2) (k := 1) (by decide +kernel) (fun _ => rfl) rfl rfl rfl
theorem g17_31 {x : Int32}  : am_J d 17 31 [v0, some (.int x), v2] st h Q ↔ am_J d 17 32 [v0, some (.int x), v2] (.int x :: st) h Q := j_lc (i := .iload_n 1) (k := 1) (by decide +kernel) (fun _ => rfl) rfl rfl rfl
theorem g17_32 {x y : Int32} : am_J d 17 32 ls (.int y :: .int x :: st) h Q ↔ (if x ≤ y then am_J d 17 69 ls st h Q else am_J d 17 35 ls st h Q) := j_ic (c := .le) (off := 37) (by decide +kernel) (by decide +kernel) rfl
theorem g17_35 {a : Nat}  : am_J d 17 35 [some (.ref a), v1, v2] st h Q ↔ am_J d 17 36 [some (.ref a), v1, v2] (.ref a :: st) h Q := j_aload (i := .aload_n 0) (by decide +kernel) (Or.inl ⟨0, rfl, rfl, rfl⟩) rfl rfl
theorem g17_36 {a : Nat} (O : am_ob h a 1) : am_J d 17 36 ls (.ref a :: st) h Q ↔ am_J d 17 39 ls (va_rf (am_R h a 0) :: st) h Q := j_get (idx := 21) (k := 0) (by decide +kernel) (by decide +kernel) (by decide) (by decide +kernel) rfl O
theorem g17_39 {x : Int32}  : am_J d 17 39 [v0, v1, some (.int x)] st h Q ↔ am_J d 17 40 [v0, v1, some (.int x)] (.int x :: st) h Q := j_lc (i := .iload_n 2) (k := 1) (by decide +kernel) (fun _ => rfl) rfl rfl rfl
theorem g17_40 {a : Nat}  : am_J d 17 40 [some (.ref a), v1, v2] st h Q ↔ am_J d 17 41 [some (.ref a), v1, v2] (.ref a :: st) h Q := j_aload (i := .aload_n 0) (by decide +kernel) (Or.inl ⟨0, rfl, rfl, rfl⟩) rfl rfl
theorem g17_41 {a : Nat} (O : am_ob h a 1) : am_J d 17 41 ls (.ref a :: st) h Q ↔ am_J d 17 44 ls (va_rf (am_R h a 0) :: st) h Q := j_get (idx := 21) (k := 0) (by decide +kernel) (by decide +kernel) (by decide) (by decide +kernel) rfl O
theorem g17_44 {x : Int32}  : am_J d 17 44 [v0, v1, some (.int x)] st h Q ↔ am_J d 17 45 [v0, v1, some (.int x)] (.int x :: st) h Q := j_lc (i := .iload_n 2) (k := 1) (by decide +kernel) (fun _ => rfl) rfl rfl rfl
theorem g17_45   : am_J d 17 45 ls st h Q ↔ am_J d 17 46 ls (.int (nI 1) :: st) h Q := j_iconst (n := 1) (by decide +kernel) (by decide +kernel)
theorem g17_46 {x y : Int32}  : am_J d 17 46 ls (.int y :: .int x :: st) h Q ↔ am_J d 17 47 ls (.int (x - y) :: st) h Q := j_ps (i := .isub) (k := 1) (by decide +kernel) (fun _ => rfl) rfl
theorem g17_47 {a q : Nat} (X : am_ax h a 103 q) : am_J d 17 47 ls (.int (nI q) :: .ref a :: st) h Q ↔ am_J d 17 48 ls (.int (am_I h a q) :: st) h Q := j_ald (i := .baload) (by decide +kernel) (Or.inr (Or.inr (Or.inr ⟨rfl, rfl⟩))) (by decide) (by decide) rfl X
theorem g17_48 {a q : Nat} {x : Int32}  (X : am_ax h a 103 q) (h4 : 4 ≤ a) : am_J d 17 48 ls (.int x :: .int (nI q) :: .ref a :: st) h Q ↔ am_J d 17 49 ls st (am_setI h a q x.toInt8.toInt32) Q := j_ast (i := .bastore) (by decide +kernel) (Or.inr (Or.inr (Or.inr ⟨rfl, rfl⟩))) (by decide) (by decide) rfl X h4
theorem g17_49 {a : Nat}  : am_J d 17 49 [some (.ref a), v1, v2] st h Q ↔ am_J d 17 50 [some (.ref a), v1, v2] (.ref a :: st) h Q := j_aload (i := .aload_n 0) (by decide +kernel) (Or.inl ⟨0, rfl, rfl, rfl⟩) rfl rfl
theorem g17_50 {a : Nat} (O : am_ob h a 1) : am_J d 17 50 ls (.ref a :: st) h Q ↔ am_J d 17 53 ls (va_rf (am_R h a 1) :: st) h Q := j_get (idx := 25) (k := 1) (by decide +kernel) (by decide +kernel) (by decide) (by decide +kernel) rfl O
theorem g17_53 {x : Int32}  : am_J d 17 53 [v0, v1, some (.int x)] st h Q ↔ am_J d 17 54 [v0, v1, some (.int x)] (.int x :: st) h Q := j_lc (i := .iload_n 2) (k := 1) (by decide +kernel) (fun _ => rfl) rfl rfl rfl
theorem g17_54 {a : Nat}  : am_J d 17 54 [some (.ref a), v1, v2] st h Q ↔ am_J d 17 55 [some (.ref a), v1, v2] (.ref a :: st) h Q := j_aload (i := .aload_n 0) (by decide +kernel) (Or.inl ⟨0, rfl, rfl, rfl⟩) rfl rfl
theorem g17_55 {a : Nat} (O : am_ob h a 1) : am_J d 17 55 ls (.ref a :: st) h Q ↔ am_J d 17 58 ls (va_rf (am_R h a 1) :: st) h Q := j_get (idx := 25) (k := 1) (by decide +kernel) (by decide +kernel) (by decide) (by decide +kernel) rfl O
theorem g17_58 {x : Int32}  : am_J d 17 58 [v0, v1, some (.int x)] st h Q ↔ am_J d 17 59 [v0, v1, some (.int x)] (.int x :: st) h Q := j_lc (i := .iload_n 2) (k := 1) (by decide +kernel) (fun _ => rfl) rfl rfl rfl
theorem g17_59   : am_J d 17 59 ls st h Q ↔ am_J d 17 60 ls (.int (nI 1) :: st) h Q := j_iconst (n := 1) (by decide +kernel) (by decide +kernel)
theorem g17_60 {x y : Int32}  : am_J d 17 60 ls (.int y :: .int x :: st) h Q ↔ am_J d 17 61 ls (.int (x - y) :: st) h Q := j_ps (i := .isub) (k := 1) (by decide +kernel) (fun _ => rfl) rfl
theorem g17_61 {a q : Nat} (X : am_ax h a 101 q) : am_J d 17 61 ls (.int (nI q) :: .ref a :: st) h Q ↔ am_J d 17 62 ls (.long (am_L h a q) :: st) h Q := j_ald (i := .laload) (by decide +kernel) (Or.inr (Or.inl ⟨rfl, rfl⟩)) (by decide) (by decide) rfl X
theorem g17_62 {a q : Nat} {x : Int64}  (X : am_ax h a 101 q) (h4 : 4 ≤ a) : am_J d 17 62 ls (.long x :: .int (nI q) :: .ref a :: st) h Q ↔ am_J d 17 63 ls st (am_setL h a q x) Q := j_ast (i := .lastore) (by decide +kernel) (Or.inr (Or.inl ⟨rfl, rfl⟩)) (by decide) (by decide) rfl X h4
theorem g17_63 {x : Int32}  : am_J d 17 63 [v0, v1, some (.int x)] st h Q ↔ am_J d 17 66 [v0, v1, some (.int (x + (-1)))] st h Q := j_iinc (j := 2) (n := -1) (by decide +kernel) (by decide +kernel) rfl rfl
theorem g17_66   : am_J d 17 66 ls st h Q ↔ am_J d 17 30 ls st h Q := j_goto (off := -36) (by decide +kernel) (by decide +kernel)
theorem g17_69 {a : Nat}  : am_J d 17 69 [some (.ref a), v1, v2] st h Q ↔ am_J d 17 70 [some (.ref a), v1, v2] (.ref a :: st) h Q := j_aload (i := .aload_n 0) (by decide +kernel) (Or.inl ⟨0, rfl, rfl, rfl⟩) rfl rfl
theorem g17_70 {a : Nat} (O : am_ob h a 1) : am_J d 17 70 ls (.ref a :: st) h Q ↔ am_J d 17 73 ls (va_rf (am_R h a 0) :: st) h Q := j_get (idx := 21) (k := 0) (by decide +kernel) (by decide +kernel) (by decide) (by decide +kernel) rfl O
theorem g17_73 {x : Int32}  : am_J d 17 73 [v0, some (.int x), v2] st h Q ↔ am_J d 17 74 [v0, some (.int x), v2] (.int x :: st) h Q := j_lc (i := .iload_n 1) (k := 1) (by decide +kernel) (fun _ => rfl) rfl rfl rfl
theorem g17_74   : am_J d 17 74 ls st h Q ↔ am_J d 17 75 ls (.int (nI 0) :: st) h Q := j_iconst (n := 0) (by decide +kernel) (by decide +kernel)
theorem g17_75 {a q : Nat} {x : Int32}  (X : am_ax h a 103 q) (h4 : 4 ≤ a) : am_J d 17 75 ls (.int x :: .int (nI q) :: .ref a :: st) h Q ↔ am_J d 17 76 ls st (am_setI h a q x.toInt8.toInt32) Q := j_ast (i := .bastore) (by decide +kernel) (Or.inr (Or.inr (Or.inr ⟨rfl, rfl⟩))) (by decide) (by decide) rfl X h4
theorem g17_76 {a : Nat}  : am_J d 17 76 [some (.ref a), v1, v2] st h Q ↔ am_J d 17 77 [some (.ref a), v1, v2] (.ref a :: st) h Q := j_aload (i := .aload_n 0) (by decide +kernel) (Or.inl ⟨0, rfl, rfl, rfl⟩) rfl rfl
theorem g17_77 {a : Nat} (O : am_ob h a 1) : am_J d 17 77 ls (.ref a :: st) h Q ↔ am_J d 17 80 ls (va_rf (am_R h a 1) :: st) h Q := j_get (idx := 25) (k := 1) (by decide +kernel) (by decide +kernel) (by decide) (by decide +kernel) rfl O
theorem g17_80 {x : Int32}  : am_J d 17 80 [v0, some (.int x), v2] st h Q ↔ am_J d 17 81 [v0, some (.int x), v2] (.int x :: st) h Q := j_lc (i := .iload_n 1) (k := 1) (by decide +kernel) (fun _ => rfl) rfl rfl rfl
theorem g17_81   : am_J d 17 81 ls st h Q ↔ am_J d 17 82 ls (.long (lN 0) :: st) h Q := j_ps (i := .lconst 0) (k := 1) (by decide +kernel) (fun _ => rfl) rfl
theorem g17_82 {a q : Nat} {x : Int64}  (X : am_ax h a 101 q) (h4 : 4 ≤ a) : am_J d 17 82 ls (.long x :: .int (nI q) :: .ref a :: st) h Q ↔ am_J d 17 83 ls st (am_setL h a q x) Q := j_ast (i := .lastore) (by decide +kernel) (Or.inr (Or.inl ⟨rfl, rfl⟩)) (by decide) (by decide) rfl X h4
theorem g17_83 {a : Nat}  : am_J d 17 83 [some (.ref a), v1, v2] st h Q ↔ am_J d 17 84 [some (.ref a), v1, v2] (.ref a :: st) h Q := j_aload (i := .aload_n 0) (by decide +kernel) (Or.inl ⟨0, rfl, rfl, rfl⟩) rfl rfl
theorem g17_84 {v : Value} (hv : v.category = 1) : am_J d 17 84 ls (v :: st) h Q ↔ am_J d 17 85 ls (v :: v :: st) h Q := j_dup (by decide +kernel) hv
theorem g17_85 {a : Nat} (O : am_ob h a 1) : am_J d 17 85 ls (.ref a :: st) h Q ↔ am_J d 17 88 ls (.int (am_I h a 5) :: st) h Q := j_get (idx := 41) (k := 5) (by decide +kernel) (by decide +kernel) (by decide) (by decide +kernel) rfl O
theorem g17_88   : am_J d 17 88 ls st h Q ↔ am_J d 17 89 ls (.int (nI 1) :: st) h Q := j_iconst (n := 1) (by decide +kernel) (by decide +kernel)
theorem g17_89 {x y : Int32}  : am_J d 17 89 ls (.int y :: .int x :: st) h Q ↔ am_J d 17 90 ls (.int (x + y) :: st) h Q := j_ps (i := .iadd) (k := 1) (by decide +kernel) (fun _ => rfl) rfl
theorem g17_90 {a : Nat} {x : Int32}  (O : am_ob h a 1) (h4 : 4 ≤ a) : am_J d 17 90 ls (.int x :: .ref a :: st) h Q ↔ am_J d 17 93 ls st (am_setI h a 5 x) Q := j_put (idx := 41) (k := 5) (by decide +kernel) (by decide +kernel) (by decide) (by decide +kernel) (Or.inl rfl) rfl O h4
theorem g17_93 : am_J d 17 93 ls [] h Q ↔ Q none h := j_rt (i := .return_) (by decide +kernel) (by rw [show (am_me 17).2.2.1 = none by decide +kernel]; rfl)
end G17
section G18
-- method 18: LoadBook$Code.kept()LLoadBook$Code;
variable {d : Nat} {ls : am_Lo} {st : List Value} {h : am_H} {Q : Option Value → am_H → Prop} {v0 v1 : Option Value}
theorem g18_0   : am_J d 18 0 ls st h Q ↔ am_J d 18 3 ls (.ref h.1 :: st) (am_new h (1, 0) 12) Q := j_new (idx := 10) (by decide +kernel) (by decide +kernel) (by decide)
theorem g18_3 {v : Value} (hv : v.category = 1) : am_J d 18 3 ls (v :: st) h Q ↔ am_J d 18 4 ls (v :: v :: st) h Q := j_dup (by decide +kernel) hv
theorem g18_4 {a : Nat}  : am_J d 18 4 [some (.ref a), v1] st h Q ↔ am_J d 18 5 [some (.ref a), v1] (.ref a :: st) h Q := j_aload (i := .aload_n 0) (by decide +kernel) (Or.inl ⟨0, rfl, rfl, rfl⟩) rfl rfl
theorem g18_5 {a : Nat} (O : am_ob h a 1) : am_J d 18 5 ls (.ref a :: st) h Q ↔ am_J d 18 8 ls (.int (am_I h a 5) :: st) h Q := j_get (idx := 41) (k := 5) (by decide +kernel) (by decide +kernel) (by decide) (by decide +kernel) rfl O
theorem g18_8 {a : Nat}  : am_J d 18 8 [some (.ref a), v1] st h Q ↔ am_J d 18 9 [some (.ref a), v1] (.ref a :: st) h Q := j_aload (i := .aload_n 0) (by decide +kernel) (Or.inl ⟨0, rfl, rfl, rfl⟩) rfl rfl
theorem g18_9 {a : Nat} (O : am_ob h a 1) : am_J d 18 9 ls (.ref a :: st) h Q ↔ am_J d 18 12 ls (va_rf (am_R h a 2) :: st) h Q := j_get (idx := 33) (k := 2) (by decide +kernel) (by decide +kernel) (by decide) (by decide +kernel) rfl O
theorem g18_12 {a : Nat} (O : am_ob h a 10) : am_J d 18 12 ls (.ref a :: st) h Q ↔ am_J d 18 15 ls (.int (am_I h a 1) :: st) h Q := j_get (idx := 54) (k := 1) (by decide +kernel) (by decide +kernel) (by decide) (by decide +kernel) rfl O
theorem g18_15 {a : Nat}  : am_J d 18 15 [some (.ref a), v1] st h Q ↔ am_J d 18 16 [some (.ref a), v1] (.ref a :: st) h Q := j_aload (i := .aload_n 0) (by decide +kernel) (Or.inl ⟨0, rfl, rfl, rfl⟩) rfl rfl
theorem g18_16 {a : Nat} (O : am_ob h a 1) : am_J d 18 16 ls (.ref a :: st) h Q ↔ am_J d 18 19 ls (.int (am_I h a 6) :: st) h Q := j_get (idx := 45) (k := 6) (by decide +kernel) (by decide +kernel) (by decide) (by decide +kernel) rfl O
theorem g18_19 {r0 : Nat} {a0 : Int32} {a1 : Int32} {a2 : Int32} {b : Nat}  : am_J (d + 1) 18 19 ls (.int a2 :: .int a1 :: .int a0 :: .ref b :: [.ref r0]) h Q ↔ am_J d 9 0 [some (.ref b), some (.int a0), some (.int a1), some (.int a2)] [] h (fun r h' => am_J (d + 1) 18 22 ls (r.toList ++ [.ref r0]) h' Q) := j_callI (idx := 62) (kd := 1) (mj := 9) (n := 3) (ml := 4) (as := [.int a0, .int a1, .int a2]) (rest := [.ref r0]) (by decide +kernel) (by decide +kernel) (by decide) (by decide +kernel) (by decide) rfl rfl (Nat.le_of_ble_eq_true rfl) (Nat.le_of_ble_eq_true rfl)
theorem g18_22 {v : Value} (hv : am_vt v = 3) : am_J d 18 22 [v0, v1] (v :: st) h Q ↔ am_J d 18 23 [v0, some v] st h Q := j_astore (i := .astore_n 1) (j := 1) (by decide +kernel) (Or.inl ⟨1, rfl, rfl, rfl⟩) rfl (Nat.le_of_ble_eq_true rfl) hv
theorem g18_23 {a : Nat}  : am_J d 18 23 [some (.ref a), v1] st h Q ↔ am_J d 18 24 [some (.ref a), v1] (.ref a :: st) h Q := j_aload (i := .aload_n 0) (by decide +kernel) (Or.inl ⟨0, rfl, rfl, rfl⟩) rfl rfl
theorem g18_24 {a : Nat} (O : am_ob h a 1) : am_J d 18 24 ls (.ref a :: st) h Q ↔ am_J d 18 27 ls (va_rf (am_R h a 0) :: st) h Q := j_get (idx := 21) (k := 0) (by decide +kernel) (by decide +kernel) (by decide) (by decide +kernel) rfl O
theorem g18_27   : am_J d 18 27 ls st h Q ↔ am_J d 18 28 ls (.int (nI 0) :: st) h Q := j_iconst (n := 0) (by decide +kernel) (by decide +kernel)
theorem g18_28 {v : Value} (hv : am_vt v = 3) : am_J d 18 28 [v0, some v] st h Q ↔ am_J d 18 29 [v0, some v] (v :: st) h Q := j_aload (i := .aload_n 1) (by decide +kernel) (Or.inl ⟨1, rfl, rfl, rfl⟩) rfl hv
theorem g18_29 {a : Nat} (O : am_ob h a 1) : am_J d 18 29 ls (.ref a :: st) h Q ↔ am_J d 18 32 ls (va_rf (am_R h a 0) :: st) h Q := j_get (idx := 21) (k := 0) (by decide +kernel) (by decide +kernel) (by decide) (by decide +kernel) rfl O
theorem g18_32   : am_J d 18 32 ls st h Q ↔ am_J d 18 33 ls (.int (nI 0) :: st) h Q := j_iconst (n := 0) (by decide +kernel) (by decide +kernel)
theorem g18_33 {a : Nat}  : am_J d 18 33 [some (.ref a), v1] st h Q ↔ am_J d 18 34 [some (.ref a), v1] (.ref a :: st) h Q := j_aload (i := .aload_n 0) (by decide +kernel) (Or.inl ⟨0, rfl, rfl, rfl⟩) rfl rfl
theorem g18_34 {a : Nat} (O : am_ob h a 1) : am_J d 18 34 ls (.ref a :: st) h Q ↔ am_J d 18 37 ls (.int (am_I h a 5) :: st) h Q := j_get (idx := 41) (k := 5) (by decide +kernel) (by decide +kernel) (by decide) (by decide +kernel) rfl O
-- arraycopy at 18 37
theorem g18_40 {a : Nat}  : am_J d 18 40 [some (.ref a), v1] st h Q ↔ am_J d 18 41 [some (.ref a), v1] (.ref a :: st) h Q := j_aload (i := .aload_n 0) (by decide +kernel) (Or.inl ⟨0, rfl, rfl, rfl⟩) rfl rfl
theorem g18_41 {a : Nat} (O : am_ob h a 1) : am_J d 18 41 ls (.ref a :: st) h Q ↔ am_J d 18 44 ls (va_rf (am_R h a 1) :: st) h Q := j_get (idx := 25) (k := 1) (by decide +kernel) (by decide +kernel) (by decide) (by decide +kernel) rfl O
theorem g18_44   : am_J d 18 44 ls st h Q ↔ am_J d 18 45 ls (.int (nI 0) :: st) h Q := j_iconst (n := 0) (by decide +kernel) (by decide +kernel)
theorem g18_45 {v : Value} (hv : am_vt v = 3) : am_J d 18 45 [v0, some v] st h Q ↔ am_J d 18 46 [v0, some v] (v :: st) h Q := j_aload (i := .aload_n 1) (by decide +kernel) (Or.inl ⟨1, rfl, rfl, rfl⟩) rfl hv
theorem g18_46 {a : Nat} (O : am_ob h a 1) : am_J d 18 46 ls (.ref a :: st) h Q ↔ am_J d 18 49 ls (va_rf (am_R h a 1) :: st) h Q := j_get (idx := 25) (k := 1) (by decide +kernel) (by decide +kernel) (by decide) (by decide +kernel) rfl O
theorem g18_49   : am_J d 18 49 ls st h Q ↔ am_J d 18 50 ls (.int (nI 0) :: st) h Q := j_iconst (n := 0) (by decide +kernel) (by decide +kernel)
theorem g18_50 {a : Nat}  : am_J d 18 50 [some (.ref a), v1] st h Q ↔ am_J d 18 51 [some (.ref a), v1] (.ref a :: st) h Q := j_aload (i := .aload_n 0) (by decide +kernel) (Or.inl ⟨0, rfl, rfl, rfl⟩) rfl rfl
theorem g18_51 {a : Nat} (O : am_ob h a 1) : am_J d 18 51 ls (.ref a :: st) h Q ↔ am_J d 18 54 ls (.int (am_I h a 5) :: st) h Q := j_get (idx := 41) (k := 5) (by decide +kernel) (by decide +kernel) (by decide) (by decide +kernel) rfl O
-- arraycopy at 18 54
theorem g18_57 {a : Nat}  : am_J d 18 57 [some (.ref a), v1] st h Q ↔ am_J d 18 58 [some (.ref a), v1] (.ref a :: st) h Q := j_aload (i := .aload_n 0) (by decide +kernel) (Or.inl ⟨0, rfl, rfl, rfl⟩) rfl rfl
theorem g18_58 {a : Nat} (O : am_ob h a 1) : am_J d 18 58 ls (.ref a :: st) h Q ↔ am_J d 18 61 ls (va_rf (am_R h a 3) :: st) h Q := j_get (idx := 37) (k := 3) (by decide +kernel) (by decide +kernel) (by decide) (by decide +kernel) rfl O
theorem g18_61   : am_J d 18 61 ls st h Q ↔ am_J d 18 62 ls (.int (nI 0) :: st) h Q := j_iconst (n := 0) (by decide +kernel) (by decide +kernel)
theorem g18_62 {v : Value} (hv : am_vt v = 3) : am_J d 18 62 [v0, some v] st h Q ↔ am_J d 18 63 [v0, some v] (v :: st) h Q := j_aload (i := .aload_n 1) (by decide +kernel) (Or.inl ⟨1, rfl, rfl, rfl⟩) rfl hv
theorem g18_63 {a : Nat} (O : am_ob h a 1) : am_J d 18 63 ls (.ref a :: st) h Q ↔ am_J d 18 66 ls (va_rf (am_R h a 3) :: st) h Q := j_get (idx := 37) (k := 3) (by decide +kernel) (by decide +kernel) (by decide) (by decide +kernel) rfl O
theorem g18_66   : am_J d 18 66 ls st h Q ↔ am_J d 18 67 ls (.int (nI 0) :: st) h Q := j_iconst (n := 0) (by decide +kernel) (by decide +kernel)
theorem g18_67 {a : Nat}  : am_J d 18 67 [some (.ref a), v1] st h Q ↔ am_J d 18 68 [some (.ref a), v1] (.ref a :: st) h Q := j_aload (i := .aload_n 0) (by decide +kernel) (Or.inl ⟨0, rfl, rfl, rfl⟩) rfl rfl
theorem g18_68 {a : Nat} (O : am_ob h a 1) : am_J d 18 68 ls (.ref a :: st) h Q ↔ am_J d 18 71 ls (.int (am_I h a 6) :: st) h Q := j_get (idx := 45) (k := 6) (by decide +kernel) (by decide +kernel) (by decide) (by decide +kernel) rfl O
-- arraycopy at 18 71
theorem g18_74 {a : Nat}  : am_J d 18 74 [some (.ref a), v1] st h Q ↔ am_J d 18 75 [some (.ref a), v1] (.ref a :: st) h Q := j_aload (i := .aload_n 0) (by decide +kernel) (Or.inl ⟨0, rfl, rfl, rfl⟩) rfl rfl
theorem g18_75 {a : Nat} (O : am_ob h a 1) : am_J d 18 75 ls (.ref a :: st) h Q ↔ am_J d 18 78 ls (va_rf (am_R h a 4) :: st) h Q := j_get (idx := 9) (k := 4) (by decide +kernel) (by decide +kernel) (by decide) (by decide +kernel) rfl O
theorem g18_78   : am_J d 18 78 ls st h Q ↔ am_J d 18 79 ls (.int (nI 0) :: st) h Q := j_iconst (n := 0) (by decide +kernel) (by decide +kernel)
theorem g18_79 {v : Value} (hv : am_vt v = 3) : am_J d 18 79 [v0, some v] st h Q ↔ am_J d 18 80 [v0, some v] (v :: st) h Q := j_aload (i := .aload_n 1) (by decide +kernel) (Or.inl ⟨1, rfl, rfl, rfl⟩) rfl hv
theorem g18_80 {a : Nat} (O : am_ob h a 1) : am_J d 18 80 ls (.ref a :: st) h Q ↔ am_J d 18 83 ls (va_rf (am_R h a 4) :: st) h Q := j_get (idx := 9) (k := 4) (by decide +kernel) (by decide +kernel) (by decide) (by decide +kernel) rfl O
theorem g18_83   : am_J d 18 83 ls st h Q ↔ am_J d 18 84 ls (.int (nI 0) :: st) h Q := j_iconst (n := 0) (by decide +kernel) (by decide +kernel)
theorem g18_84   : am_J d 18 84 ls st h Q ↔ am_J d 18 85 ls (.int (nI 4) :: st) h Q := j_iconst (n := 4) (by decide +kernel) (by decide +kernel)
-- arraycopy at 18 85
theorem g18_88 {v : Value} (hv : am_vt v = 3) : am_J d 18 88 [v0, some v] st h Q ↔ am_J d 18 89 [v0, some v] (v :: st) h Q := j_aload (i := .aload_n 1) (by decide +kernel) (Or.inl ⟨1, rfl, rfl, rfl⟩) rfl hv
theorem g18_89 {a : Nat} (O : am_ob h a 1) : am_J d 18 89 ls (.ref a :: st) h Q ↔ am_J d 18 92 ls (va_rf (am_R h a 2) :: st) h Q := j_get (idx := 33) (k := 2) (by decide +kernel) (by decide +kernel) (by decide) (by decide +kernel) rfl O
theorem g18_92 {a : Nat}  : am_J d 18 92 [some (.ref a), v1] st h Q ↔ am_J d 18 93 [some (.ref a), v1] (.ref a :: st) h Q := j_aload (i := .aload_n 0) (by decide +kernel) (Or.inl ⟨0, rfl, rfl, rfl⟩) rfl rfl
theorem g18_93 {a : Nat} (O : am_ob h a 1) : am_J d 18 93 ls (.ref a :: st) h Q ↔ am_J d 18 96 ls (va_rf (am_R h a 2) :: st) h Q := j_get (idx := 33) (k := 2) (by decide +kernel) (by decide +kernel) (by decide) (by decide +kernel) rfl O
theorem g18_96 {a0 : Nat} {b : Nat} (O : am_ob h b 10) : am_J (d + 1) 18 96 ls (.ref a0 :: .ref b :: []) h Q ↔ am_J d 137 0 [some (.ref b), some (.ref a0), none] [] h (fun r h' => am_J (d + 1) 18 99 ls (r.toList ++ []) h' Q) := j_callV (idx := 71) (kd := 0) (mj := 137) (n := 1) (c := 10) (ml := 3) (as := [.ref a0]) (rest := []) (by decide +kernel) (by decide +kernel) (by decide) (by decide +kernel) (by decide) rfl rfl (Nat.le_of_ble_eq_true rfl) (Nat.le_of_ble_eq_true rfl) O
theorem g18_99 {v : Value} (hv : am_vt v = 3) : am_J d 18 99 [v0, some v] st h Q ↔ am_J d 18 100 [v0, some v] (v :: st) h Q := j_aload (i := .aload_n 1) (by decide +kernel) (Or.inl ⟨1, rfl, rfl, rfl⟩) rfl hv
theorem g18_100 {a : Nat}  : am_J d 18 100 [some (.ref a), v1] st h Q ↔ am_J d 18 101 [some (.ref a), v1] (.ref a :: st) h Q := j_aload (i := .aload_n 0) (by decide +kernel) (Or.inl ⟨0, rfl, rfl, rfl⟩) rfl rfl
theorem g18_101 {a : Nat} (O : am_ob h a 1) : am_J d 18 101 ls (.ref a :: st) h Q ↔ am_J d 18 104 ls (.int (am_I h a 5) :: st) h Q := j_get (idx := 41) (k := 5) (by decide +kernel) (by decide +kernel) (by decide) (by decide +kernel) rfl O
theorem g18_104 {a : Nat} {x : Int32}  (O : am_ob h a 1) (h4 : 4 ≤ a) : am_J d 18 104 ls (.int x :: .ref a :: st) h Q ↔ am_J d 18 107 ls st (am_setI h a 5 x) Q := j_put (idx := 41) (k := 5) (by decide +kernel) (by decide +kernel) (by decide) (by decide +kernel) (Or.inl rfl) rfl O h4
theorem g18_107 {v : Value} (hv : am_vt v = 3) : am_J d 18 107 [v0, some v] st h Q ↔ am_J d 18 108 [v0, some v] (v :: st) h Q := j_aload (i := .aload_n 1) (by decide +kernel) (Or.inl ⟨1, rfl, rfl, rfl⟩) rfl hv
theorem g18_108 {a : Nat}  : am_J d 18 108 [some (.ref a), v1] st h Q ↔ am_J d 18 109 [some (.ref a), v1] (.ref a :: st) h Q := j_aload (i := .aload_n 0) (by decide +kernel) (Or.inl ⟨0, rfl, rfl, rfl⟩) rfl rfl
theorem g18_109 {a : Nat} (O : am_ob h a 1) : am_J d 18 109 ls (.ref a :: st) h Q ↔ am_J d 18 112 ls (.int (am_I h a 6) :: st) h Q := j_get (idx := 45) (k := 6) (by decide +kernel) (by decide +kernel) (by decide) (by decide +kernel) rfl O
theorem g18_112 {a : Nat} {x : Int32}  (O : am_ob h a 1) (h4 : 4 ≤ a) : am_J d 18 112 ls (.int x :: .ref a :: st) h Q ↔ am_J d 18 115 ls st (am_setI h a 6 x) Q := j_put (idx := 45) (k := 6) (by decide +kernel) (by decide +kernel) (by decide) (by decide +kernel) (Or.inl rfl) rfl O h4
theorem g18_115 {v : Value} (hv : am_vt v = 3) : am_J d 18 115 [v0, some v] st h Q ↔ am_J d 18 116 [v0, some v] (v :: st) h Q := j_aload (i := .aload_n 1) (by decide +kernel) (Or.inl ⟨1, rfl, rfl, rfl⟩) rfl hv
theorem g18_116 {a : Nat}  : am_J d 18 116 [some (.ref a), v1] st h Q ↔ am_J d 18 117 [some (.ref a), v1] (.ref a :: st) h Q := j_aload (i := .aload_n 0) (by decide +kernel) (Or.inl ⟨0, rfl, rfl, rfl⟩) rfl rfl
theorem g18_117 {a : Nat} (O : am_ob h a 1) : am_J d 18 117 ls (.ref a :: st) h Q ↔ am_J d 18 120 ls (.int (am_I h a 7) :: st) h Q := j_get (idx := 48) (k := 7) (by decide +kernel) (by decide +kernel) (by decide) (by decide +kernel) rfl O
theorem g18_120 {a : Nat} {x : Int32}  (O : am_ob h a 1) (h4 : 4 ≤ a) : am_J d 18 120 ls (.int x :: .ref a :: st) h Q ↔ am_J d 18 123 ls st (am_setI h a 7 x) Q := j_put (idx := 48) (k := 7) (by decide +kernel) (by decide +kernel) (by decide) (by decide +kernel) (Or.inl rfl) rfl O h4
theorem g18_123 {v : Value} (hv : am_vt v = 3) : am_J d 18 123 [v0, some v] st h Q ↔ am_J d 18 124 [v0, some v] (v :: st) h Q := j_aload (i := .aload_n 1) (by decide +kernel) (Or.inl ⟨1, rfl, rfl, rfl⟩) rfl hv
theorem g18_124 {a : Nat}  : am_J d 18 124 [some (.ref a), v1] st h Q ↔ am_J d 18 125 [some (.ref a), v1] (.ref a :: st) h Q := j_aload (i := .aload_n 0) (by decide +kernel) (Or.inl ⟨0, rfl, rfl, rfl⟩) rfl rfl
theorem g18_125 {a : Nat} (O : am_ob h a 1) : am_J d 18 125 ls (.ref a :: st) h Q ↔ am_J d 18 128 ls (.int (am_I h a 8) :: st) h Q := j_get (idx := 51) (k := 8) (by decide +kernel) (by decide +kernel) (by decide) (by decide +kernel) rfl O
theorem g18_128 {a : Nat} {x : Int32}  (O : am_ob h a 1) (h4 : 4 ≤ a) : am_J d 18 128 ls (.int x :: .ref a :: st) h Q ↔ am_J d 18 131 ls st (am_setI h a 8 x) Q := j_put (idx := 51) (k := 8) (by decide +kernel) (by decide +kernel) (by decide) (by decide +kernel) (Or.inl rfl) rfl O h4
theorem g18_131 {v : Value} (hv : am_vt v = 3) : am_J d 18 131 [v0, some v] st h Q ↔ am_J d 18 132 [v0, some v] (v :: st) h Q := j_aload (i := .aload_n 1) (by decide +kernel) (Or.inl ⟨1, rfl, rfl, rfl⟩) rfl hv
theorem g18_132 {r : Option Nat} : am_J d 18 132 ls [va_rf r] h Q ↔ Q (some (va_rf r)) h := j_aret (ty := (.object "LoadBook$Code")) (by decide +kernel) (by decide +kernel) (Or.inl ⟨_, rfl⟩)
end G18
section G19
-- method 19: LoadBook$Frame.<init>()V
variable {d : Nat} {ls : am_Lo} {st : List Value} {h : am_H} {Q : Option Value → am_H → Prop} {v0 : Option Value}
theorem g19_0 {a : Nat}  : am_J d 19 0 [some (.ref a)] st h Q ↔ am_J d 19 1 [some (.ref a)] (.ref a :: st) h Q := j_aload (i := .aload_n 0) (by decide +kernel) (Or.inl ⟨0, rfl, rfl, rfl⟩) rfl rfl
theorem g19_1 {a : Nat}  : am_J (d + 1) 19 1 ls (.ref a :: []) h Q ↔ am_J (d + 1) 19 4 ls [] h Q := j_oinit (m := 0) (n := 0) (idx := 1) (by decide +kernel) (by decide +kernel) (Nat.le_of_ble_eq_true rfl)
theorem g19_4 : am_J d 19 4 ls [] h Q ↔ Q none h := j_rt (i := .return_) (by decide +kernel) (by rw [show (am_me 19).2.2.1 = none by decide +kernel]; rfl)
end G19
section G20
-- method 20: LoadBook$Lexer.<init>()V
variable {d : Nat} {ls : am_Lo} {st : List Value} {h : am_H} {Q : Option Value → am_H → Prop} {v0 : Option Value}
theorem g20_0 {a : Nat}  : am_J d 20 0 [some (.ref a)] st h Q ↔ am_J d 20 1 [some (.ref a)] (.ref a :: st) h Q := j_aload (i := .aload_n 0) (by decide +kernel) (Or.inl ⟨0, rfl, rfl, rfl⟩) rfl rfl
theorem g20_1 {a : Nat}  : am_J (d + 1) 20 1 ls (.ref a :: []) h Q ↔ am_J (d + 1) 20 4 ls [] h Q := j_oinit (m := 0) (n := 0) (idx := 3) (by decide +kernel) (by decide +kernel) (Nat.le_of_ble_eq_true rfl)
theorem g20_4 {a : Nat}  : am_J d 20 4 [some (.ref a)] st h Q ↔ am_J d 20 5 [some (.ref a)] (.ref a :: st) h Q := j_aload (i := .aload_n 0) (by decide +kernel) (Or.inl ⟨0, rfl, rfl, rfl⟩) rfl rfl
theorem g20_5   : am_J d 20 5 ls st h Q ↔ am_J d 20 6 ls (.int ((-1)) :: st) h Q := j_iconst (n := -1) (by decide +kernel) (by decide +kernel)
theorem g20_6 {a : Nat} {x : Int32}  (O : am_ob h a 3) (h4 : 4 ≤ a) : am_J d 20 6 ls (.int x :: .ref a :: st) h Q ↔ am_J d 20 9 ls st (am_setI h a 9 x) Q := j_put (idx := 9) (k := 9) (by decide +kernel) (by decide +kernel) (by decide) (by decide +kernel) (Or.inl rfl) rfl O h4
theorem g20_9 : am_J d 20 9 ls [] h Q ↔ Q none h := j_rt (i := .return_) (by decide +kernel) (by rw [show (am_me 20).2.2.1 = none by decide +kernel]; rfl)
end G20
section G21
-- method 21: LoadBook$Lexer.begin(LLoadBook$Text;)V
variable {d : Nat} {ls : am_Lo} {st : List Value} {h : am_H} {Q : Option Value → am_H → Prop} {v0 v1 : Option Value}
theorem g21_0   : am_J d 21 0 [some (.ref 302), v1] st h Q ↔ am_J d 21 1 [some (.ref 302), v1] (.ref 302 :: st) h Q := j_aload (i := .aload_n 0) (by decide +kernel) (Or.inl ⟨0, rfl, rfl, rfl⟩) rfl rfl
theorem g21_1 {v : Value} (hv : am_vt v = 3) : am_J d 21 1 [v0, some v] st h Q ↔ am_J d 21 2 [v0, some v] (v :: st) h Q := j_aload (i := .aload_n 1) (by decide +kernel) (Or.inl ⟨1, rfl, rfl, rfl⟩) rfl hv
theorem g21_2 {x : Option Nat}  (S : am_S h) : am_J d 21 2 ls (va_rf x :: .ref 302 :: st) h Q ↔ am_J d 21 5 ls st (am_setR h 302 0 x) Q := j_put (c := 3) (idx := 15) (k := 0) (by decide +kernel) (by decide +kernel) (by decide) (by decide +kernel) (Or.inl rfl) (by cases x <;> rfl) (am_S_ob S (by decide +kernel)) (by decide)
theorem g21_5   : am_J d 21 5 [some (.ref 302), v1] st h Q ↔ am_J d 21 6 [some (.ref 302), v1] (.ref 302 :: st) h Q := j_aload (i := .aload_n 0) (by decide +kernel) (Or.inl ⟨0, rfl, rfl, rfl⟩) rfl rfl
theorem g21_6   : am_J d 21 6 ls st h Q ↔ am_J d 21 7 ls (.int (nI 0) :: st) h Q := j_iconst (n := 0) (by decide +kernel) (by decide +kernel)
theorem g21_7 {x : Int32}  (S : am_S h) : am_J d 21 7 ls (.int x :: .ref 302 :: st) h Q ↔ am_J d 21 10 ls st (am_setI h 302 1 x) Q := j_put (c := 3) (idx := 19) (k := 1) (by decide +kernel) (by decide +kernel) (by decide) (by decide +kernel) (Or.inl rfl) rfl (am_S_ob S (by decide +kernel)) (by decide)
theorem g21_10   : am_J d 21 10 [some (.ref 302), v1] st h Q ↔ am_J d 21 11 [some (.ref 302), v1] (.ref 302 :: st) h Q := j_aload (i := .aload_n 0) (by decide +kernel) (Or.inl ⟨0, rfl, rfl, rfl⟩) rfl rfl
theorem g21_11   : am_J d 21 11 ls st h Q ↔ am_J d 21 14 ls (.int (nI 262) :: st) h Q := j_sipush (n := 262) (by decide +kernel) (by decide +kernel)
theorem g21_14 {x : Int32}  (S : am_S h) : am_J d 21 14 ls (.int x :: .ref 302 :: st) h Q ↔ am_J d 21 17 ls st (am_setI h 302 2 x) Q := j_put (c := 3) (idx := 22) (k := 2) (by decide +kernel) (by decide +kernel) (by decide) (by decide +kernel) (Or.inl rfl) rfl (am_S_ob S (by decide +kernel)) (by decide)
theorem g21_17   : am_J d 21 17 [some (.ref 302), v1] st h Q ↔ am_J d 21 18 [some (.ref 302), v1] (.ref 302 :: st) h Q := j_aload (i := .aload_n 0) (by decide +kernel) (Or.inl ⟨0, rfl, rfl, rfl⟩) rfl rfl
theorem g21_18   : am_J d 21 18 ls st h Q ↔ am_J d 21 19 ls (.int (nI 0) :: st) h Q := j_iconst (n := 0) (by decide +kernel) (by decide +kernel)
theorem g21_19 {x : Int32}  (S : am_S h) : am_J d 21 19 ls (.int x :: .ref 302 :: st) h Q ↔ am_J d 21 22 ls st (am_setI h 302 8 x) Q := j_put (c := 3) (idx := 25) (k := 8) (by decide +kernel) (by decide +kernel) (by decide) (by decide +kernel) (Or.inl rfl) rfl (am_S_ob S (by decide +kernel)) (by decide)
theorem g21_22   : am_J d 21 22 [some (.ref 302), v1] st h Q ↔ am_J d 21 23 [some (.ref 302), v1] (.ref 302 :: st) h Q := j_aload (i := .aload_n 0) (by decide +kernel) (Or.inl ⟨0, rfl, rfl, rfl⟩) rfl rfl
theorem g21_23   : am_J d 21 23 ls st h Q ↔ am_J d 21 24 ls (.int ((-1)) :: st) h Q := j_iconst (n := -1) (by decide +kernel) (by decide +kernel)
theorem g21_24 {x : Int32}  (S : am_S h) : am_J d 21 24 ls (.int x :: .ref 302 :: st) h Q ↔ am_J d 21 27 ls st (am_setI h 302 9 x) Q := j_put (c := 3) (idx := 9) (k := 9) (by decide +kernel) (by decide +kernel) (by decide) (by decide +kernel) (Or.inl rfl) rfl (am_S_ob S (by decide +kernel)) (by decide)
theorem g21_27   : am_J d 21 27 [some (.ref 302), v1] st h Q ↔ am_J d 21 28 [some (.ref 302), v1] (.ref 302 :: st) h Q := j_aload (i := .aload_n 0) (by decide +kernel) (Or.inl ⟨0, rfl, rfl, rfl⟩) rfl rfl
theorem g21_28 (S : am_S h) : am_J (d + 1) 21 28 ls (.ref 302 :: []) h Q ↔ am_J d 22 0 [some (.ref 302), none] [] h (fun r h' => am_J (d + 1) 21 31 ls (r.toList ++ []) h' Q) := j_callV (idx := 28) (kd := 0) (mj := 22) (n := 0) (b := 302) (c := 3) (ml := 2) (as := []) (rest := []) (by decide +kernel) (by decide +kernel) (by decide) (by decide +kernel) (by decide) rfl rfl (Nat.le_of_ble_eq_true rfl) (Nat.le_of_ble_eq_true rfl) (am_S_ob S (by decide +kernel))
theorem g21_31 : am_J d 21 31 ls [] h Q ↔ Q none h := j_rt (i := .return_) (by decide +kernel) (by rw [show (am_me 21).2.2.1 = none by decide +kernel]; rfl)
end G21
section G22
-- method 22: LoadBook$Lexer.advance()V
variable {d : Nat} {ls : am_Lo} {st : List Value} {h : am_H} {Q : Option Value → am_H → Prop} {v0 v1 : Option Value}
theorem g22_0   : am_J d 22 0 [some (.ref 302), v1] st h Q ↔ am_J d 22 1 [some (.ref 302), v1] (.ref 302 :: st) h Q := j_aload (i := .aload_n 0) (by decide +kernel) (Or.inl ⟨0, rfl, rfl, rfl⟩) rfl rfl
theorem g22_1  (S : am_S h) : am_J d 22 1 ls (.ref 302 :: st) h Q ↔ am_J d 22 4 ls (.int (am_I h 302 2) :: st) h Q := j_get (c := 3) (idx := 22) (k := 2) (by decide +kernel) (by decide +kernel) (by decide) (by decide +kernel) rfl (am_S_ob S (by decide +kernel))
theorem g22_4   : am_J d 22 4 ls st h Q ↔ am_J d 22 7 ls (.int (nI 263) :: st) h Q := j_sipush (n := 263) (by decide +kernel) (by decide +kernel)
theorem g22_7 {x y : Int32} : am_J d 22 7 ls (.int y :: .int x :: st) h Q ↔ (if x = y then am_J d 22 10 ls st h Q else am_J d 22 11 ls st h Q) := j_icN (off := 4) (by decide +kernel) (by decide +kernel)
theorem g22_10 : am_J d 22 10 ls [] h Q ↔ Q none h := j_rt (i := .return_) (by decide +kernel) (by rw [show (am_me 22).2.2.1 = none by decide +kernel]; rfl)
theorem g22_11   : am_J d 22 11 [some (.ref 302), v1] st h Q ↔ am_J d 22 12 [some (.ref 302), v1] (.ref 302 :: st) h Q := j_aload (i := .aload_n 0) (by decide +kernel) (Or.inl ⟨0, rfl, rfl, rfl⟩) rfl rfl
theorem g22_12  (S : am_S h) : am_J d 22 12 ls (.ref 302 :: st) h Q ↔ am_J d 22 15 ls (.int (am_I h 302 1) :: st) h Q := j_get (c := 3) (idx := 19) (k := 1) (by decide +kernel) (by decide +kernel) (by decide) (by decide +kernel) rfl (am_S_ob S (by decide +kernel))
theorem g22_15   : am_J d 22 15 [some (.ref 302), v1] st h Q ↔ am_J d 22 16 [some (.ref 302), v1] (.ref 302 :: st) h Q := j_aload (i := .aload_n 0) (by decide +kernel) (Or.inl ⟨0, rfl, rfl, rfl⟩) rfl rfl
theorem g22_16  (S : am_S h) : am_J d 22 16 ls (.ref 302 :: st) h Q ↔ am_J d 22 19 ls (va_rf (am_R h 302 0) :: st) h Q := j_get (c := 3) (idx := 15) (k := 0) (by decide +kernel) (by decide +kernel) (by decide) (by decide +kernel) rfl (am_S_ob S (by decide +kernel))
theorem g22_19 {a : Nat} (O : am_ob h a 10) : am_J d 22 19 ls (.ref a :: st) h Q ↔ am_J d 22 22 ls (.int (am_I h a 1) :: st) h Q := j_get (idx := 34) (k := 1) (by decide +kernel) (by decide +kernel) (by decide) (by decide +kernel) rfl O
theorem g22_22 {x y : Int32} : am_J d 22 22 ls (.int y :: .int x :: st) h Q ↔ (if y ≤ x then am_J d 22 54 ls st h Q else am_J d 22 25 ls st h Q) := j_ic (c := .ge) (off := 32) (by decide +kernel) (by decide +kernel) rfl
theorem g22_25   : am_J d 22 25 [some (.ref 302), v1] st h Q ↔ am_J d 22 26 [some (.ref 302), v1] (.ref 302 :: st) h Q := j_aload (i := .aload_n 0) (by decide +kernel) (Or.inl ⟨0, rfl, rfl, rfl⟩) rfl rfl
theorem g22_26  (S : am_S h) : am_J d 22 26 ls (.ref 302 :: st) h Q ↔ am_J d 22 29 ls (va_rf (am_R h 302 0) :: st) h Q := j_get (c := 3) (idx := 15) (k := 0) (by decide +kernel) (by decide +kernel) (by decide) (by decide +kernel) rfl (am_S_ob S (by decide +kernel))
theorem g22_29   : am_J d 22 29 [some (.ref 302), v1] st h Q ↔ am_J d 22 30 [some (.ref 302), v1] (.ref 302 :: st) h Q := j_aload (i := .aload_n 0) (by decide +kernel) (Or.inl ⟨0, rfl, rfl, rfl⟩) rfl rfl
theorem g22_30  (S : am_S h) : am_J d 22 30 ls (.ref 302 :: st) h Q ↔ am_J d 22 33 ls (.int (am_I h 302 1) :: st) h Q := j_get (c := 3) (idx := 19) (k := 1) (by decide +kernel) (by decide +kernel) (by decide) (by decide +kernel) rfl (am_S_ob S (by decide +kernel))
theorem g22_33 {a0 : Int32} {b : Nat} (O : am_ob h b 10) : am_J (d + 1) 22 33 ls (.int a0 :: .ref b :: []) h Q ↔ am_J d 135 0 [some (.ref b), some (.int a0)] [] h (fun r h' => am_J (d + 1) 22 36 ls (r.toList ++ []) h' Q) := j_callV (idx := 39) (kd := 0) (mj := 135) (n := 1) (c := 10) (ml := 2) (as := [.int a0]) (rest := []) (by decide +kernel) (by decide +kernel) (by decide) (by decide +kernel) (by decide) rfl rfl (Nat.le_of_ble_eq_true rfl) (Nat.le_of_ble_eq_true rfl) O
theorem g22_36   : am_J d 22 36 ls st h Q ↔ am_J d 22 38 ls (.int (nI 32) :: st) h Q := j_bipush (n := 32) (by decide +kernel) (by decide +kernel)
theorem g22_38 {x y : Int32} : am_J d 22 38 ls (.int y :: .int x :: st) h Q ↔ (if x = y then am_J d 22 41 ls st h Q else am_J d 22 54 ls st h Q) := j_icN (off := 16) (by decide +kernel) (by decide +kernel)
theorem g22_41   : am_J d 22 41 [some (.ref 302), v1] st h Q ↔ am_J d 22 42 [some (.ref 302), v1] (.ref 302 :: st) h Q := j_aload (i := .aload_n 0) (by decide +kernel) (Or.inl ⟨0, rfl, rfl, rfl⟩) rfl rfl
theorem g22_42   : am_J d 22 42 ls (.ref 302 :: st) h Q ↔ am_J d 22 43 ls (.ref 302 :: .ref 302 :: st) h Q := j_dup (by decide +kernel) rfl
theorem g22_43  (S : am_S h) : am_J d 22 43 ls (.ref 302 :: st) h Q ↔ am_J d 22 46 ls (.int (am_I h 302 1) :: st) h Q := j_get (c := 3) (idx := 19) (k := 1) (by decide +kernel) (by decide +kernel) (by decide) (by decide +kernel) rfl (am_S_ob S (by decide +kernel))
theorem g22_46   : am_J d 22 46 ls st h Q ↔ am_J d 22 47 ls (.int (nI 1) :: st) h Q := j_iconst (n := 1) (by decide +kernel) (by decide +kernel)
theorem g22_47 {x y : Int32}  : am_J d 22 47 ls (.int y :: .int x :: st) h Q ↔ am_J d 22 48 ls (.int (x + y) :: st) h Q := j_ps (i := .iadd) (k := 1) (by decide +kernel) (fun _ => rfl) rfl
theorem g22_48 {x : Int32}  (S : am_S h) : am_J d 22 48 ls (.int x :: .ref 302 :: st) h Q ↔ am_J d 22 51 ls st (am_setI h 302 1 x) Q := j_put (c := 3) (idx := 19) (k := 1) (by decide +kernel) (by decide +kernel) (by decide) (by decide +kernel) (Or.inl rfl) rfl (am_S_ob S (by decide +kernel)) (by decide)
theorem g22_51   : am_J d 22 51 ls st h Q ↔ am_J d 22 11 ls st h Q := j_goto (off := -40) (by decide +kernel) (by decide +kernel)
theorem g22_54   : am_J d 22 54 [some (.ref 302), v1] st h Q ↔ am_J d 22 55 [some (.ref 302), v1] (.ref 302 :: st) h Q := j_aload (i := .aload_n 0) (by decide +kernel) (Or.inl ⟨0, rfl, rfl, rfl⟩) rfl rfl
theorem g22_55   : am_J d 22 55 [some (.ref 302), v1] st h Q ↔ am_J d 22 56 [some (.ref 302), v1] (.ref 302 :: st) h Q := j_aload (i := .aload_n 0) (by decide +kernel) (Or.inl ⟨0, rfl, rfl, rfl⟩) rfl rfl
theorem g22_56  (S : am_S h) : am_J d 22 56 ls (.ref 302 :: st) h Q ↔ am_J d 22 59 ls (.int (am_I h 302 1) :: st) h Q := j_get (c := 3) (idx := 19) (k := 1) (by decide +kernel) (by decide +kernel) (by decide) (by decide +kernel) rfl (am_S_ob S (by decide +kernel))
theorem g22_59 {x : Int32}  (S : am_S h) : am_J d 22 59 ls (.int x :: .ref 302 :: st) h Q ↔ am_J d 22 62 ls st (am_setI h 302 3 x) Q := j_put (c := 3) (idx := 31) (k := 3) (by decide +kernel) (by decide +kernel) (by decide) (by decide +kernel) (Or.inl rfl) rfl (am_S_ob S (by decide +kernel)) (by decide)
theorem g22_62   : am_J d 22 62 [some (.ref 302), v1] st h Q ↔ am_J d 22 63 [some (.ref 302), v1] (.ref 302 :: st) h Q := j_aload (i := .aload_n 0) (by decide +kernel) (Or.inl ⟨0, rfl, rfl, rfl⟩) rfl rfl
theorem g22_63  (S : am_S h) : am_J d 22 63 ls (.ref 302 :: st) h Q ↔ am_J d 22 66 ls (va_rf (am_R h 302 0) :: st) h Q := j_get (c := 3) (idx := 15) (k := 0) (by decide +kernel) (by decide +kernel) (by decide) (by decide +kernel) rfl (am_S_ob S (by decide +kernel))
theorem g22_66   : am_J d 22 66 [some (.ref 302), v1] st h Q ↔ am_J d 22 67 [some (.ref 302), v1] (.ref 302 :: st) h Q := j_aload (i := .aload_n 0) (by decide +kernel) (Or.inl ⟨0, rfl, rfl, rfl⟩) rfl rfl
theorem g22_67  (S : am_S h) : am_J d 22 67 ls (.ref 302 :: st) h Q ↔ am_J d 22 70 ls (.int (am_I h 302 1) :: st) h Q := j_get (c := 3) (idx := 19) (k := 1) (by decide +kernel) (by decide +kernel) (by decide) (by decide +kernel) rfl (am_S_ob S (by decide +kernel))
theorem g22_70 {a0 : Int32} {b : Nat} (O : am_ob h b 10) : am_J (d + 1) 22 70 ls (.int a0 :: .ref b :: []) h Q ↔ am_J d 135 0 [some (.ref b), some (.int a0)] [] h (fun r h' => am_J (d + 1) 22 73 ls (r.toList ++ []) h' Q) := j_callV (idx := 39) (kd := 0) (mj := 135) (n := 1) (c := 10) (ml := 2) (as := [.int a0]) (rest := []) (by decide +kernel) (by decide +kernel) (by decide) (by decide +kernel) (by decide) rfl rfl (Nat.le_of_ble_eq_true rfl) (Nat.le_of_ble_eq_true rfl) O
theorem g22_73 {x : Int32}  : am_J d 22 73 [v0, v1] (.int x :: st) h Q ↔ am_J d 22 74 [v0, some (.int x)] st h Q := j_lc (i := .istore_n 1) (k := 1) (by decide +kernel) (fun _ => rfl) rfl rfl rfl
theorem g22_74 {x : Int32}  : am_J d 22 74 [v0, some (.int x)] st h Q ↔ am_J d 22 75 [v0, some (.int x)] (.int x :: st) h Q := j_lc (i := .iload_n 1) (k := 1) (by decide +kernel) (fun _ => rfl) rfl rfl rfl
theorem g22_75   : am_J d 22 75 ls st h Q ↔ am_J d 22 76 ls (.int ((-1)) :: st) h Q := j_iconst (n := -1) (by decide +kernel) (by decide +kernel)
theorem g22_76 {x y : Int32} : am_J d 22 76 ls (.int y :: .int x :: st) h Q ↔ (if x = y then am_J d 22 79 ls st h Q else am_J d 22 89 ls st h Q) := j_icN (off := 13) (by decide +kernel) (by decide +kernel)
theorem g22_79   : am_J d 22 79 [some (.ref 302), v1] st h Q ↔ am_J d 22 80 [some (.ref 302), v1] (.ref 302 :: st) h Q := j_aload (i := .aload_n 0) (by decide +kernel) (Or.inl ⟨0, rfl, rfl, rfl⟩) rfl rfl
theorem g22_80   : am_J d 22 80 ls st h Q ↔ am_J d 22 83 ls (.int (nI 262) :: st) h Q := j_sipush (n := 262) (by decide +kernel) (by decide +kernel)
theorem g22_83 {x : Int32}  (S : am_S h) : am_J d 22 83 ls (.int x :: .ref 302 :: st) h Q ↔ am_J d 22 86 ls st (am_setI h 302 2 x) Q := j_put (c := 3) (idx := 22) (k := 2) (by decide +kernel) (by decide +kernel) (by decide) (by decide +kernel) (Or.inl rfl) rfl (am_S_ob S (by decide +kernel)) (by decide)
theorem g22_86   : am_J d 22 86 ls st h Q ↔ am_J d 22 145 ls st h Q := j_goto (off := 59) (by decide +kernel) (by decide +kernel)
theorem g22_89 {x : Int32}  : am_J d 22 89 [v0, some (.int x)] st h Q ↔ am_J d 22 90 [v0, some (.int x)] (.int x :: st) h Q := j_lc (i := .iload_n 1) (k := 1) (by decide +kernel) (fun _ => rfl) rfl rfl rfl
theorem g22_90 {a0 : Int32}  : am_J (d + 1) 22 90 ls (.int a0 :: []) h Q ↔ am_J d 23 0 [some (.int a0)] [] h (fun r h' => am_J (d + 1) 22 93 ls (r.toList ++ []) h' Q) := j_callS (idx := 43) (kd := 2) (mj := 23) (n := 1) (ml := 1) (as := [.int a0]) (rest := []) (by decide +kernel) (by decide +kernel) (by decide) (by decide +kernel) (by decide) rfl rfl (Nat.le_of_ble_eq_true rfl) (Nat.le_of_ble_eq_true rfl)
theorem g22_93 {x : Int32} : am_J d 22 93 ls (.int x :: st) h Q ↔ (if x = 0 then am_J d 22 103 ls st h Q else am_J d 22 96 ls st h Q) := j_if (c := .eq) (off := 10) (by decide +kernel) (by decide +kernel) rfl
theorem g22_96   : am_J d 22 96 [some (.ref 302), v1] st h Q ↔ am_J d 22 97 [some (.ref 302), v1] (.ref 302 :: st) h Q := j_aload (i := .aload_n 0) (by decide +kernel) (Or.inl ⟨0, rfl, rfl, rfl⟩) rfl rfl
theorem g22_97 (S : am_S h) : am_J (d + 1) 22 97 ls (.ref 302 :: []) h Q ↔ am_J d 24 0 [some (.ref 302)] [] h (fun r h' => am_J (d + 1) 22 100 ls (r.toList ++ []) h' Q) := j_callV (idx := 47) (kd := 0) (mj := 24) (n := 0) (b := 302) (c := 3) (ml := 1) (as := []) (rest := []) (by decide +kernel) (by decide +kernel) (by decide) (by decide +kernel) (by decide) rfl rfl (Nat.le_of_ble_eq_true rfl) (Nat.le_of_ble_eq_true rfl) (am_S_ob S (by decide +kernel))
theorem g22_100   : am_J d 22 100 ls st h Q ↔ am_J d 22 145 ls st h Q := j_goto (off := 45) (by decide +kernel) (by decide +kernel)
theorem g22_103 {x : Int32}  : am_J d 22 103 [v0, some (.int x)] st h Q ↔ am_J d 22 104 [v0, some (.int x)] (.int x :: st) h Q := j_lc (i := .iload_n 1) (k := 1) (by decide +kernel) (fun _ => rfl) rfl rfl rfl
theorem g22_104 {a0 : Int32}  : am_J (d + 1) 22 104 ls (.int a0 :: []) h Q ↔ am_J d 26 0 [some (.int a0)] [] h (fun r h' => am_J (d + 1) 22 107 ls (r.toList ++ []) h' Q) := j_callS (idx := 50) (kd := 2) (mj := 26) (n := 1) (ml := 1) (as := [.int a0]) (rest := []) (by decide +kernel) (by decide +kernel) (by decide) (by decide +kernel) (by decide) rfl rfl (Nat.le_of_ble_eq_true rfl) (Nat.le_of_ble_eq_true rfl)
theorem g22_107 {x : Int32} : am_J d 22 107 ls (.int x :: st) h Q ↔ (if x = 0 then am_J d 22 117 ls st h Q else am_J d 22 110 ls st h Q) := j_if (c := .eq) (off := 10) (by decide +kernel) (by decide +kernel) rfl
theorem g22_110   : am_J d 22 110 [some (.ref 302), v1] st h Q ↔ am_J d 22 111 [some (.ref 302), v1] (.ref 302 :: st) h Q := j_aload (i := .aload_n 0) (by decide +kernel) (Or.inl ⟨0, rfl, rfl, rfl⟩) rfl rfl
theorem g22_111 (S : am_S h) : am_J (d + 1) 22 111 ls (.ref 302 :: []) h Q ↔ am_J d 27 0 [some (.ref 302), none] [] h (fun r h' => am_J (d + 1) 22 114 ls (r.toList ++ []) h' Q) := j_callV (idx := 53) (kd := 0) (mj := 27) (n := 0) (b := 302) (c := 3) (ml := 2) (as := []) (rest := []) (by decide +kernel) (by decide +kernel) (by decide) (by decide +kernel) (by decide) rfl rfl (Nat.le_of_ble_eq_true rfl) (Nat.le_of_ble_eq_true rfl) (am_S_ob S (by decide +kernel))
theorem g22_114   : am_J d 22 114 ls st h Q ↔ am_J d 22 145 ls st h Q := j_goto (off := 31) (by decide +kernel) (by decide +kernel)
theorem g22_117 {x : Int32}  : am_J d 22 117 [v0, some (.int x)] st h Q ↔ am_J d 22 118 [v0, some (.int x)] (.int x :: st) h Q := j_lc (i := .iload_n 1) (k := 1) (by decide +kernel) (fun _ => rfl) rfl rfl rfl
theorem g22_118   : am_J d 22 118 ls st h Q ↔ am_J d 22 120 ls (.int (nI 65) :: st) h Q := j_bipush (n := 65) (by decide +kernel) (by decide +kernel)
theorem g22_120 {x y : Int32} : am_J d 22 120 ls (.int y :: .int x :: st) h Q ↔ (if x < y then am_J d 22 140 ls st h Q else am_J d 22 123 ls st h Q) := j_ic (c := .lt) (off := 20) (by decide +kernel) (by decide +kernel) rfl
theorem g22_123 {x : Int32}  : am_J d 22 123 [v0, some (.int x)] st h Q ↔ am_J d 22 124 [v0, some (.int x)] (.int x :: st) h Q := j_lc (i := .iload_n 1) (k := 1) (by decide +kernel) (fun _ => rfl) rfl rfl rfl
theorem g22_124   : am_J d 22 124 ls st h Q ↔ am_J d 22 126 ls (.int (nI 68) :: st) h Q := j_bipush (n := 68) (by decide +kernel) (by decide +kernel)
theorem g22_126 {x y : Int32} : am_J d 22 126 ls (.int y :: .int x :: st) h Q ↔ (if y < x then am_J d 22 140 ls st h Q else am_J d 22 129 ls st h Q) := j_ic (c := .gt) (off := 14) (by decide +kernel) (by decide +kernel) rfl
theorem g22_129   : am_J d 22 129 [some (.ref 302), v1] st h Q ↔ am_J d 22 130 [some (.ref 302), v1] (.ref 302 :: st) h Q := j_aload (i := .aload_n 0) (by decide +kernel) (Or.inl ⟨0, rfl, rfl, rfl⟩) rfl rfl
theorem g22_130 {x : Int32}  : am_J d 22 130 [v0, some (.int x)] st h Q ↔ am_J d 22 131 [v0, some (.int x)] (.int x :: st) h Q := j_lc (i := .iload_n 1) (k := 1) (by decide +kernel) (fun _ => rfl) rfl rfl rfl
theorem g22_131   : am_J d 22 131 ls st h Q ↔ am_J d 22 133 ls (.int (nI 65) :: st) h Q := j_bipush (n := 65) (by decide +kernel) (by decide +kernel)
theorem g22_133 {x y : Int32}  : am_J d 22 133 ls (.int y :: .int x :: st) h Q ↔ am_J d 22 134 ls (.int (x - y) :: st) h Q := j_ps (i := .isub) (k := 1) (by decide +kernel) (fun _ => rfl) rfl
theorem g22_134 {a0 : Int32} (S : am_S h) : am_J (d + 1) 22 134 ls (.int a0 :: .ref 302 :: []) h Q ↔ am_J d 29 0 [some (.ref 302), some (.int a0), none, none] [] h (fun r h' => am_J (d + 1) 22 137 ls (r.toList ++ []) h' Q) := j_callV (idx := 56) (kd := 0) (mj := 29) (n := 1) (b := 302) (c := 3) (ml := 4) (as := [.int a0]) (rest := []) (by decide +kernel) (by decide +kernel) (by decide) (by decide +kernel) (by decide) rfl rfl (Nat.le_of_ble_eq_true rfl) (Nat.le_of_ble_eq_true rfl) (am_S_ob S (by decide +kernel))
theorem g22_137   : am_J d 22 137 ls st h Q ↔ am_J d 22 145 ls st h Q := j_goto (off := 8) (by decide +kernel) (by decide +kernel)
theorem g22_140   : am_J d 22 140 [some (.ref 302), v1] st h Q ↔ am_J d 22 141 [some (.ref 302), v1] (.ref 302 :: st) h Q := j_aload (i := .aload_n 0) (by decide +kernel) (Or.inl ⟨0, rfl, rfl, rfl⟩) rfl rfl
theorem g22_141 {x : Int32}  : am_J d 22 141 [v0, some (.int x)] st h Q ↔ am_J d 22 142 [v0, some (.int x)] (.int x :: st) h Q := j_lc (i := .iload_n 1) (k := 1) (by decide +kernel) (fun _ => rfl) rfl rfl rfl
theorem g22_142 {a0 : Int32} (S : am_S h) : am_J (d + 1) 22 142 ls (.int a0 :: .ref 302 :: []) h Q ↔ am_J d 30 0 [some (.ref 302), some (.int a0), none] [] h (fun r h' => am_J (d + 1) 22 145 ls (r.toList ++ []) h' Q) := j_callV (idx := 60) (kd := 0) (mj := 30) (n := 1) (b := 302) (c := 3) (ml := 3) (as := [.int a0]) (rest := []) (by decide +kernel) (by decide +kernel) (by decide) (by decide +kernel) (by decide) rfl rfl (Nat.le_of_ble_eq_true rfl) (Nat.le_of_ble_eq_true rfl) (am_S_ob S (by decide +kernel))
theorem g22_145 : am_J d 22 145 ls [] h Q ↔ Q none h := j_rt (i := .return_) (by decide +kernel) (by rw [show (am_me 22).2.2.1 = none by decide +kernel]; rfl)
end G22
section G23
-- method 23: LoadBook$Lexer.isLetter(I)Z
variable {d : Nat} {ls : am_Lo} {st : List Value} {h : am_H} {Q : Option Value → am_H → Prop} {v0 : Option Value}
theorem g23_0 {x : Int32}  : am_J d 23 0 [some (.int x)] st h Q ↔ am_J d 23 1 [some (.int x)] (.int x :: st) h Q := j_lc (i := .iload_n 0) (k := 1) (by decide +kernel) (fun _ => rfl) rfl rfl rfl
theorem g23_1   : am_J d 23 1 ls st h Q ↔ am_J d 23 3 ls (.int (nI 97) :: st) h Q := j_bipush (n := 97) (by decide +kernel) (by decide +kernel)
theorem g23_3 {x y : Int32} : am_J d 23 3 ls (.int y :: .int x :: st) h Q ↔ (if x < y then am_J d 23 16 ls st h Q else am_J d 23 6 ls st h Q) := j_ic (c := .lt) (off := 13) (by decide +kernel) (by decide +kernel) rfl
theorem g23_6 {x : Int32}  : am_J d 23 6 [some (.int x)] st h Q ↔ am_J d 23 7 [some (.int x)] (.int x :: st) h Q := j_lc (i := .iload_n 0) (k := 1) (by decide +kernel) (fun _ => rfl) rfl rfl rfl
theorem g23_7   : am_J d 23 7 ls st h Q ↔ am_J d 23 9 ls (.int (nI 122) :: st) h Q := j_bipush (n := 122) (by decide +kernel) (by decide +kernel)
theorem g23_9 {x y : Int32} : am_J d 23 9 ls (.int y :: .int x :: st) h Q ↔ (if y < x then am_J d 23 16 ls st h Q else am_J d 23 12 ls st h Q) := j_ic (c := .gt) (off := 7) (by decide +kernel) (by decide +kernel) rfl
theorem g23_12   : am_J d 23 12 ls st h Q ↔ am_J d 23 13 ls (.int (nI 1) :: st) h Q := j_iconst (n := 1) (by decide +kernel) (by decide +kernel)
theorem g23_13   : am_J d 23 13 ls st h Q ↔ am_J d 23 17 ls st h Q := j_goto (off := 4) (by decide +kernel) (by decide +kernel)
theorem g23_16   : am_J d 23 16 ls st h Q ↔ am_J d 23 17 ls (.int (nI 0) :: st) h Q := j_iconst (n := 0) (by decide +kernel) (by decide +kernel)
theorem g23_17 {x : Int32} (hx : x = nI 0 ∨ x = nI 1) : am_J d 23 17 ls [.int x] h Q ↔ Q (some (.int x)) h := j_zret (by decide +kernel) (by decide +kernel) hx
end G23
section G24
-- method 24: LoadBook$Lexer.readName()V
variable {d : Nat} {ls : am_Lo} {st : List Value} {h : am_H} {Q : Option Value → am_H → Prop} {v0 : Option Value}
theorem g24_0   : am_J d 24 0 [some (.ref 302)] st h Q ↔ am_J d 24 1 [some (.ref 302)] (.ref 302 :: st) h Q := j_aload (i := .aload_n 0) (by decide +kernel) (Or.inl ⟨0, rfl, rfl, rfl⟩) rfl rfl
theorem g24_1   : am_J d 24 1 ls st h Q ↔ am_J d 24 2 ls (.long (lN 0) :: st) h Q := j_ps (i := .lconst 0) (k := 1) (by decide +kernel) (fun _ => rfl) rfl
theorem g24_2 {x : Int64}  (S : am_S h) : am_J d 24 2 ls (.long x :: .ref 302 :: st) h Q ↔ am_J d 24 5 ls st (am_setL h 302 4 x) Q := j_put (c := 3) (idx := 63) (k := 4) (by decide +kernel) (by decide +kernel) (by decide) (by decide +kernel) (Or.inl rfl) rfl (am_S_ob S (by decide +kernel)) (by decide)
theorem g24_5   : am_J d 24 5 [some (.ref 302)] st h Q ↔ am_J d 24 6 [some (.ref 302)] (.ref 302 :: st) h Q := j_aload (i := .aload_n 0) (by decide +kernel) (Or.inl ⟨0, rfl, rfl, rfl⟩) rfl rfl
theorem g24_6  (S : am_S h) : am_J d 24 6 ls (.ref 302 :: st) h Q ↔ am_J d 24 9 ls (.int (am_I h 302 1) :: st) h Q := j_get (c := 3) (idx := 19) (k := 1) (by decide +kernel) (by decide +kernel) (by decide) (by decide +kernel) rfl (am_S_ob S (by decide +kernel))
theorem g24_9   : am_J d 24 9 [some (.ref 302)] st h Q ↔ am_J d 24 10 [some (.ref 302)] (.ref 302 :: st) h Q := j_aload (i := .aload_n 0) (by decide +kernel) (Or.inl ⟨0, rfl, rfl, rfl⟩) rfl rfl
theorem g24_10  (S : am_S h) : am_J d 24 10 ls (.ref 302 :: st) h Q ↔ am_J d 24 13 ls (va_rf (am_R h 302 0) :: st) h Q := j_get (c := 3) (idx := 15) (k := 0) (by decide +kernel) (by decide +kernel) (by decide) (by decide +kernel) rfl (am_S_ob S (by decide +kernel))
theorem g24_13 {a : Nat} (O : am_ob h a 10) : am_J d 24 13 ls (.ref a :: st) h Q ↔ am_J d 24 16 ls (.int (am_I h a 1) :: st) h Q := j_get (idx := 34) (k := 1) (by decide +kernel) (by decide +kernel) (by decide) (by decide +kernel) rfl O
theorem g24_16 {x y : Int32} : am_J d 24 16 ls (.int y :: .int x :: st) h Q ↔ (if y ≤ x then am_J d 24 73 ls st h Q else am_J d 24 19 ls st h Q) := j_ic (c := .ge) (off := 57) (by decide +kernel) (by decide +kernel) rfl
theorem g24_19   : am_J d 24 19 [some (.ref 302)] st h Q ↔ am_J d 24 20 [some (.ref 302)] (.ref 302 :: st) h Q := j_aload (i := .aload_n 0) (by decide +kernel) (Or.inl ⟨0, rfl, rfl, rfl⟩) rfl rfl
theorem g24_20  (S : am_S h) : am_J d 24 20 ls (.ref 302 :: st) h Q ↔ am_J d 24 23 ls (va_rf (am_R h 302 0) :: st) h Q := j_get (c := 3) (idx := 15) (k := 0) (by decide +kernel) (by decide +kernel) (by decide) (by decide +kernel) rfl (am_S_ob S (by decide +kernel))
theorem g24_23   : am_J d 24 23 [some (.ref 302)] st h Q ↔ am_J d 24 24 [some (.ref 302)] (.ref 302 :: st) h Q := j_aload (i := .aload_n 0) (by decide +kernel) (Or.inl ⟨0, rfl, rfl, rfl⟩) rfl rfl
theorem g24_24  (S : am_S h) : am_J d 24 24 ls (.ref 302 :: st) h Q ↔ am_J d 24 27 ls (.int (am_I h 302 1) :: st) h Q := j_get (c := 3) (idx := 19) (k := 1) (by decide +kernel) (by decide +kernel) (by decide) (by decide +kernel) rfl (am_S_ob S (by decide +kernel))
theorem g24_27 {a0 : Int32} {b : Nat} (O : am_ob h b 10) : am_J (d + 1) 24 27 ls (.int a0 :: .ref b :: []) h Q ↔ am_J d 135 0 [some (.ref b), some (.int a0)] [] h (fun r h' => am_J (d + 1) 24 30 ls (r.toList ++ []) h' Q) := j_callV (idx := 39) (kd := 0) (mj := 135) (n := 1) (c := 10) (ml := 2) (as := [.int a0]) (rest := []) (by decide +kernel) (by decide +kernel) (by decide) (by decide +kernel) (by decide) rfl rfl (Nat.le_of_ble_eq_true rfl) (Nat.le_of_ble_eq_true rfl) O
theorem g24_30 {a0 : Int32}  : am_J (d + 1) 24 30 ls (.int a0 :: []) h Q ↔ am_J d 23 0 [some (.int a0)] [] h (fun r h' => am_J (d + 1) 24 33 ls (r.toList ++ []) h' Q) := j_callS (idx := 43) (kd := 2) (mj := 23) (n := 1) (ml := 1) (as := [.int a0]) (rest := []) (by decide +kernel) (by decide +kernel) (by decide) (by decide +kernel) (by decide) rfl rfl (Nat.le_of_ble_eq_true rfl) (Nat.le_of_ble_eq_true rfl)
theorem g24_33 {x : Int32} : am_J d 24 33 ls (.int x :: st) h Q ↔ (if x = 0 then am_J d 24 73 ls st h Q else am_J d 24 36 ls st h Q) := j_if (c := .eq) (off := 40) (by decide +kernel) (by decide +kernel) rfl
theorem g24_36   : am_J d 24 36 [some (.ref 302)] st h Q ↔ am_J d 24 37 [some (.ref 302)] (.ref 302 :: st) h Q := j_aload (i := .aload_n 0) (by decide +kernel) (Or.inl ⟨0, rfl, rfl, rfl⟩) rfl rfl
theorem g24_37   : am_J d 24 37 [some (.ref 302)] st h Q ↔ am_J d 24 38 [some (.ref 302)] (.ref 302 :: st) h Q := j_aload (i := .aload_n 0) (by decide +kernel) (Or.inl ⟨0, rfl, rfl, rfl⟩) rfl rfl
theorem g24_38  (S : am_S h) : am_J d 24 38 ls (.ref 302 :: st) h Q ↔ am_J d 24 41 ls (.long (am_L h 302 4) :: st) h Q := j_get (c := 3) (idx := 63) (k := 4) (by decide +kernel) (by decide +kernel) (by decide) (by decide +kernel) rfl (am_S_ob S (by decide +kernel))
theorem g24_41   : am_J d 24 41 ls st h Q ↔ am_J d 24 43 ls (.int (nI 8) :: st) h Q := j_bipush (n := 8) (by decide +kernel) (by decide +kernel)
theorem g24_43 {x : Int64} {y : Int32}  : am_J d 24 43 ls (.int y :: .long x :: st) h Q ↔ am_J d 24 44 ls (.long (x <<< (y.toInt64 &&& 63)) :: st) h Q := j_ps (i := .lshl) (k := 1) (by decide +kernel) (fun _ => rfl) rfl
theorem g24_44   : am_J d 24 44 [some (.ref 302)] st h Q ↔ am_J d 24 45 [some (.ref 302)] (.ref 302 :: st) h Q := j_aload (i := .aload_n 0) (by decide +kernel) (Or.inl ⟨0, rfl, rfl, rfl⟩) rfl rfl
theorem g24_45  (S : am_S h) : am_J d 24 45 ls (.ref 302 :: st) h Q ↔ am_J d 24 48 ls (va_rf (am_R h 302 0) :: st) h Q := j_get (c := 3) (idx := 15) (k := 0) (by decide +kernel) (by decide +kernel) (by decide) (by decide +kernel) rfl (am_S_ob S (by decide +kernel))
theorem g24_48   : am_J d 24 48 [some (.ref 302)] st h Q ↔ am_J d 24 49 [some (.ref 302)] (.ref 302 :: st) h Q := j_aload (i := .aload_n 0) (by decide +kernel) (Or.inl ⟨0, rfl, rfl, rfl⟩) rfl rfl
theorem g24_49  (S : am_S h) : am_J d 24 49 ls (.ref 302 :: st) h Q ↔ am_J d 24 52 ls (.int (am_I h 302 1) :: st) h Q := j_get (c := 3) (idx := 19) (k := 1) (by decide +kernel) (by decide +kernel) (by decide) (by decide +kernel) rfl (am_S_ob S (by decide +kernel))
theorem g24_52 {r0 : Int64} {a0 : Int32} {b : Nat} (O : am_ob h b 10) : am_J (d + 1) 24 52 ls (.int a0 :: .ref b :: [.long r0, .ref 302]) h Q ↔ am_J d 135 0 [some (.ref b), some (.int a0)] [] h (fun r h' => am_J (d + 1) 24 55 ls (r.toList ++ [.long r0, .ref 302]) h' Q) := j_callV (idx := 39) (kd := 0) (mj := 135) (n := 1) (c := 10) (ml := 2) (as := [.int a0]) (rest := [.long r0, .ref 302]) (by decide +kernel) (by decide +kernel) (by decide) (by decide +kernel) (by decide) rfl rfl (Nat.le_of_ble_eq_true rfl) (Nat.le_of_ble_eq_true rfl) O
theorem g24_55 {x : Int32}  : am_J d 24 55 ls (.int x :: st) h Q ↔ am_J d 24 56 ls (.long (x.toInt64) :: st) h Q := j_ps (i := .i2l) (k := 1) (by decide +kernel) (fun _ => rfl) rfl
theorem g24_56 {x y : Int64}  : am_J d 24 56 ls (.long y :: .long x :: st) h Q ↔ am_J d 24 57 ls (.long (x ||| y) :: st) h Q := j_ps (i := .lor) (k := 1) (by decide +kernel) (fun _ => rfl) rfl
theorem g24_57 {x : Int64}  (S : am_S h) : am_J d 24 57 ls (.long x :: .ref 302 :: st) h Q ↔ am_J d 24 60 ls st (am_setL h 302 4 x) Q := j_put (c := 3) (idx := 63) (k := 4) (by decide +kernel) (by decide +kernel) (by decide) (by decide +kernel) (Or.inl rfl) rfl (am_S_ob S (by decide +kernel)) (by decide)
theorem g24_60   : am_J d 24 60 [some (.ref 302)] st h Q ↔ am_J d 24 61 [some (.ref 302)] (.ref 302 :: st) h Q := j_aload (i := .aload_n 0) (by decide +kernel) (Or.inl ⟨0, rfl, rfl, rfl⟩) rfl rfl
theorem g24_61   : am_J d 24 61 ls (.ref 302 :: st) h Q ↔ am_J d 24 62 ls (.ref 302 :: .ref 302 :: st) h Q := j_dup (by decide +kernel) rfl
theorem g24_62  (S : am_S h) : am_J d 24 62 ls (.ref 302 :: st) h Q ↔ am_J d 24 65 ls (.int (am_I h 302 1) :: st) h Q := j_get (c := 3) (idx := 19) (k := 1) (by decide +kernel) (by decide +kernel) (by decide) (by decide +kernel) rfl (am_S_ob S (by decide +kernel))
theorem g24_65   : am_J d 24 65 ls st h Q ↔ am_J d 24 66 ls (.int (nI 1) :: st) h Q := j_iconst (n := 1) (by decide +kernel) (by decide +kernel)
theorem g24_66 {x y : Int32}  : am_J d 24 66 ls (.int y :: .int x :: st) h Q ↔ am_J d 24 67 ls (.int (x + y) :: st) h Q := j_ps (i := .iadd) (k := 1) (by decide +kernel) (fun _ => rfl) rfl
theorem g24_67 {x : Int32}  (S : am_S h) : am_J d 24 67 ls (.int x :: .ref 302 :: st) h Q ↔ am_J d 24 70 ls st (am_setI h 302 1 x) Q := j_put (c := 3) (idx := 19) (k := 1) (by decide +kernel) (by decide +kernel) (by decide) (by decide +kernel) (Or.inl rfl) rfl (am_S_ob S (by decide +kernel)) (by decide)
theorem g24_70   : am_J d 24 70 ls st h Q ↔ am_J d 24 5 ls st h Q := j_goto (off := -65) (by decide +kernel) (by decide +kernel)
theorem g24_73   : am_J d 24 73 [some (.ref 302)] st h Q ↔ am_J d 24 74 [some (.ref 302)] (.ref 302 :: st) h Q := j_aload (i := .aload_n 0) (by decide +kernel) (Or.inl ⟨0, rfl, rfl, rfl⟩) rfl rfl
theorem g24_74   : am_J d 24 74 ls st h Q ↔ am_J d 24 77 ls (.int (nI 258) :: st) h Q := j_sipush (n := 258) (by decide +kernel) (by decide +kernel)
theorem g24_77 {x : Int32}  (S : am_S h) : am_J d 24 77 ls (.int x :: .ref 302 :: st) h Q ↔ am_J d 24 80 ls st (am_setI h 302 2 x) Q := j_put (c := 3) (idx := 22) (k := 2) (by decide +kernel) (by decide +kernel) (by decide) (by decide +kernel) (Or.inl rfl) rfl (am_S_ob S (by decide +kernel)) (by decide)
theorem g24_80   : am_J d 24 80 [some (.ref 302)] st h Q ↔ am_J d 24 81 [some (.ref 302)] (.ref 302 :: st) h Q := j_aload (i := .aload_n 0) (by decide +kernel) (Or.inl ⟨0, rfl, rfl, rfl⟩) rfl rfl
theorem g24_81  (S : am_S h) : am_J d 24 81 ls (.ref 302 :: st) h Q ↔ am_J d 24 84 ls (.int (am_I h 302 1) :: st) h Q := j_get (c := 3) (idx := 19) (k := 1) (by decide +kernel) (by decide +kernel) (by decide) (by decide +kernel) rfl (am_S_ob S (by decide +kernel))
theorem g24_84   : am_J d 24 84 [some (.ref 302)] st h Q ↔ am_J d 24 85 [some (.ref 302)] (.ref 302 :: st) h Q := j_aload (i := .aload_n 0) (by decide +kernel) (Or.inl ⟨0, rfl, rfl, rfl⟩) rfl rfl
theorem g24_85  (S : am_S h) : am_J d 24 85 ls (.ref 302 :: st) h Q ↔ am_J d 24 88 ls (.int (am_I h 302 3) :: st) h Q := j_get (c := 3) (idx := 31) (k := 3) (by decide +kernel) (by decide +kernel) (by decide) (by decide +kernel) rfl (am_S_ob S (by decide +kernel))
theorem g24_88 {x y : Int32}  : am_J d 24 88 ls (.int y :: .int x :: st) h Q ↔ am_J d 24 89 ls (.int (x - y) :: st) h Q := j_ps (i := .isub) (k := 1) (by decide +kernel) (fun _ => rfl) rfl
theorem g24_89   : am_J d 24 89 ls st h Q ↔ am_J d 24 91 ls (.int (nI 8) :: st) h Q := j_bipush (n := 8) (by decide +kernel) (by decide +kernel)
theorem g24_91 {x y : Int32} : am_J d 24 91 ls (.int y :: .int x :: st) h Q ↔ (if x ≤ y then am_J d 24 99 ls st h Q else am_J d 24 94 ls st h Q) := j_ic (c := .le) (off := 8) (by decide +kernel) (by decide +kernel) rfl
theorem g24_94   : am_J d 24 94 [some (.ref 302)] st h Q ↔ am_J d 24 95 [some (.ref 302)] (.ref 302 :: st) h Q := j_aload (i := .aload_n 0) (by decide +kernel) (Or.inl ⟨0, rfl, rfl, rfl⟩) rfl rfl
theorem g24_95   : am_J d 24 95 ls st h Q ↔ am_J d 24 96 ls (.int (nI 1) :: st) h Q := j_iconst (n := 1) (by decide +kernel) (by decide +kernel)
theorem g24_96 {a0 : Int32} (S : am_S h) : am_J (d + 1) 24 96 ls (.int a0 :: .ref 302 :: []) h Q ↔ am_J d 25 0 [some (.ref 302), some (.int a0)] [] h (fun r h' => am_J (d + 1) 24 99 ls (r.toList ++ []) h' Q) := j_callV (idx := 67) (kd := 0) (mj := 25) (n := 1) (b := 302) (c := 3) (ml := 2) (as := [.int a0]) (rest := []) (by decide +kernel) (by decide +kernel) (by decide) (by decide +kernel) (by decide) rfl rfl (Nat.le_of_ble_eq_true rfl) (Nat.le_of_ble_eq_true rfl) (am_S_ob S (by decide +kernel))
theorem g24_99 : am_J d 24 99 ls [] h Q ↔ Q none h := j_rt (i := .return_) (by decide +kernel) (by rw [show (am_me 24).2.2.1 = none by decide +kernel]; rfl)
end G24
section G25
-- method 25: LoadBook$Lexer.refuse(I)V
variable {d : Nat} {ls : am_Lo} {st : List Value} {h : am_H} {Q : Option Value → am_H → Prop} {v0 v1 : Option Value}
theorem g25_0   : am_J d 25 0 [some (.ref 302), v1] st h Q ↔ am_J d 25 1 [some (.ref 302), v1] (.ref 302 :: st) h Q := j_aload (i := .aload_n 0) (by decide +kernel) (Or.inl ⟨0, rfl, rfl, rfl⟩) rfl rfl
theorem g25_1  (S : am_S h) : am_J d 25 1 ls (.ref 302 :: st) h Q ↔ am_J d 25 4 ls (.int (am_I h 302 8) :: st) h Q := j_get (c := 3) (idx := 25) (k := 8) (by decide +kernel) (by decide +kernel) (by decide) (by decide +kernel) rfl (am_S_ob S (by decide +kernel))
theorem g25_4 {x : Int32} : am_J d 25 4 ls (.int x :: st) h Q ↔ (if x = 0 then am_J d 25 7 ls st h Q else am_J d 25 20 ls st h Q) := j_ifN (off := 16) (by decide +kernel) (by decide +kernel)
theorem g25_7   : am_J d 25 7 [some (.ref 302), v1] st h Q ↔ am_J d 25 8 [some (.ref 302), v1] (.ref 302 :: st) h Q := j_aload (i := .aload_n 0) (by decide +kernel) (Or.inl ⟨0, rfl, rfl, rfl⟩) rfl rfl
theorem g25_8 {x : Int32}  : am_J d 25 8 [v0, some (.int x)] st h Q ↔ am_J d 25 9 [v0, some (.int x)] (.int x :: st) h Q := j_lc (i := .iload_n 1) (k := 1) (by decide +kernel) (fun _ => rfl) rfl rfl rfl
theorem g25_9 {x : Int32}  (S : am_S h) : am_J d 25 9 ls (.int x :: .ref 302 :: st) h Q ↔ am_J d 25 12 ls st (am_setI h 302 8 x) Q := j_put (c := 3) (idx := 25) (k := 8) (by decide +kernel) (by decide +kernel) (by decide) (by decide +kernel) (Or.inl rfl) rfl (am_S_ob S (by decide +kernel)) (by decide)
theorem g25_12   : am_J d 25 12 [some (.ref 302), v1] st h Q ↔ am_J d 25 13 [some (.ref 302), v1] (.ref 302 :: st) h Q := j_aload (i := .aload_n 0) (by decide +kernel) (Or.inl ⟨0, rfl, rfl, rfl⟩) rfl rfl
theorem g25_13   : am_J d 25 13 [some (.ref 302), v1] st h Q ↔ am_J d 25 14 [some (.ref 302), v1] (.ref 302 :: st) h Q := j_aload (i := .aload_n 0) (by decide +kernel) (Or.inl ⟨0, rfl, rfl, rfl⟩) rfl rfl
theorem g25_14  (S : am_S h) : am_J d 25 14 ls (.ref 302 :: st) h Q ↔ am_J d 25 17 ls (.int (am_I h 302 3) :: st) h Q := j_get (c := 3) (idx := 31) (k := 3) (by decide +kernel) (by decide +kernel) (by decide) (by decide +kernel) rfl (am_S_ob S (by decide +kernel))
theorem g25_17 {x : Int32}  (S : am_S h) : am_J d 25 17 ls (.int x :: .ref 302 :: st) h Q ↔ am_J d 25 20 ls st (am_setI h 302 9 x) Q := j_put (c := 3) (idx := 9) (k := 9) (by decide +kernel) (by decide +kernel) (by decide) (by decide +kernel) (Or.inl rfl) rfl (am_S_ob S (by decide +kernel)) (by decide)
theorem g25_20   : am_J d 25 20 [some (.ref 302), v1] st h Q ↔ am_J d 25 21 [some (.ref 302), v1] (.ref 302 :: st) h Q := j_aload (i := .aload_n 0) (by decide +kernel) (Or.inl ⟨0, rfl, rfl, rfl⟩) rfl rfl
theorem g25_21   : am_J d 25 21 ls st h Q ↔ am_J d 25 24 ls (.int (nI 263) :: st) h Q := j_sipush (n := 263) (by decide +kernel) (by decide +kernel)
theorem g25_24 {x : Int32}  (S : am_S h) : am_J d 25 24 ls (.int x :: .ref 302 :: st) h Q ↔ am_J d 25 27 ls st (am_setI h 302 2 x) Q := j_put (c := 3) (idx := 22) (k := 2) (by decide +kernel) (by decide +kernel) (by decide) (by decide +kernel) (Or.inl rfl) rfl (am_S_ob S (by decide +kernel)) (by decide)
theorem g25_27 : am_J d 25 27 ls [] h Q ↔ Q none h := j_rt (i := .return_) (by decide +kernel) (by rw [show (am_me 25).2.2.1 = none by decide +kernel]; rfl)
end G25
section G26
-- method 26: LoadBook$Lexer.isDigit(I)Z
variable {d : Nat} {ls : am_Lo} {st : List Value} {h : am_H} {Q : Option Value → am_H → Prop} {v0 : Option Value}
theorem g26_0 {x : Int32}  : am_J d 26 0 [some (.int x)] st h Q ↔ am_J d 26 1 [some (.int x)] (.int x :: st) h Q := j_lc (i := .iload_n 0) (k := 1) (by decide +kernel) (fun _ => rfl) rfl rfl rfl
theorem g26_1   : am_J d 26 1 ls st h Q ↔ am_J d 26 3 ls (.int (nI 48) :: st) h Q := j_bipush (n := 48) (by decide +kernel) (by decide +kernel)
theorem g26_3 {x y : Int32} : am_J d 26 3 ls (.int y :: .int x :: st) h Q ↔ (if x < y then am_J d 26 16 ls st h Q else am_J d 26 6 ls st h Q) := j_ic (c := .lt) (off := 13) (by decide +kernel) (by decide +kernel) rfl
theorem g26_6 {x : Int32}  : am_J d 26 6 [some (.int x)] st h Q ↔ am_J d 26 7 [some (.int x)] (.int x :: st) h Q := j_lc (i := .iload_n 0) (k := 1) (by decide +kernel) (fun _ => rfl) rfl rfl rfl
theorem g26_7   : am_J d 26 7 ls st h Q ↔ am_J d 26 9 ls (.int (nI 57) :: st) h Q := j_bipush (n := 57) (by decide +kernel) (by decide +kernel)
theorem g26_9 {x y : Int32} : am_J d 26 9 ls (.int y :: .int x :: st) h Q ↔ (if y < x then am_J d 26 16 ls st h Q else am_J d 26 12 ls st h Q) := j_ic (c := .gt) (off := 7) (by decide +kernel) (by decide +kernel) rfl
theorem g26_12   : am_J d 26 12 ls st h Q ↔ am_J d 26 13 ls (.int (nI 1) :: st) h Q := j_iconst (n := 1) (by decide +kernel) (by decide +kernel)
theorem g26_13   : am_J d 26 13 ls st h Q ↔ am_J d 26 17 ls st h Q := j_goto (off := 4) (by decide +kernel) (by decide +kernel)
theorem g26_16   : am_J d 26 16 ls st h Q ↔ am_J d 26 17 ls (.int (nI 0) :: st) h Q := j_iconst (n := 0) (by decide +kernel) (by decide +kernel)
theorem g26_17 {x : Int32} (hx : x = nI 0 ∨ x = nI 1) : am_J d 26 17 ls [.int x] h Q ↔ Q (some (.int x)) h := j_zret (by decide +kernel) (by decide +kernel) hx
end G26
section G27
-- method 27: LoadBook$Lexer.readDigits()V
variable {d : Nat} {ls : am_Lo} {st : List Value} {h : am_H} {Q : Option Value → am_H → Prop} {v0 v1 : Option Value}
theorem g27_0   : am_J d 27 0 [some (.ref 302), v1] st h Q ↔ am_J d 27 1 [some (.ref 302), v1] (.ref 302 :: st) h Q := j_aload (i := .aload_n 0) (by decide +kernel) (Or.inl ⟨0, rfl, rfl, rfl⟩) rfl rfl
theorem g27_1   : am_J d 27 1 ls st h Q ↔ am_J d 27 2 ls (.long (lN 0) :: st) h Q := j_ps (i := .lconst 0) (k := 1) (by decide +kernel) (fun _ => rfl) rfl
theorem g27_2 {x : Int64}  (S : am_S h) : am_J d 27 2 ls (.long x :: .ref 302 :: st) h Q ↔ am_J d 27 5 ls st (am_setL h 302 5 x) Q := j_put (c := 3) (idx := 70) (k := 5) (by decide +kernel) (by decide +kernel) (by decide) (by decide +kernel) (Or.inl rfl) rfl (am_S_ob S (by decide +kernel)) (by decide)
theorem g27_5   : am_J d 27 5 [some (.ref 302), v1] st h Q ↔ am_J d 27 6 [some (.ref 302), v1] (.ref 302 :: st) h Q := j_aload (i := .aload_n 0) (by decide +kernel) (Or.inl ⟨0, rfl, rfl, rfl⟩) rfl rfl
theorem g27_6   : am_J d 27 6 ls st h Q ↔ am_J d 27 7 ls (.int (nI 0) :: st) h Q := j_iconst (n := 0) (by decide +kernel) (by decide +kernel)
theorem g27_7 {x : Int32}  (S : am_S h) : am_J d 27 7 ls (.int x :: .ref 302 :: st) h Q ↔ am_J d 27 10 ls st (am_setI h 302 6 x) Q := j_put (c := 3) (idx := 73) (k := 6) (by decide +kernel) (by decide +kernel) (by decide) (by decide +kernel) (Or.inl rfl) rfl (am_S_ob S (by decide +kernel)) (by decide)
theorem g27_10   : am_J d 27 10 [some (.ref 302), v1] st h Q ↔ am_J d 27 11 [some (.ref 302), v1] (.ref 302 :: st) h Q := j_aload (i := .aload_n 0) (by decide +kernel) (Or.inl ⟨0, rfl, rfl, rfl⟩) rfl rfl
theorem g27_11 (S : am_S h) : am_J (d + 1) 27 11 ls (.ref 302 :: []) h Q ↔ am_J d 28 0 [some (.ref 302), none] [] h (fun r h' => am_J (d + 1) 27 14 ls (r.toList ++ []) h' Q) := j_callV (idx := 76) (kd := 0) (mj := 28) (n := 0) (b := 302) (c := 3) (ml := 2) (as := []) (rest := []) (by decide +kernel) (by decide +kernel) (by decide) (by decide +kernel) (by decide) rfl rfl (Nat.le_of_ble_eq_true rfl) (Nat.le_of_ble_eq_true rfl) (am_S_ob S (by decide +kernel))
theorem g27_14 {x : Int32}  : am_J d 27 14 [v0, v1] (.int x :: st) h Q ↔ am_J d 27 15 [v0, some (.int x)] st h Q := j_lc (i := .istore_n 1) (k := 1) (by decide +kernel) (fun _ => rfl) rfl rfl rfl
theorem g27_15   : am_J d 27 15 [some (.ref 302), v1] st h Q ↔ am_J d 27 16 [some (.ref 302), v1] (.ref 302 :: st) h Q := j_aload (i := .aload_n 0) (by decide +kernel) (Or.inl ⟨0, rfl, rfl, rfl⟩) rfl rfl
theorem g27_16   : am_J d 27 16 ls st h Q ↔ am_J d 27 19 ls (.int (nI 260) :: st) h Q := j_sipush (n := 260) (by decide +kernel) (by decide +kernel)
theorem g27_19 {x : Int32}  (S : am_S h) : am_J d 27 19 ls (.int x :: .ref 302 :: st) h Q ↔ am_J d 27 22 ls st (am_setI h 302 2 x) Q := j_put (c := 3) (idx := 22) (k := 2) (by decide +kernel) (by decide +kernel) (by decide) (by decide +kernel) (Or.inl rfl) rfl (am_S_ob S (by decide +kernel)) (by decide)
theorem g27_22   : am_J d 27 22 [some (.ref 302), v1] st h Q ↔ am_J d 27 23 [some (.ref 302), v1] (.ref 302 :: st) h Q := j_aload (i := .aload_n 0) (by decide +kernel) (Or.inl ⟨0, rfl, rfl, rfl⟩) rfl rfl
theorem g27_23  (S : am_S h) : am_J d 27 23 ls (.ref 302 :: st) h Q ↔ am_J d 27 26 ls (va_rf (am_R h 302 0) :: st) h Q := j_get (c := 3) (idx := 15) (k := 0) (by decide +kernel) (by decide +kernel) (by decide) (by decide +kernel) rfl (am_S_ob S (by decide +kernel))
theorem g27_26   : am_J d 27 26 [some (.ref 302), v1] st h Q ↔ am_J d 27 27 [some (.ref 302), v1] (.ref 302 :: st) h Q := j_aload (i := .aload_n 0) (by decide +kernel) (Or.inl ⟨0, rfl, rfl, rfl⟩) rfl rfl
theorem g27_27  (S : am_S h) : am_J d 27 27 ls (.ref 302 :: st) h Q ↔ am_J d 27 30 ls (.int (am_I h 302 1) :: st) h Q := j_get (c := 3) (idx := 19) (k := 1) (by decide +kernel) (by decide +kernel) (by decide) (by decide +kernel) rfl (am_S_ob S (by decide +kernel))
theorem g27_30 {a0 : Int32} {b : Nat} (O : am_ob h b 10) : am_J (d + 1) 27 30 ls (.int a0 :: .ref b :: []) h Q ↔ am_J d 135 0 [some (.ref b), some (.int a0)] [] h (fun r h' => am_J (d + 1) 27 33 ls (r.toList ++ []) h' Q) := j_callV (idx := 39) (kd := 0) (mj := 135) (n := 1) (c := 10) (ml := 2) (as := [.int a0]) (rest := []) (by decide +kernel) (by decide +kernel) (by decide) (by decide +kernel) (by decide) rfl rfl (Nat.le_of_ble_eq_true rfl) (Nat.le_of_ble_eq_true rfl) O
theorem g27_33   : am_J d 27 33 ls st h Q ↔ am_J d 27 35 ls (.int (nI 46) :: st) h Q := j_bipush (n := 46) (by decide +kernel) (by decide +kernel)
theorem g27_35 {x y : Int32} : am_J d 27 35 ls (.int y :: .int x :: st) h Q ↔ (if x = y then am_J d 27 38 ls st h Q else am_J d 27 82 ls st h Q) := j_icN (off := 47) (by decide +kernel) (by decide +kernel)
theorem g27_38   : am_J d 27 38 [some (.ref 302), v1] st h Q ↔ am_J d 27 39 [some (.ref 302), v1] (.ref 302 :: st) h Q := j_aload (i := .aload_n 0) (by decide +kernel) (Or.inl ⟨0, rfl, rfl, rfl⟩) rfl rfl
theorem g27_39  (S : am_S h) : am_J d 27 39 ls (.ref 302 :: st) h Q ↔ am_J d 27 42 ls (va_rf (am_R h 302 0) :: st) h Q := j_get (c := 3) (idx := 15) (k := 0) (by decide +kernel) (by decide +kernel) (by decide) (by decide +kernel) rfl (am_S_ob S (by decide +kernel))
theorem g27_42   : am_J d 27 42 [some (.ref 302), v1] st h Q ↔ am_J d 27 43 [some (.ref 302), v1] (.ref 302 :: st) h Q := j_aload (i := .aload_n 0) (by decide +kernel) (Or.inl ⟨0, rfl, rfl, rfl⟩) rfl rfl
theorem g27_43  (S : am_S h) : am_J d 27 43 ls (.ref 302 :: st) h Q ↔ am_J d 27 46 ls (.int (am_I h 302 1) :: st) h Q := j_get (c := 3) (idx := 19) (k := 1) (by decide +kernel) (by decide +kernel) (by decide) (by decide +kernel) rfl (am_S_ob S (by decide +kernel))
theorem g27_46   : am_J d 27 46 ls st h Q ↔ am_J d 27 47 ls (.int (nI 1) :: st) h Q := j_iconst (n := 1) (by decide +kernel) (by decide +kernel)
theorem g27_47 {x y : Int32}  : am_J d 27 47 ls (.int y :: .int x :: st) h Q ↔ am_J d 27 48 ls (.int (x + y) :: st) h Q := j_ps (i := .iadd) (k := 1) (by decide +kernel) (fun _ => rfl) rfl
theorem g27_48 {a0 : Int32} {b : Nat} (O : am_ob h b 10) : am_J (d + 1) 27 48 ls (.int a0 :: .ref b :: []) h Q ↔ am_J d 135 0 [some (.ref b), some (.int a0)] [] h (fun r h' => am_J (d + 1) 27 51 ls (r.toList ++ []) h' Q) := j_callV (idx := 39) (kd := 0) (mj := 135) (n := 1) (c := 10) (ml := 2) (as := [.int a0]) (rest := []) (by decide +kernel) (by decide +kernel) (by decide) (by decide +kernel) (by decide) rfl rfl (Nat.le_of_ble_eq_true rfl) (Nat.le_of_ble_eq_true rfl) O
theorem g27_51 {a0 : Int32}  : am_J (d + 1) 27 51 ls (.int a0 :: []) h Q ↔ am_J d 26 0 [some (.int a0)] [] h (fun r h' => am_J (d + 1) 27 54 ls (r.toList ++ []) h' Q) := j_callS (idx := 50) (kd := 2) (mj := 26) (n := 1) (ml := 1) (as := [.int a0]) (rest := []) (by decide +kernel) (by decide +kernel) (by decide) (by decide +kernel) (by decide) rfl rfl (Nat.le_of_ble_eq_true rfl) (Nat.le_of_ble_eq_true rfl)
theorem g27_54 {x : Int32} : am_J d 27 54 ls (.int x :: st) h Q ↔ (if x = 0 then am_J d 27 82 ls st h Q else am_J d 27 57 ls st h Q) := j_if (c := .eq) (off := 28) (by decide +kernel) (by decide +kernel) rfl
theorem g27_57   : am_J d 27 57 [some (.ref 302), v1] st h Q ↔ am_J d 27 58 [some (.ref 302), v1] (.ref 302 :: st) h Q := j_aload (i := .aload_n 0) (by decide +kernel) (Or.inl ⟨0, rfl, rfl, rfl⟩) rfl rfl
theorem g27_58   : am_J d 27 58 ls (.ref 302 :: st) h Q ↔ am_J d 27 59 ls (.ref 302 :: .ref 302 :: st) h Q := j_dup (by decide +kernel) rfl
theorem g27_59  (S : am_S h) : am_J d 27 59 ls (.ref 302 :: st) h Q ↔ am_J d 27 62 ls (.int (am_I h 302 1) :: st) h Q := j_get (c := 3) (idx := 19) (k := 1) (by decide +kernel) (by decide +kernel) (by decide) (by decide +kernel) rfl (am_S_ob S (by decide +kernel))
theorem g27_62   : am_J d 27 62 ls st h Q ↔ am_J d 27 63 ls (.int (nI 1) :: st) h Q := j_iconst (n := 1) (by decide +kernel) (by decide +kernel)
theorem g27_63 {x y : Int32}  : am_J d 27 63 ls (.int y :: .int x :: st) h Q ↔ am_J d 27 64 ls (.int (x + y) :: st) h Q := j_ps (i := .iadd) (k := 1) (by decide +kernel) (fun _ => rfl) rfl
theorem g27_64 {x : Int32}  (S : am_S h) : am_J d 27 64 ls (.int x :: .ref 302 :: st) h Q ↔ am_J d 27 67 ls st (am_setI h 302 1 x) Q := j_put (c := 3) (idx := 19) (k := 1) (by decide +kernel) (by decide +kernel) (by decide) (by decide +kernel) (Or.inl rfl) rfl (am_S_ob S (by decide +kernel)) (by decide)
theorem g27_67   : am_J d 27 67 [some (.ref 302), v1] st h Q ↔ am_J d 27 68 [some (.ref 302), v1] (.ref 302 :: st) h Q := j_aload (i := .aload_n 0) (by decide +kernel) (Or.inl ⟨0, rfl, rfl, rfl⟩) rfl rfl
theorem g27_68   : am_J d 27 68 [some (.ref 302), v1] st h Q ↔ am_J d 27 69 [some (.ref 302), v1] (.ref 302 :: st) h Q := j_aload (i := .aload_n 0) (by decide +kernel) (Or.inl ⟨0, rfl, rfl, rfl⟩) rfl rfl
theorem g27_69 (S : am_S h) : am_J (d + 1) 27 69 ls (.ref 302 :: [.ref 302]) h Q ↔ am_J d 28 0 [some (.ref 302), none] [] h (fun r h' => am_J (d + 1) 27 72 ls (r.toList ++ [.ref 302]) h' Q) := j_callV (idx := 76) (kd := 0) (mj := 28) (n := 0) (b := 302) (c := 3) (ml := 2) (as := []) (rest := [.ref 302]) (by decide +kernel) (by decide +kernel) (by decide) (by decide +kernel) (by decide) rfl rfl (Nat.le_of_ble_eq_true rfl) (Nat.le_of_ble_eq_true rfl) (am_S_ob S (by decide +kernel))
theorem g27_72 {x : Int32}  (S : am_S h) : am_J d 27 72 ls (.int x :: .ref 302 :: st) h Q ↔ am_J d 27 75 ls st (am_setI h 302 6 x) Q := j_put (c := 3) (idx := 73) (k := 6) (by decide +kernel) (by decide +kernel) (by decide) (by decide +kernel) (Or.inl rfl) rfl (am_S_ob S (by decide +kernel)) (by decide)
theorem g27_75   : am_J d 27 75 [some (.ref 302), v1] st h Q ↔ am_J d 27 76 [some (.ref 302), v1] (.ref 302 :: st) h Q := j_aload (i := .aload_n 0) (by decide +kernel) (Or.inl ⟨0, rfl, rfl, rfl⟩) rfl rfl
theorem g27_76   : am_J d 27 76 ls st h Q ↔ am_J d 27 79 ls (.int (nI 261) :: st) h Q := j_sipush (n := 261) (by decide +kernel) (by decide +kernel)
theorem g27_79 {x : Int32}  (S : am_S h) : am_J d 27 79 ls (.int x :: .ref 302 :: st) h Q ↔ am_J d 27 82 ls st (am_setI h 302 2 x) Q := j_put (c := 3) (idx := 22) (k := 2) (by decide +kernel) (by decide +kernel) (by decide) (by decide +kernel) (Or.inl rfl) rfl (am_S_ob S (by decide +kernel)) (by decide)
theorem g27_82 {x : Int32}  : am_J d 27 82 [v0, some (.int x)] st h Q ↔ am_J d 27 83 [v0, some (.int x)] (.int x :: st) h Q := j_lc (i := .iload_n 1) (k := 1) (by decide +kernel) (fun _ => rfl) rfl rfl rfl
theorem g27_83   : am_J d 27 83 [some (.ref 302), v1] st h Q ↔ am_J d 27 84 [some (.ref 302), v1] (.ref 302 :: st) h Q := j_aload (i := .aload_n 0) (by decide +kernel) (Or.inl ⟨0, rfl, rfl, rfl⟩) rfl rfl
theorem g27_84  (S : am_S h) : am_J d 27 84 ls (.ref 302 :: st) h Q ↔ am_J d 27 87 ls (.int (am_I h 302 6) :: st) h Q := j_get (c := 3) (idx := 73) (k := 6) (by decide +kernel) (by decide +kernel) (by decide) (by decide +kernel) rfl (am_S_ob S (by decide +kernel))
theorem g27_87 {x y : Int32}  : am_J d 27 87 ls (.int y :: .int x :: st) h Q ↔ am_J d 27 88 ls (.int (x + y) :: st) h Q := j_ps (i := .iadd) (k := 1) (by decide +kernel) (fun _ => rfl) rfl
theorem g27_88   : am_J d 27 88 [some (.ref 302), v1] st h Q ↔ am_J d 27 89 [some (.ref 302), v1] (.ref 302 :: st) h Q := j_aload (i := .aload_n 0) (by decide +kernel) (Or.inl ⟨0, rfl, rfl, rfl⟩) rfl rfl
theorem g27_89  (S : am_S h) : am_J d 27 89 ls (.ref 302 :: st) h Q ↔ am_J d 27 92 ls (.int (am_I h 302 2) :: st) h Q := j_get (c := 3) (idx := 22) (k := 2) (by decide +kernel) (by decide +kernel) (by decide) (by decide +kernel) rfl (am_S_ob S (by decide +kernel))
theorem g27_92   : am_J d 27 92 ls st h Q ↔ am_J d 27 95 ls (.int (nI 260) :: st) h Q := j_sipush (n := 260) (by decide +kernel) (by decide +kernel)
theorem g27_95 {x y : Int32} : am_J d 27 95 ls (.int y :: .int x :: st) h Q ↔ (if x = y then am_J d 27 98 ls st h Q else am_J d 27 103 ls st h Q) := j_icN (off := 8) (by decide +kernel) (by decide +kernel)
theorem g27_98   : am_J d 27 98 ls st h Q ↔ am_J d 27 100 ls (.int (nI 18) :: st) h Q := j_bipush (n := 18) (by decide +kernel) (by decide +kernel)
theorem g27_100   : am_J d 27 100 ls st h Q ↔ am_J d 27 105 ls st h Q := j_goto (off := 5) (by decide +kernel) (by decide +kernel)
theorem g27_103   : am_J d 27 103 ls st h Q ↔ am_J d 27 105 ls (.int (nI 15) :: st) h Q := j_bipush (n := 15) (by decide +kernel) (by decide +kernel)
theorem g27_105 {x y : Int32} : am_J d 27 105 ls (.int y :: .int x :: st) h Q ↔ (if x ≤ y then am_J d 27 113 ls st h Q else am_J d 27 108 ls st h Q) := j_ic (c := .le) (off := 8) (by decide +kernel) (by decide +kernel) rfl
theorem g27_108   : am_J d 27 108 [some (.ref 302), v1] st h Q ↔ am_J d 27 109 [some (.ref 302), v1] (.ref 302 :: st) h Q := j_aload (i := .aload_n 0) (by decide +kernel) (Or.inl ⟨0, rfl, rfl, rfl⟩) rfl rfl
theorem g27_109   : am_J d 27 109 ls st h Q ↔ am_J d 27 110 ls (.int (nI 1) :: st) h Q := j_iconst (n := 1) (by decide +kernel) (by decide +kernel)
theorem g27_110 {a0 : Int32} (S : am_S h) : am_J (d + 1) 27 110 ls (.int a0 :: .ref 302 :: []) h Q ↔ am_J d 25 0 [some (.ref 302), some (.int a0)] [] h (fun r h' => am_J (d + 1) 27 113 ls (r.toList ++ []) h' Q) := j_callV (idx := 67) (kd := 0) (mj := 25) (n := 1) (b := 302) (c := 3) (ml := 2) (as := [.int a0]) (rest := []) (by decide +kernel) (by decide +kernel) (by decide) (by decide +kernel) (by decide) rfl rfl (Nat.le_of_ble_eq_true rfl) (Nat.le_of_ble_eq_true rfl) (am_S_ob S (by decide +kernel))
theorem g27_113 : am_J d 27 113 ls [] h Q ↔ Q none h := j_rt (i := .return_) (by decide +kernel) (by rw [show (am_me 27).2.2.1 = none by decide +kernel]; rfl)
end G27
section G28
-- method 28: LoadBook$Lexer.readRun()I
variable {d : Nat} {ls : am_Lo} {st : List Value} {h : am_H} {Q : Option Value → am_H → Prop} {v0 v1 : Option Value}
theorem g28_0   : am_J d 28 0 [some (.ref 302), v1] st h Q ↔ am_J d 28 1 [some (.ref 302), v1] (.ref 302 :: st) h Q := j_aload (i := .aload_n 0) (by decide +kernel) (Or.inl ⟨0, rfl, rfl, rfl⟩) rfl rfl
theorem g28_1  (S : am_S h) : am_J d 28 1 ls (.ref 302 :: st) h Q ↔ am_J d 28 4 ls (.int (am_I h 302 1) :: st) h Q := j_get (c := 3) (idx := 19) (k := 1) (by decide +kernel) (by decide +kernel) (by decide) (by decide +kernel) rfl (am_S_ob S (by decide +kernel))
theorem g28_4 {x : Int32}  : am_J d 28 4 [v0, v1] (.int x :: st) h Q ↔ am_J d 28 5 [v0, some (.int x)] st h Q := j_lc (i := .istore_n 1) (k := 1) (by decide +kernel) (fun _ => rfl) rfl rfl rfl
theorem g28_5   : am_J d 28 5 [some (.ref 302), v1] st h Q ↔ am_J d 28 6 [some (.ref 302), v1] (.ref 302 :: st) h Q := j_aload (i := .aload_n 0) (by decide +kernel) (Or.inl ⟨0, rfl, rfl, rfl⟩) rfl rfl
theorem g28_6  (S : am_S h) : am_J d 28 6 ls (.ref 302 :: st) h Q ↔ am_J d 28 9 ls (.int (am_I h 302 1) :: st) h Q := j_get (c := 3) (idx := 19) (k := 1) (by decide +kernel) (by decide +kernel) (by decide) (by decide +kernel) rfl (am_S_ob S (by decide +kernel))
theorem g28_9   : am_J d 28 9 [some (.ref 302), v1] st h Q ↔ am_J d 28 10 [some (.ref 302), v1] (.ref 302 :: st) h Q := j_aload (i := .aload_n 0) (by decide +kernel) (Or.inl ⟨0, rfl, rfl, rfl⟩) rfl rfl
theorem g28_10  (S : am_S h) : am_J d 28 10 ls (.ref 302 :: st) h Q ↔ am_J d 28 13 ls (va_rf (am_R h 302 0) :: st) h Q := j_get (c := 3) (idx := 15) (k := 0) (by decide +kernel) (by decide +kernel) (by decide) (by decide +kernel) rfl (am_S_ob S (by decide +kernel))
theorem g28_13 {a : Nat} (O : am_ob h a 10) : am_J d 28 13 ls (.ref a :: st) h Q ↔ am_J d 28 16 ls (.int (am_I h a 1) :: st) h Q := j_get (idx := 34) (k := 1) (by decide +kernel) (by decide +kernel) (by decide) (by decide +kernel) rfl O
theorem g28_16 {x y : Int32} : am_J d 28 16 ls (.int y :: .int x :: st) h Q ↔ (if y ≤ x then am_J d 28 95 ls st h Q else am_J d 28 19 ls st h Q) := j_ic (c := .ge) (off := 79) (by decide +kernel) (by decide +kernel) rfl
theorem g28_19   : am_J d 28 19 [some (.ref 302), v1] st h Q ↔ am_J d 28 20 [some (.ref 302), v1] (.ref 302 :: st) h Q := j_aload (i := .aload_n 0) (by decide +kernel) (Or.inl ⟨0, rfl, rfl, rfl⟩) rfl rfl
theorem g28_20  (S : am_S h) : am_J d 28 20 ls (.ref 302 :: st) h Q ↔ am_J d 28 23 ls (va_rf (am_R h 302 0) :: st) h Q := j_get (c := 3) (idx := 15) (k := 0) (by decide +kernel) (by decide +kernel) (by decide) (by decide +kernel) rfl (am_S_ob S (by decide +kernel))
theorem g28_23 {a : Nat} (O : am_ob h a 10) : am_J d 28 23 ls (.ref a :: st) h Q ↔ am_J d 28 26 ls (va_rf (am_R h a 0) :: st) h Q := j_get (idx := 80) (k := 0) (by decide +kernel) (by decide +kernel) (by decide) (by decide +kernel) rfl O
theorem g28_26   : am_J d 28 26 [some (.ref 302), v1] st h Q ↔ am_J d 28 27 [some (.ref 302), v1] (.ref 302 :: st) h Q := j_aload (i := .aload_n 0) (by decide +kernel) (Or.inl ⟨0, rfl, rfl, rfl⟩) rfl rfl
theorem g28_27  (S : am_S h) : am_J d 28 27 ls (.ref 302 :: st) h Q ↔ am_J d 28 30 ls (.int (am_I h 302 1) :: st) h Q := j_get (c := 3) (idx := 19) (k := 1) (by decide +kernel) (by decide +kernel) (by decide) (by decide +kernel) rfl (am_S_ob S (by decide +kernel))
theorem g28_30 {a q : Nat} (X : am_ax h a 103 q) : am_J d 28 30 ls (.int (nI q) :: .ref a :: st) h Q ↔ am_J d 28 31 ls (.int (am_I h a q) :: st) h Q := j_ald (i := .baload) (by decide +kernel) (Or.inr (Or.inr (Or.inr ⟨rfl, rfl⟩))) (by decide) (by decide) rfl X
theorem g28_31   : am_J d 28 31 ls st h Q ↔ am_J d 28 33 ls (.int (nI 48) :: st) h Q := j_bipush (n := 48) (by decide +kernel) (by decide +kernel)
theorem g28_33 {x y : Int32} : am_J d 28 33 ls (.int y :: .int x :: st) h Q ↔ (if x < y then am_J d 28 95 ls st h Q else am_J d 28 36 ls st h Q) := j_ic (c := .lt) (off := 62) (by decide +kernel) (by decide +kernel) rfl
theorem g28_36   : am_J d 28 36 [some (.ref 302), v1] st h Q ↔ am_J d 28 37 [some (.ref 302), v1] (.ref 302 :: st) h Q := j_aload (i := .aload_n 0) (by decide +kernel) (Or.inl ⟨0, rfl, rfl, rfl⟩) rfl rfl
theorem g28_37  (S : am_S h) : am_J d 28 37 ls (.ref 302 :: st) h Q ↔ am_J d 28 40 ls (va_rf (am_R h 302 0) :: st) h Q := j_get (c := 3) (idx := 15) (k := 0) (by decide +kernel) (by decide +kernel) (by decide) (by decide +kernel) rfl (am_S_ob S (by decide +kernel))
theorem g28_40 {a : Nat} (O : am_ob h a 10) : am_J d 28 40 ls (.ref a :: st) h Q ↔ am_J d 28 43 ls (va_rf (am_R h a 0) :: st) h Q := j_get (idx := 80) (k := 0) (by decide +kernel) (by decide +kernel) (by decide) (by decide +kernel) rfl O
theorem g28_43   : am_J d 28 43 [some (.ref 302), v1] st h Q ↔ am_J d 28 44 [some (.ref 302), v1] (.ref 302 :: st) h Q := j_aload (i := .aload_n 0) (by decide +kernel) (Or.inl ⟨0, rfl, rfl, rfl⟩) rfl rfl
theorem g28_44  (S : am_S h) : am_J d 28 44 ls (.ref 302 :: st) h Q ↔ am_J d 28 47 ls (.int (am_I h 302 1) :: st) h Q := j_get (c := 3) (idx := 19) (k := 1) (by decide +kernel) (by decide +kernel) (by decide) (by decide +kernel) rfl (am_S_ob S (by decide +kernel))
theorem g28_47 {a q : Nat} (X : am_ax h a 103 q) : am_J d 28 47 ls (.int (nI q) :: .ref a :: st) h Q ↔ am_J d 28 48 ls (.int (am_I h a q) :: st) h Q := j_ald (i := .baload) (by decide +kernel) (Or.inr (Or.inr (Or.inr ⟨rfl, rfl⟩))) (by decide) (by decide) rfl X
theorem g28_48   : am_J d 28 48 ls st h Q ↔ am_J d 28 50 ls (.int (nI 57) :: st) h Q := j_bipush (n := 57) (by decide +kernel) (by decide +kernel)
theorem g28_50 {x y : Int32} : am_J d 28 50 ls (.int y :: .int x :: st) h Q ↔ (if y < x then am_J d 28 95 ls st h Q else am_J d 28 53 ls st h Q) := j_ic (c := .gt) (off := 45) (by decide +kernel) (by decide +kernel) rfl
theorem g28_53   : am_J d 28 53 [some (.ref 302), v1] st h Q ↔ am_J d 28 54 [some (.ref 302), v1] (.ref 302 :: st) h Q := j_aload (i := .aload_n 0) (by decide +kernel) (Or.inl ⟨0, rfl, rfl, rfl⟩) rfl rfl
theorem g28_54   : am_J d 28 54 [some (.ref 302), v1] st h Q ↔ am_J d 28 55 [some (.ref 302), v1] (.ref 302 :: st) h Q := j_aload (i := .aload_n 0) (by decide +kernel) (Or.inl ⟨0, rfl, rfl, rfl⟩) rfl rfl
theorem g28_55  (S : am_S h) : am_J d 28 55 ls (.ref 302 :: st) h Q ↔ am_J d 28 58 ls (.long (am_L h 302 5) :: st) h Q := j_get (c := 3) (idx := 70) (k := 5) (by decide +kernel) (by decide +kernel) (by decide) (by decide +kernel) rfl (am_S_ob S (by decide +kernel))
theorem g28_58   : am_J d 28 58 ls st h Q ↔ am_J d 28 61 ls (.long (lN 10) :: st) h Q := j_ldc2 (idx := 84) (by decide +kernel) (by decide +kernel) (Or.inl ⟨_, rfl⟩)
theorem g28_61 {x y : Int64}  : am_J d 28 61 ls (.long y :: .long x :: st) h Q ↔ am_J d 28 62 ls (.long (x * y) :: st) h Q := j_ps (i := .lmul) (k := 1) (by decide +kernel) (fun _ => rfl) rfl
theorem g28_62   : am_J d 28 62 [some (.ref 302), v1] st h Q ↔ am_J d 28 63 [some (.ref 302), v1] (.ref 302 :: st) h Q := j_aload (i := .aload_n 0) (by decide +kernel) (Or.inl ⟨0, rfl, rfl, rfl⟩) rfl rfl
theorem g28_63  (S : am_S h) : am_J d 28 63 ls (.ref 302 :: st) h Q ↔ am_J d 28 66 ls (va_rf (am_R h 302 0) :: st) h Q := j_get (c := 3) (idx := 15) (k := 0) (by decide +kernel) (by decide +kernel) (by decide) (by decide +kernel) rfl (am_S_ob S (by decide +kernel))
theorem g28_66 {a : Nat} (O : am_ob h a 10) : am_J d 28 66 ls (.ref a :: st) h Q ↔ am_J d 28 69 ls (va_rf (am_R h a 0) :: st) h Q := j_get (idx := 80) (k := 0) (by decide +kernel) (by decide +kernel) (by decide) (by decide +kernel) rfl O
theorem g28_69   : am_J d 28 69 [some (.ref 302), v1] st h Q ↔ am_J d 28 70 [some (.ref 302), v1] (.ref 302 :: st) h Q := j_aload (i := .aload_n 0) (by decide +kernel) (Or.inl ⟨0, rfl, rfl, rfl⟩) rfl rfl
theorem g28_70  (S : am_S h) : am_J d 28 70 ls (.ref 302 :: st) h Q ↔ am_J d 28 73 ls (.int (am_I h 302 1) :: st) h Q := j_get (c := 3) (idx := 19) (k := 1) (by decide +kernel) (by decide +kernel) (by decide) (by decide +kernel) rfl (am_S_ob S (by decide +kernel))
theorem g28_73 {a q : Nat} (X : am_ax h a 103 q) : am_J d 28 73 ls (.int (nI q) :: .ref a :: st) h Q ↔ am_J d 28 74 ls (.int (am_I h a q) :: st) h Q := j_ald (i := .baload) (by decide +kernel) (Or.inr (Or.inr (Or.inr ⟨rfl, rfl⟩))) (by decide) (by decide) rfl X
theorem g28_74   : am_J d 28 74 ls st h Q ↔ am_J d 28 76 ls (.int (nI 48) :: st) h Q := j_bipush (n := 48) (by decide +kernel) (by decide +kernel)
theorem g28_76 {x y : Int32}  : am_J d 28 76 ls (.int y :: .int x :: st) h Q ↔ am_J d 28 77 ls (.int (x - y) :: st) h Q := j_ps (i := .isub) (k := 1) (by decide +kernel) (fun _ => rfl) rfl
theorem g28_77 {x : Int32}  : am_J d 28 77 ls (.int x :: st) h Q ↔ am_J d 28 78 ls (.long (x.toInt64) :: st) h Q := j_ps (i := .i2l) (k := 1) (by decide +kernel) (fun _ => rfl) rfl
theorem g28_78 {x y : Int64}  : am_J d 28 78 ls (.long y :: .long x :: st) h Q ↔ am_J d 28 79 ls (.long (x + y) :: st) h Q := j_ps (i := .ladd) (k := 1) (by decide +kernel) (fun _ => rfl) rfl
theorem g28_79 {x : Int64}  (S : am_S h) : am_J d 28 79 ls (.long x :: .ref 302 :: st) h Q ↔ am_J d 28 82 ls st (am_setL h 302 5 x) Q := j_put (c := 3) (idx := 70) (k := 5) (by decide +kernel) (by decide +kernel) (by decide) (by decide +kernel) (Or.inl rfl) rfl (am_S_ob S (by decide +kernel)) (by decide)
theorem g28_82   : am_J d 28 82 [some (.ref 302), v1] st h Q ↔ am_J d 28 83 [some (.ref 302), v1] (.ref 302 :: st) h Q := j_aload (i := .aload_n 0) (by decide +kernel) (Or.inl ⟨0, rfl, rfl, rfl⟩) rfl rfl
theorem g28_83   : am_J d 28 83 ls (.ref 302 :: st) h Q ↔ am_J d 28 84 ls (.ref 302 :: .ref 302 :: st) h Q := j_dup (by decide +kernel) rfl
theorem g28_84  (S : am_S h) : am_J d 28 84 ls (.ref 302 :: st) h Q ↔ am_J d 28 87 ls (.int (am_I h 302 1) :: st) h Q := j_get (c := 3) (idx := 19) (k := 1) (by decide +kernel) (by decide +kernel) (by decide) (by decide +kernel) rfl (am_S_ob S (by decide +kernel))
theorem g28_87   : am_J d 28 87 ls st h Q ↔ am_J d 28 88 ls (.int (nI 1) :: st) h Q := j_iconst (n := 1) (by decide +kernel) (by decide +kernel)
theorem g28_88 {x y : Int32}  : am_J d 28 88 ls (.int y :: .int x :: st) h Q ↔ am_J d 28 89 ls (.int (x + y) :: st) h Q := j_ps (i := .iadd) (k := 1) (by decide +kernel) (fun _ => rfl) rfl
theorem g28_89 {x : Int32}  (S : am_S h) : am_J d 28 89 ls (.int x :: .ref 302 :: st) h Q ↔ am_J d 28 92 ls st (am_setI h 302 1 x) Q := j_put (c := 3) (idx := 19) (k := 1) (by decide +kernel) (by decide +kernel) (by decide) (by decide +kernel) (Or.inl rfl) rfl (am_S_ob S (by decide +kernel)) (by decide)
theorem g28_92   : am_J d 28 92 ls st h Q ↔ am_J d 28 5 ls st h Q := j_goto (off := -87) (by decide +kernel) (by decide +kernel)
theorem g28_95   : am_J d 28 95 [some (.ref 302), v1] st h Q ↔ am_J d 28 96 [some (.ref 302), v1] (.ref 302 :: st) h Q := j_aload (i := .aload_n 0) (by decide +kernel) (Or.inl ⟨0, rfl, rfl, rfl⟩) rfl rfl
theorem g28_96  (S : am_S h) : am_J d 28 96 ls (.ref 302 :: st) h Q ↔ am_J d 28 99 ls (.int (am_I h 302 1) :: st) h Q := j_get (c := 3) (idx := 19) (k := 1) (by decide +kernel) (by decide +kernel) (by decide) (by decide +kernel) rfl (am_S_ob S (by decide +kernel))
theorem g28_99 {x : Int32}  : am_J d 28 99 [v0, some (.int x)] st h Q ↔ am_J d 28 100 [v0, some (.int x)] (.int x :: st) h Q := j_lc (i := .iload_n 1) (k := 1) (by decide +kernel) (fun _ => rfl) rfl rfl rfl
theorem g28_100 {x y : Int32}  : am_J d 28 100 ls (.int y :: .int x :: st) h Q ↔ am_J d 28 101 ls (.int (x - y) :: st) h Q := j_ps (i := .isub) (k := 1) (by decide +kernel) (fun _ => rfl) rfl
theorem g28_101 {x : Int32}  : am_J d 28 101 ls [.int x] h Q ↔ Q (some (.int x)) h := j_iret (by decide +kernel) (by decide +kernel)
end G28
section G29
-- method 29: LoadBook$Lexer.readRef(I)V
variable {d : Nat} {ls : am_Lo} {st : List Value} {h : am_H} {Q : Option Value → am_H → Prop} {v0 v1 v2 v3 : Option Value}
theorem g29_0   : am_J d 29 0 [some (.ref 302), v1, v2, v3] st h Q ↔ am_J d 29 1 [some (.ref 302), v1, v2, v3] (.ref 302 :: st) h Q := j_aload (i := .aload_n 0) (by decide +kernel) (Or.inl ⟨0, rfl, rfl, rfl⟩) rfl rfl
theorem g29_1  (S : am_S h) : am_J d 29 1 ls (.ref 302 :: st) h Q ↔ am_J d 29 4 ls (va_rf (am_R h 302 0) :: st) h Q := j_get (c := 3) (idx := 15) (k := 0) (by decide +kernel) (by decide +kernel) (by decide) (by decide +kernel) rfl (am_S_ob S (by decide +kernel))
theorem g29_4   : am_J d 29 4 [some (.ref 302), v1, v2, v3] st h Q ↔ am_J d 29 5 [some (.ref 302), v1, v2, v3] (.ref 302 :: st) h Q := j_aload (i := .aload_n 0) (by decide +kernel) (Or.inl ⟨0, rfl, rfl, rfl⟩) rfl rfl
theorem g29_5  (S : am_S h) : am_J d 29 5 ls (.ref 302 :: st) h Q ↔ am_J d 29 8 ls (.int (am_I h 302 1) :: st) h Q := j_get (c := 3) (idx := 19) (k := 1) (by decide +kernel) (by decide +kernel) (by decide) (by decide +kernel) rfl (am_S_ob S (by decide +kernel))
theorem g29_8   : am_J d 29 8 ls st h Q ↔ am_J d 29 9 ls (.int (nI 1) :: st) h Q := j_iconst (n := 1) (by decide +kernel) (by decide +kernel)
theorem g29_9 {x y : Int32}  : am_J d 29 9 ls (.int y :: .int x :: st) h Q ↔ am_J d 29 10 ls (.int (x + y) :: st) h Q := j_ps (i := .iadd) (k := 1) (by decide +kernel) (fun _ => rfl) rfl
theorem g29_10 {a0 : Int32} {b : Nat} (O : am_ob h b 10) : am_J (d + 1) 29 10 ls (.int a0 :: .ref b :: []) h Q ↔ am_J d 135 0 [some (.ref b), some (.int a0)] [] h (fun r h' => am_J (d + 1) 29 13 ls (r.toList ++ []) h' Q) := j_callV (idx := 39) (kd := 0) (mj := 135) (n := 1) (c := 10) (ml := 2) (as := [.int a0]) (rest := []) (by decide +kernel) (by decide +kernel) (by decide) (by decide +kernel) (by decide) rfl rfl (Nat.le_of_ble_eq_true rfl) (Nat.le_of_ble_eq_true rfl) O
theorem g29_13   : am_J d 29 13 ls st h Q ↔ am_J d 29 15 ls (.int (nI 97) :: st) h Q := j_bipush (n := 97) (by decide +kernel) (by decide +kernel)
theorem g29_15 {x y : Int32}  : am_J d 29 15 ls (.int y :: .int x :: st) h Q ↔ am_J d 29 16 ls (.int (x - y) :: st) h Q := j_ps (i := .isub) (k := 1) (by decide +kernel) (fun _ => rfl) rfl
theorem g29_16 {x : Int32}  : am_J d 29 16 [v0, v1, v2, v3] (.int x :: st) h Q ↔ am_J d 29 17 [v0, v1, some (.int x), v3] st h Q := j_lc (i := .istore_n 2) (k := 1) (by decide +kernel) (fun _ => rfl) rfl rfl rfl
theorem g29_17   : am_J d 29 17 [some (.ref 302), v1, v2, v3] st h Q ↔ am_J d 29 18 [some (.ref 302), v1, v2, v3] (.ref 302 :: st) h Q := j_aload (i := .aload_n 0) (by decide +kernel) (Or.inl ⟨0, rfl, rfl, rfl⟩) rfl rfl
theorem g29_18  (S : am_S h) : am_J d 29 18 ls (.ref 302 :: st) h Q ↔ am_J d 29 21 ls (va_rf (am_R h 302 0) :: st) h Q := j_get (c := 3) (idx := 15) (k := 0) (by decide +kernel) (by decide +kernel) (by decide) (by decide +kernel) rfl (am_S_ob S (by decide +kernel))
theorem g29_21   : am_J d 29 21 [some (.ref 302), v1, v2, v3] st h Q ↔ am_J d 29 22 [some (.ref 302), v1, v2, v3] (.ref 302 :: st) h Q := j_aload (i := .aload_n 0) (by decide +kernel) (Or.inl ⟨0, rfl, rfl, rfl⟩) rfl rfl
theorem g29_22  (S : am_S h) : am_J d 29 22 ls (.ref 302 :: st) h Q ↔ am_J d 29 25 ls (.int (am_I h 302 1) :: st) h Q := j_get (c := 3) (idx := 19) (k := 1) (by decide +kernel) (by decide +kernel) (by decide) (by decide +kernel) rfl (am_S_ob S (by decide +kernel))
theorem g29_25   : am_J d 29 25 ls st h Q ↔ am_J d 29 26 ls (.int (nI 2) :: st) h Q := j_iconst (n := 2) (by decide +kernel) (by decide +kernel)
theorem g29_26 {x y : Int32}  : am_J d 29 26 ls (.int y :: .int x :: st) h Q ↔ am_J d 29 27 ls (.int (x + y) :: st) h Q := j_ps (i := .iadd) (k := 1) (by decide +kernel) (fun _ => rfl) rfl
theorem g29_27 {a0 : Int32} {b : Nat} (O : am_ob h b 10) : am_J (d + 1) 29 27 ls (.int a0 :: .ref b :: []) h Q ↔ am_J d 135 0 [some (.ref b), some (.int a0)] [] h (fun r h' => am_J (d + 1) 29 30 ls (r.toList ++ []) h' Q) := j_callV (idx := 39) (kd := 0) (mj := 135) (n := 1) (c := 10) (ml := 2) (as := [.int a0]) (rest := []) (by decide +kernel) (by decide +kernel) (by decide) (by decide +kernel) (by decide) rfl rfl (Nat.le_of_ble_eq_true rfl) (Nat.le_of_ble_eq_true rfl) O
theorem g29_30   : am_J d 29 30 ls st h Q ↔ am_J d 29 32 ls (.int (nI 48) :: st) h Q := j_bipush (n := 48) (by decide +kernel) (by decide +kernel)
theorem g29_32 {x y : Int32}  : am_J d 29 32 ls (.int y :: .int x :: st) h Q ↔ am_J d 29 33 ls (.int (x - y) :: st) h Q := j_ps (i := .isub) (k := 1) (by decide +kernel) (fun _ => rfl) rfl
theorem g29_33 {x : Int32}  : am_J d 29 33 [v0, v1, v2, v3] (.int x :: st) h Q ↔ am_J d 29 34 [v0, v1, v2, some (.int x)] st h Q := j_lc (i := .istore_n 3) (k := 1) (by decide +kernel) (fun _ => rfl) rfl rfl rfl
theorem g29_34 {x : Int32}  : am_J d 29 34 [v0, v1, some (.int x), v3] st h Q ↔ am_J d 29 35 [v0, v1, some (.int x), v3] (.int x :: st) h Q := j_lc (i := .iload_n 2) (k := 1) (by decide +kernel) (fun _ => rfl) rfl rfl rfl
theorem g29_35 {x : Int32} : am_J d 29 35 ls (.int x :: st) h Q ↔ (if x < 0 then am_J d 29 54 ls st h Q else am_J d 29 38 ls st h Q) := j_if (c := .lt) (off := 19) (by decide +kernel) (by decide +kernel) rfl
theorem g29_38 {x : Int32}  : am_J d 29 38 [v0, v1, some (.int x), v3] st h Q ↔ am_J d 29 39 [v0, v1, some (.int x), v3] (.int x :: st) h Q := j_lc (i := .iload_n 2) (k := 1) (by decide +kernel) (fun _ => rfl) rfl rfl rfl
theorem g29_39   : am_J d 29 39 ls st h Q ↔ am_J d 29 41 ls (.int (nI 7) :: st) h Q := j_bipush (n := 7) (by decide +kernel) (by decide +kernel)
theorem g29_41 {x y : Int32} : am_J d 29 41 ls (.int y :: .int x :: st) h Q ↔ (if y < x then am_J d 29 54 ls st h Q else am_J d 29 44 ls st h Q) := j_ic (c := .gt) (off := 13) (by decide +kernel) (by decide +kernel) rfl
theorem g29_44 {x : Int32}  : am_J d 29 44 [v0, v1, v2, some (.int x)] st h Q ↔ am_J d 29 45 [v0, v1, v2, some (.int x)] (.int x :: st) h Q := j_lc (i := .iload_n 3) (k := 1) (by decide +kernel) (fun _ => rfl) rfl rfl rfl
theorem g29_45 {x : Int32} : am_J d 29 45 ls (.int x :: st) h Q ↔ (if x < 0 then am_J d 29 54 ls st h Q else am_J d 29 48 ls st h Q) := j_if (c := .lt) (off := 9) (by decide +kernel) (by decide +kernel) rfl
theorem g29_48 {x : Int32}  : am_J d 29 48 [v0, v1, v2, some (.int x)] st h Q ↔ am_J d 29 49 [v0, v1, v2, some (.int x)] (.int x :: st) h Q := j_lc (i := .iload_n 3) (k := 1) (by decide +kernel) (fun _ => rfl) rfl rfl rfl
theorem g29_49   : am_J d 29 49 ls st h Q ↔ am_J d 29 51 ls (.int (nI 7) :: st) h Q := j_bipush (n := 7) (by decide +kernel) (by decide +kernel)
theorem g29_51 {x y : Int32} : am_J d 29 51 ls (.int y :: .int x :: st) h Q ↔ (if x ≤ y then am_J d 29 60 ls st h Q else am_J d 29 54 ls st h Q) := j_ic (c := .le) (off := 9) (by decide +kernel) (by decide +kernel) rfl
theorem g29_54   : am_J d 29 54 [some (.ref 302), v1, v2, v3] st h Q ↔ am_J d 29 55 [some (.ref 302), v1, v2, v3] (.ref 302 :: st) h Q := j_aload (i := .aload_n 0) (by decide +kernel) (Or.inl ⟨0, rfl, rfl, rfl⟩) rfl rfl
theorem g29_55   : am_J d 29 55 ls st h Q ↔ am_J d 29 56 ls (.int (nI 1) :: st) h Q := j_iconst (n := 1) (by decide +kernel) (by decide +kernel)
theorem g29_56 {a0 : Int32} (S : am_S h) : am_J (d + 1) 29 56 ls (.int a0 :: .ref 302 :: []) h Q ↔ am_J d 25 0 [some (.ref 302), some (.int a0)] [] h (fun r h' => am_J (d + 1) 29 59 ls (r.toList ++ []) h' Q) := j_callV (idx := 67) (kd := 0) (mj := 25) (n := 1) (b := 302) (c := 3) (ml := 2) (as := [.int a0]) (rest := []) (by decide +kernel) (by decide +kernel) (by decide) (by decide +kernel) (by decide) rfl rfl (Nat.le_of_ble_eq_true rfl) (Nat.le_of_ble_eq_true rfl) (am_S_ob S (by decide +kernel))
theorem g29_59 : am_J d 29 59 ls [] h Q ↔ Q none h := j_rt (i := .return_) (by decide +kernel) (by rw [show (am_me 29).2.2.1 = none by decide +kernel]; rfl)
theorem g29_60   : am_J d 29 60 [some (.ref 302), v1, v2, v3] st h Q ↔ am_J d 29 61 [some (.ref 302), v1, v2, v3] (.ref 302 :: st) h Q := j_aload (i := .aload_n 0) (by decide +kernel) (Or.inl ⟨0, rfl, rfl, rfl⟩) rfl rfl
theorem g29_61   : am_J d 29 61 ls st h Q ↔ am_J d 29 63 ls (.int (nI 64) :: st) h Q := j_bipush (n := 64) (by decide +kernel) (by decide +kernel)
theorem g29_63 {x : Int32}  : am_J d 29 63 [v0, some (.int x), v2, v3] st h Q ↔ am_J d 29 64 [v0, some (.int x), v2, v3] (.int x :: st) h Q := j_lc (i := .iload_n 1) (k := 1) (by decide +kernel) (fun _ => rfl) rfl rfl rfl
theorem g29_64 {x y : Int32}  : am_J d 29 64 ls (.int y :: .int x :: st) h Q ↔ am_J d 29 65 ls (.int (x * y) :: st) h Q := j_ps (i := .imul) (k := 1) (by decide +kernel) (fun _ => rfl) rfl
theorem g29_65   : am_J d 29 65 ls st h Q ↔ am_J d 29 67 ls (.int (nI 8) :: st) h Q := j_bipush (n := 8) (by decide +kernel) (by decide +kernel)
theorem g29_67 {x : Int32}  : am_J d 29 67 [v0, v1, v2, some (.int x)] st h Q ↔ am_J d 29 68 [v0, v1, v2, some (.int x)] (.int x :: st) h Q := j_lc (i := .iload_n 3) (k := 1) (by decide +kernel) (fun _ => rfl) rfl rfl rfl
theorem g29_68 {x y : Int32}  : am_J d 29 68 ls (.int y :: .int x :: st) h Q ↔ am_J d 29 69 ls (.int (x * y) :: st) h Q := j_ps (i := .imul) (k := 1) (by decide +kernel) (fun _ => rfl) rfl
theorem g29_69 {x y : Int32}  : am_J d 29 69 ls (.int y :: .int x :: st) h Q ↔ am_J d 29 70 ls (.int (x + y) :: st) h Q := j_ps (i := .iadd) (k := 1) (by decide +kernel) (fun _ => rfl) rfl
theorem g29_70 {x : Int32}  : am_J d 29 70 [v0, v1, some (.int x), v3] st h Q ↔ am_J d 29 71 [v0, v1, some (.int x), v3] (.int x :: st) h Q := j_lc (i := .iload_n 2) (k := 1) (by decide +kernel) (fun _ => rfl) rfl rfl rfl
theorem g29_71 {x y : Int32}  : am_J d 29 71 ls (.int y :: .int x :: st) h Q ↔ am_J d 29 72 ls (.int (x + y) :: st) h Q := j_ps (i := .iadd) (k := 1) (by decide +kernel) (fun _ => rfl) rfl
theorem g29_72 {x : Int32}  (S : am_S h) : am_J d 29 72 ls (.int x :: .ref 302 :: st) h Q ↔ am_J d 29 75 ls st (am_setI h 302 7 x) Q := j_put (c := 3) (idx := 86) (k := 7) (by decide +kernel) (by decide +kernel) (by decide) (by decide +kernel) (Or.inl rfl) rfl (am_S_ob S (by decide +kernel)) (by decide)
theorem g29_75   : am_J d 29 75 [some (.ref 302), v1, v2, v3] st h Q ↔ am_J d 29 76 [some (.ref 302), v1, v2, v3] (.ref 302 :: st) h Q := j_aload (i := .aload_n 0) (by decide +kernel) (Or.inl ⟨0, rfl, rfl, rfl⟩) rfl rfl
theorem g29_76   : am_J d 29 76 ls (.ref 302 :: st) h Q ↔ am_J d 29 77 ls (.ref 302 :: .ref 302 :: st) h Q := j_dup (by decide +kernel) rfl
theorem g29_77  (S : am_S h) : am_J d 29 77 ls (.ref 302 :: st) h Q ↔ am_J d 29 80 ls (.int (am_I h 302 1) :: st) h Q := j_get (c := 3) (idx := 19) (k := 1) (by decide +kernel) (by decide +kernel) (by decide) (by decide +kernel) rfl (am_S_ob S (by decide +kernel))
theorem g29_80   : am_J d 29 80 ls st h Q ↔ am_J d 29 81 ls (.int (nI 3) :: st) h Q := j_iconst (n := 3) (by decide +kernel) (by decide +kernel)
theorem g29_81 {x y : Int32}  : am_J d 29 81 ls (.int y :: .int x :: st) h Q ↔ am_J d 29 82 ls (.int (x + y) :: st) h Q := j_ps (i := .iadd) (k := 1) (by decide +kernel) (fun _ => rfl) rfl
theorem g29_82 {x : Int32}  (S : am_S h) : am_J d 29 82 ls (.int x :: .ref 302 :: st) h Q ↔ am_J d 29 85 ls st (am_setI h 302 1 x) Q := j_put (c := 3) (idx := 19) (k := 1) (by decide +kernel) (by decide +kernel) (by decide) (by decide +kernel) (Or.inl rfl) rfl (am_S_ob S (by decide +kernel)) (by decide)
theorem g29_85   : am_J d 29 85 [some (.ref 302), v1, v2, v3] st h Q ↔ am_J d 29 86 [some (.ref 302), v1, v2, v3] (.ref 302 :: st) h Q := j_aload (i := .aload_n 0) (by decide +kernel) (Or.inl ⟨0, rfl, rfl, rfl⟩) rfl rfl
theorem g29_86   : am_J d 29 86 ls st h Q ↔ am_J d 29 89 ls (.int (nI 259) :: st) h Q := j_sipush (n := 259) (by decide +kernel) (by decide +kernel)
theorem g29_89 {x : Int32}  (S : am_S h) : am_J d 29 89 ls (.int x :: .ref 302 :: st) h Q ↔ am_J d 29 92 ls st (am_setI h 302 2 x) Q := j_put (c := 3) (idx := 22) (k := 2) (by decide +kernel) (by decide +kernel) (by decide) (by decide +kernel) (Or.inl rfl) rfl (am_S_ob S (by decide +kernel)) (by decide)
theorem g29_92 : am_J d 29 92 ls [] h Q ↔ Q none h := j_rt (i := .return_) (by decide +kernel) (by rw [show (am_me 29).2.2.1 = none by decide +kernel]; rfl)
end G29
section G30
-- method 30: LoadBook$Lexer.readSign(I)V
variable {d : Nat} {ls : am_Lo} {st : List Value} {h : am_H} {Q : Option Value → am_H → Prop} {v0 v1 v2 : Option Value}
theorem g30_0   : am_J d 30 0 [some (.ref 302), v1, v2] st h Q ↔ am_J d 30 1 [some (.ref 302), v1, v2] (.ref 302 :: st) h Q := j_aload (i := .aload_n 0) (by decide +kernel) (Or.inl ⟨0, rfl, rfl, rfl⟩) rfl rfl
theorem g30_1  (S : am_S h) : am_J d 30 1 ls (.ref 302 :: st) h Q ↔ am_J d 30 4 ls (va_rf (am_R h 302 0) :: st) h Q := j_get (c := 3) (idx := 15) (k := 0) (by decide +kernel) (by decide +kernel) (by decide) (by decide +kernel) rfl (am_S_ob S (by decide +kernel))
theorem g30_4   : am_J d 30 4 [some (.ref 302), v1, v2] st h Q ↔ am_J d 30 5 [some (.ref 302), v1, v2] (.ref 302 :: st) h Q := j_aload (i := .aload_n 0) (by decide +kernel) (Or.inl ⟨0, rfl, rfl, rfl⟩) rfl rfl
theorem g30_5  (S : am_S h) : am_J d 30 5 ls (.ref 302 :: st) h Q ↔ am_J d 30 8 ls (.int (am_I h 302 1) :: st) h Q := j_get (c := 3) (idx := 19) (k := 1) (by decide +kernel) (by decide +kernel) (by decide) (by decide +kernel) rfl (am_S_ob S (by decide +kernel))
theorem g30_8   : am_J d 30 8 ls st h Q ↔ am_J d 30 9 ls (.int (nI 1) :: st) h Q := j_iconst (n := 1) (by decide +kernel) (by decide +kernel)
theorem g30_9 {x y : Int32}  : am_J d 30 9 ls (.int y :: .int x :: st) h Q ↔ am_J d 30 10 ls (.int (x + y) :: st) h Q := j_ps (i := .iadd) (k := 1) (by decide +kernel) (fun _ => rfl) rfl
theorem g30_10 {a0 : Int32} {b : Nat} (O : am_ob h b 10) : am_J (d + 1) 30 10 ls (.int a0 :: .ref b :: []) h Q ↔ am_J d 135 0 [some (.ref b), some (.int a0)] [] h (fun r h' => am_J (d + 1) 30 13 ls (r.toList ++ []) h' Q) := j_callV (idx := 39) (kd := 0) (mj := 135) (n := 1) (c := 10) (ml := 2) (as := [.int a0]) (rest := []) (by decide +kernel) (by decide +kernel) (by decide) (by decide +kernel) (by decide) rfl rfl (Nat.le_of_ble_eq_true rfl) (Nat.le_of_ble_eq_true rfl) O
theorem g30_13 {x : Int32}  : am_J d 30 13 [v0, v1, v2] (.int x :: st) h Q ↔ am_J d 30 14 [v0, v1, some (.int x)] st h Q := j_lc (i := .istore_n 2) (k := 1) (by decide +kernel) (fun _ => rfl) rfl rfl rfl
theorem g30_14 {x : Int32}  : am_J d 30 14 [v0, some (.int x), v2] st h Q ↔ am_J d 30 15 [v0, some (.int x), v2] (.int x :: st) h Q := j_lc (i := .iload_n 1) (k := 1) (by decide +kernel) (fun _ => rfl) rfl rfl rfl
theorem g30_15   : am_J d 30 15 ls st h Q ↔ am_J d 30 17 ls (.int (nI 60) :: st) h Q := j_bipush (n := 60) (by decide +kernel) (by decide +kernel)
theorem g30_17 {x y : Int32} : am_J d 30 17 ls (.int y :: .int x :: st) h Q ↔ (if x = y then am_J d 30 20 ls st h Q else am_J d 30 62 ls st h Q) := j_icN (off := 45) (by decide +kernel) (by decide +kernel)
theorem g30_20 {x : Int32}  : am_J d 30 20 [v0, v1, some (.int x)] st h Q ↔ am_J d 30 21 [v0, v1, some (.int x)] (.int x :: st) h Q := j_lc (i := .iload_n 2) (k := 1) (by decide +kernel) (fun _ => rfl) rfl rfl rfl
theorem g30_21   : am_J d 30 21 ls st h Q ↔ am_J d 30 23 ls (.int (nI 61) :: st) h Q := j_bipush (n := 61) (by decide +kernel) (by decide +kernel)
theorem g30_23 {x y : Int32} : am_J d 30 23 ls (.int y :: .int x :: st) h Q ↔ (if x = y then am_J d 30 32 ls st h Q else am_J d 30 26 ls st h Q) := j_ic (c := .eq) (off := 9) (by decide +kernel) (by decide +kernel) rfl
theorem g30_26 {x : Int32}  : am_J d 30 26 [v0, v1, some (.int x)] st h Q ↔ am_J d 30 27 [v0, v1, some (.int x)] (.int x :: st) h Q := j_lc (i := .iload_n 2) (k := 1) (by decide +kernel) (fun _ => rfl) rfl rfl rfl
theorem g30_27   : am_J d 30 27 ls st h Q ↔ am_J d 30 29 ls (.int (nI 62) :: st) h Q := j_bipush (n := 62) (by decide +kernel) (by decide +kernel)
theorem g30_29 {x y : Int32} : am_J d 30 29 ls (.int y :: .int x :: st) h Q ↔ (if x = y then am_J d 30 32 ls st h Q else am_J d 30 62 ls st h Q) := j_icN (off := 33) (by decide +kernel) (by decide +kernel)
theorem g30_32   : am_J d 30 32 [some (.ref 302), v1, v2] st h Q ↔ am_J d 30 33 [some (.ref 302), v1, v2] (.ref 302 :: st) h Q := j_aload (i := .aload_n 0) (by decide +kernel) (Or.inl ⟨0, rfl, rfl, rfl⟩) rfl rfl
theorem g30_33 {x : Int32}  : am_J d 30 33 [v0, v1, some (.int x)] st h Q ↔ am_J d 30 34 [v0, v1, some (.int x)] (.int x :: st) h Q := j_lc (i := .iload_n 2) (k := 1) (by decide +kernel) (fun _ => rfl) rfl rfl rfl
theorem g30_34   : am_J d 30 34 ls st h Q ↔ am_J d 30 36 ls (.int (nI 61) :: st) h Q := j_bipush (n := 61) (by decide +kernel) (by decide +kernel)
theorem g30_36 {x y : Int32} : am_J d 30 36 ls (.int y :: .int x :: st) h Q ↔ (if x = y then am_J d 30 39 ls st h Q else am_J d 30 45 ls st h Q) := j_icN (off := 9) (by decide +kernel) (by decide +kernel)
theorem g30_39   : am_J d 30 39 ls st h Q ↔ am_J d 30 42 ls (.int (nI 256) :: st) h Q := j_sipush (n := 256) (by decide +kernel) (by decide +kernel)
theorem g30_42   : am_J d 30 42 ls st h Q ↔ am_J d 30 48 ls st h Q := j_goto (off := 6) (by decide +kernel) (by decide +kernel)
theorem g30_45   : am_J d 30 45 ls st h Q ↔ am_J d 30 48 ls (.int (nI 257) :: st) h Q := j_sipush (n := 257) (by decide +kernel) (by decide +kernel)
theorem g30_48 {x : Int32}  (S : am_S h) : am_J d 30 48 ls (.int x :: .ref 302 :: st) h Q ↔ am_J d 30 51 ls st (am_setI h 302 2 x) Q := j_put (c := 3) (idx := 22) (k := 2) (by decide +kernel) (by decide +kernel) (by decide) (by decide +kernel) (Or.inl rfl) rfl (am_S_ob S (by decide +kernel)) (by decide)
theorem g30_51   : am_J d 30 51 [some (.ref 302), v1, v2] st h Q ↔ am_J d 30 52 [some (.ref 302), v1, v2] (.ref 302 :: st) h Q := j_aload (i := .aload_n 0) (by decide +kernel) (Or.inl ⟨0, rfl, rfl, rfl⟩) rfl rfl
theorem g30_52   : am_J d 30 52 ls (.ref 302 :: st) h Q ↔ am_J d 30 53 ls (.ref 302 :: .ref 302 :: st) h Q := j_dup (by decide +kernel) rfl
theorem g30_53  (S : am_S h) : am_J d 30 53 ls (.ref 302 :: st) h Q ↔ am_J d 30 56 ls (.int (am_I h 302 1) :: st) h Q := j_get (c := 3) (idx := 19) (k := 1) (by decide +kernel) (by decide +kernel) (by decide) (by decide +kernel) rfl (am_S_ob S (by decide +kernel))
theorem g30_56   : am_J d 30 56 ls st h Q ↔ am_J d 30 57 ls (.int (nI 2) :: st) h Q := j_iconst (n := 2) (by decide +kernel) (by decide +kernel)
theorem g30_57 {x y : Int32}  : am_J d 30 57 ls (.int y :: .int x :: st) h Q ↔ am_J d 30 58 ls (.int (x + y) :: st) h Q := j_ps (i := .iadd) (k := 1) (by decide +kernel) (fun _ => rfl) rfl
theorem g30_58 {x : Int32}  (S : am_S h) : am_J d 30 58 ls (.int x :: .ref 302 :: st) h Q ↔ am_J d 30 61 ls st (am_setI h 302 1 x) Q := j_put (c := 3) (idx := 19) (k := 1) (by decide +kernel) (by decide +kernel) (by decide) (by decide +kernel) (Or.inl rfl) rfl (am_S_ob S (by decide +kernel)) (by decide)
theorem g30_61 : am_J d 30 61 ls [] h Q ↔ Q none h := j_rt (i := .return_) (by decide +kernel) (by rw [show (am_me 30).2.2.1 = none by decide +kernel]; rfl)
theorem g30_62 {x : Int32}  : am_J d 30 62 [v0, some (.int x), v2] st h Q ↔ am_J d 30 63 [v0, some (.int x), v2] (.int x :: st) h Q := j_lc (i := .iload_n 1) (k := 1) (by decide +kernel) (fun _ => rfl) rfl rfl rfl
-- switch at 30 63
theorem g30_63 {x : Int32} {t : Nat} (ht : am_br (.tableswitch (131) (37) (61) #[(113), (131), (131), (113), (113), (113), (113), (113), (113), (131), (113), (131), (131), (131), (131), (131), (131), (131), (131), (131), (131), (113), (131), (113), (113)]) 63 113 (.int x :: st) = some (t, st)) : am_J d 30 63 ls (.int x :: st) h Q ↔ am_J d 30 t ls st h Q := j_br (i := .tableswitch (131) (37) (61) #[(113), (131), (131), (113), (113), (113), (113), (113), (113), (131), (113), (131), (131), (131), (131), (131), (131), (131), (131), (131), (131), (113), (131), (113), (113)]) (by decide +kernel) (fun _ => rfl) rfl ht
theorem g30_176   : am_J d 30 176 [some (.ref 302), v1, v2] st h Q ↔ am_J d 30 177 [some (.ref 302), v1, v2] (.ref 302 :: st) h Q := j_aload (i := .aload_n 0) (by decide +kernel) (Or.inl ⟨0, rfl, rfl, rfl⟩) rfl rfl
theorem g30_177 {x : Int32}  : am_J d 30 177 [v0, some (.int x), v2] st h Q ↔ am_J d 30 178 [v0, some (.int x), v2] (.int x :: st) h Q := j_lc (i := .iload_n 1) (k := 1) (by decide +kernel) (fun _ => rfl) rfl rfl rfl
theorem g30_178 {x : Int32}  (S : am_S h) : am_J d 30 178 ls (.int x :: .ref 302 :: st) h Q ↔ am_J d 30 181 ls st (am_setI h 302 2 x) Q := j_put (c := 3) (idx := 22) (k := 2) (by decide +kernel) (by decide +kernel) (by decide) (by decide +kernel) (Or.inl rfl) rfl (am_S_ob S (by decide +kernel)) (by decide)
theorem g30_181   : am_J d 30 181 [some (.ref 302), v1, v2] st h Q ↔ am_J d 30 182 [some (.ref 302), v1, v2] (.ref 302 :: st) h Q := j_aload (i := .aload_n 0) (by decide +kernel) (Or.inl ⟨0, rfl, rfl, rfl⟩) rfl rfl
theorem g30_182   : am_J d 30 182 ls (.ref 302 :: st) h Q ↔ am_J d 30 183 ls (.ref 302 :: .ref 302 :: st) h Q := j_dup (by decide +kernel) rfl
theorem g30_183  (S : am_S h) : am_J d 30 183 ls (.ref 302 :: st) h Q ↔ am_J d 30 186 ls (.int (am_I h 302 1) :: st) h Q := j_get (c := 3) (idx := 19) (k := 1) (by decide +kernel) (by decide +kernel) (by decide) (by decide +kernel) rfl (am_S_ob S (by decide +kernel))
theorem g30_186   : am_J d 30 186 ls st h Q ↔ am_J d 30 187 ls (.int (nI 1) :: st) h Q := j_iconst (n := 1) (by decide +kernel) (by decide +kernel)
theorem g30_187 {x y : Int32}  : am_J d 30 187 ls (.int y :: .int x :: st) h Q ↔ am_J d 30 188 ls (.int (x + y) :: st) h Q := j_ps (i := .iadd) (k := 1) (by decide +kernel) (fun _ => rfl) rfl
theorem g30_188 {x : Int32}  (S : am_S h) : am_J d 30 188 ls (.int x :: .ref 302 :: st) h Q ↔ am_J d 30 191 ls st (am_setI h 302 1 x) Q := j_put (c := 3) (idx := 19) (k := 1) (by decide +kernel) (by decide +kernel) (by decide) (by decide +kernel) (Or.inl rfl) rfl (am_S_ob S (by decide +kernel)) (by decide)
theorem g30_191   : am_J d 30 191 ls st h Q ↔ am_J d 30 199 ls st h Q := j_goto (off := 8) (by decide +kernel) (by decide +kernel)
theorem g30_194   : am_J d 30 194 [some (.ref 302), v1, v2] st h Q ↔ am_J d 30 195 [some (.ref 302), v1, v2] (.ref 302 :: st) h Q := j_aload (i := .aload_n 0) (by decide +kernel) (Or.inl ⟨0, rfl, rfl, rfl⟩) rfl rfl
theorem g30_195   : am_J d 30 195 ls st h Q ↔ am_J d 30 196 ls (.int (nI 1) :: st) h Q := j_iconst (n := 1) (by decide +kernel) (by decide +kernel)
theorem g30_196 {a0 : Int32} (S : am_S h) : am_J (d + 1) 30 196 ls (.int a0 :: .ref 302 :: []) h Q ↔ am_J d 25 0 [some (.ref 302), some (.int a0)] [] h (fun r h' => am_J (d + 1) 30 199 ls (r.toList ++ []) h' Q) := j_callV (idx := 67) (kd := 0) (mj := 25) (n := 1) (b := 302) (c := 3) (ml := 2) (as := [.int a0]) (rest := []) (by decide +kernel) (by decide +kernel) (by decide) (by decide +kernel) (by decide) rfl rfl (Nat.le_of_ble_eq_true rfl) (Nat.le_of_ble_eq_true rfl) (am_S_ob S (by decide +kernel))
theorem g30_199 : am_J d 30 199 ls [] h Q ↔ Q none h := j_rt (i := .return_) (by decide +kernel) (by rw [show (am_me 30).2.2.1 = none by decide +kernel]; rfl)
end G30

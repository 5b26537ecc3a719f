/-! reading behind writing -/
section AMH
variable {h : am_H} {a b k j : Nat}
theorem hI_I {x : Int32} : am_I (am_setI h a k x) b j = if b = a then (if j = k then x else am_I h b j) else am_I h b j := rfl
theorem hI_L {x : Int64} : am_I (am_setL h a k x) b j = am_I h b j := rfl
theorem hI_D {x : UInt64} : am_I (am_setD h a k x) b j = am_I h b j := rfl
theorem hI_R {x : Option Nat} : am_I (am_setR h a k x) b j = am_I h b j := rfl
theorem hL_I {x : Int32} : am_L (am_setI h a k x) b j = am_L h b j := rfl
theorem hL_L {x : Int64} : am_L (am_setL h a k x) b j = if b = a then (if j = k then x else am_L h b j) else am_L h b j := rfl
theorem hL_D {x : UInt64} : am_L (am_setD h a k x) b j = am_L h b j := rfl
theorem hL_R {x : Option Nat} : am_L (am_setR h a k x) b j = am_L h b j := rfl
theorem hD_I {x : Int32} : am_D (am_setI h a k x) b j = am_D h b j := rfl
theorem hD_L {x : Int64} : am_D (am_setL h a k x) b j = am_D h b j := rfl
theorem hD_D {x : UInt64} : am_D (am_setD h a k x) b j = if b = a then (if j = k then x else am_D h b j) else am_D h b j := rfl
theorem hD_R {x : Option Nat} : am_D (am_setR h a k x) b j = am_D h b j := rfl
theorem hR_I {x : Int32} : am_R (am_setI h a k x) b j = am_R h b j := rfl
theorem hR_L {x : Int64} : am_R (am_setL h a k x) b j = am_R h b j := rfl
theorem hR_D {x : UInt64} : am_R (am_setD h a k x) b j = am_R h b j := rfl
theorem hR_R {x : Option Nat} : am_R (am_setR h a k x) b j = if b = a then (if j = k then x else am_R h b j) else am_R h b j := rfl
end AMH
section AM30
variable {d : Nat} {h : am_H} {Q : Option Value → am_H → Prop} {v0 v1 v2 v3 : Option Value}
/-- model.wipe -/
theorem m_wipe (S : am_S h) : am_J d 173 0 [some (.ref 349), v1] [] h Q ↔ Q (some (.int (am_I h 349 2))) (am_setI h 349 2 (nI 0)) := by
  simp (disch := first | exact S | omega) only [g173_0, g173_1, g173_4, g173_5, g173_6, g173_7, g173_10, g173_11]
/-- wipe -/
theorem x_wipe (S : am_S h) : am_J d 140 0 [some (.ref 4), v1] [] h Q ↔ Q (some (.int (am_I h 5 1))) (am_setI h 5 1 (nI 0)) := by
  simp (disch := first | exact S | omega) only [g140_0, g140_1, g140_4, g140_7, g140_8, g140_9, g140_12, g140_13, g140_16, g140_17]
theorem m_fault (S : am_S h) : am_J d 226 0 [some (.ref 349)] [] h Q ↔ Q (some (.int (am_I h 349 4))) h := by
  simp (disch := first | exact S | omega) only [g226_0, g226_1, g226_4]
theorem x_fault (S : am_S h) : am_J d 150 0 [some (.ref 4)] [] h Q ↔ Q (some (.int (am_I h 4 13))) h := by
  simp (disch := first | exact S | omega) only [g150_0, g150_1, g150_4]
theorem m_isCell {x : Int32} : am_J d 175 0 [some (.int x)] [] h Q ↔ Q (some (.int (if x < 0 then nI 0 else if nI 256 ≤ x then nI 0 else nI 1))) h := by
  simp (disch := first | decide) only [g175_0, g175_1, g175_4, g175_5, g175_8, g175_11, g175_12, g175_15, g175_16]
  by_cases h1 : x < 0
  · simp [h1]
  · by_cases h2 : nI 256 ≤ x <;> simp [h1, h2]
theorem x_noCell {x : Int32} : am_J d 142 0 [some (.int x)] [] h Q ↔ Q (some (.int (if x < 0 then nI 1 else if x < nI 256 then nI 0 else nI 1))) h := by
  simp (disch := first | decide) only [g142_0, g142_1, g142_4, g142_5, g142_8, g142_11, g142_12, g142_15, g142_16]
  by_cases h1 : x < 0
  · simp [h1]
  · by_cases h2 : x < nI 256 <;> simp [h1, h2]
end AM30

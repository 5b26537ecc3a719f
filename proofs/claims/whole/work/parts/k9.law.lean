/-! THE LAW'S CASES (by wip/whole/gen_law.py) -/
def sc (L : Nat) (xs : Nat → Int32) (h : am_H) : Prop := 402 ≤ h.1 ∧ am_tg h 0 = (110, L) ∧ (∀ j, am_I h 0 j = xs j) ∧ am_tg h 4 = (11, 0) ∧ am_tg h 349 = (12, 0)
section LWC
variable {L i : Nat} {xs : Nat → Int32} {h : am_H}
theorem sc_run {d mi : Nat} {ls : am_Lo} {h' : am_H} {r : Option Value} (H : sc L xs h) (R : am_run d mi ls h r h') : sc L xs h' := by
  obtain ⟨c1, c2, c3, c4, c5⟩ := H
  obtain ⟨⟨-, a1⟩, a2, a3⟩ := l0_run (by omega) R
  exact ⟨Nat.le_trans c1 a1, (a2 0 (by omega)).trans c2, fun j => (a3 j).trans (c3 j), (a2 4 (by omega)).trans c4, (a2 349 (by omega)).trans c5⟩
theorem sc_ax {j : Nat} (H : sc L xs h) (hj : j < L) (hL : L ≤ 2560) : am_ax h 0 110 j := ⟨by have := H.1; omega, by rw [H.2.1], by rw [H.2.1]; exact hj, by omega⟩
theorem sc_4 (H : sc L xs h) : am_ob h 4 11 := ⟨by have := H.1; omega, by rw [H.2.2.2.1]⟩
theorem sc_349 (H : sc L xs h) : am_ob h 349 12 := ⟨by have := H.1; omega, by rw [H.2.2.2.2]⟩
theorem lw_0 (hL : L ≤ 2560) (hi : 5 * i + 5 ≤ L) (I : Inv i h) (H : sc L xs h) : ∃ h2, Inv (i + 1) h2 ∧ sc L xs h2 ∧ ∀ Q, am_J (1399 + 1) 284 144 [some (.ref 0), some (.ref 4), some (.ref 349), some (.int (nI (5 * i)))] [] h Q ↔ am_J (1399 + 1) 284 859 [some (.ref 0), some (.ref 4), some (.ref 349), some (.int (nI (5 * i)))] [] h2 Q := by
  obtain ⟨r, h1, h2, R1, R2, I2⟩ := o_type (d := 0) (v := ((xs (5 * i + 1)).toInt64 <<< ((nI 32).toInt64 &&& 63)) ||| ((xs (5 * i + 2)).toInt64 &&& lN 4294967295)) I
  have s1 := sc_run H R1
  have s2 := sc_run s1 R2
  have J1 := am_runD (d' := 1399) R1 (by decide)
  have J2 := am_runD (d' := 1399) R2 (by decide)
  refine ⟨h2, (up_Inv I2), s2, fun Q => ?_⟩
  rw [g284_144 rfl, g284_145 rfl, g284_146, g284_147, g284_148, nI_add, g284_149 (sc_ax H (show _ < L by omega) hL), H.2.2.1, g284_150, g284_151, g284_153, g284_154 rfl, g284_155, g284_156, g284_157, nI_add, g284_158 (sc_ax H (show _ < L by omega) hL), H.2.2.1, g284_159, g284_160, g284_163, g284_164, g284_165 (sc_4 H), J1 _]
  show am_J (1399 + 1) 284 168 [some (.ref 0), some (.ref 4), some (.ref 349), some (.int (nI (5 * i)))] [.int r] h1 Q ↔ _
  rw [g284_168 rfl, g284_169 rfl, g284_170, g284_171, g284_172, nI_add, g284_173 (sc_ax s1 (show _ < L by omega) hL), s1.2.2.1, g284_174, g284_175, g284_177, g284_178 rfl, g284_179, g284_180, g284_181, nI_add, g284_182 (sc_ax s1 (show _ < L by omega) hL), s1.2.2.1, g284_183, g284_184, g284_187, g284_188, g284_189 (sc_349 s1), J2 _]
  show am_J (1399 + 1) 284 192 [some (.ref 0), some (.ref 4), some (.ref 349), some (.int (nI (5 * i)))] [.int r, .int r] h2 Q ↔ _
  rw [g284_192, if_pos rfl]
theorem lw_1 (hL : L ≤ 2560) (hi : 5 * i + 5 ≤ L) (I : Inv i h) (H : sc L xs h) : ∃ h2, Inv (i + 1) h2 ∧ sc L xs h2 ∧ ∀ Q, am_J (1399 + 1) 284 197 [some (.ref 0), some (.ref 4), some (.ref 349), some (.int (nI (5 * i)))] [] h Q ↔ am_J (1399 + 1) 284 859 [some (.ref 0), some (.ref 4), some (.ref 349), some (.int (nI (5 * i)))] [] h2 Q := by
  obtain ⟨r, h1, h2, R1, R2, I2⟩ := o_wipe (d := 0) I
  have s1 := sc_run H R1
  have s2 := sc_run s1 R2
  have J1 := am_runD (d' := 1399) R1 (by decide)
  have J2 := am_runD (d' := 1399) R2 (by decide)
  refine ⟨h2, (up_Inv I2), s2, fun Q => ?_⟩
  rw [g284_197 rfl, g284_198 (sc_4 H), J1 _]
  show am_J (1399 + 1) 284 201 [some (.ref 0), some (.ref 4), some (.ref 349), some (.int (nI (5 * i)))] [.int r] h1 Q ↔ _
  rw [g284_201 rfl, g284_202 (sc_349 s1), J2 _]
  show am_J (1399 + 1) 284 205 [some (.ref 0), some (.ref 4), some (.ref 349), some (.int (nI (5 * i)))] [.int r, .int r] h2 Q ↔ _
  rw [g284_205, if_pos rfl]
theorem lw_2 (hL : L ≤ 2560) (hi : 5 * i + 5 ≤ L) (I : Inv i h) (H : sc L xs h) : ∃ h2, Inv (i + 1) h2 ∧ sc L xs h2 ∧ ∀ Q, am_J (1399 + 1) 284 210 [some (.ref 0), some (.ref 4), some (.ref 349), some (.int (nI (5 * i)))] [] h Q ↔ am_J (1399 + 1) 284 859 [some (.ref 0), some (.ref 4), some (.ref 349), some (.int (nI (5 * i)))] [] h2 Q := by
  obtain ⟨r, h1, h2, R1, R2, I2⟩ := o_whole (d := 0) (x := xs (5 * i + 1)) (v := ((xs (5 * i + 2)).toInt64 <<< ((nI 32).toInt64 &&& 63)) ||| ((xs (5 * i + 3)).toInt64 &&& lN 4294967295)) I
  have s1 := sc_run H R1
  have s2 := sc_run s1 R2
  have J1 := am_runD (d' := 1399) R1 (by decide)
  have J2 := am_runD (d' := 1399) R2 (by decide)
  refine ⟨h2, (up_Inv I2), s2, fun Q => ?_⟩
  rw [g284_210 rfl, g284_211 rfl, g284_212, g284_213, g284_214, nI_add, g284_215 (sc_ax H (show _ < L by omega) hL), H.2.2.1, g284_216 rfl, g284_217, g284_218, g284_219, nI_add, g284_220 (sc_ax H (show _ < L by omega) hL), H.2.2.1, g284_221, g284_222, g284_224, g284_225 rfl, g284_226, g284_227, g284_228, nI_add, g284_229 (sc_ax H (show _ < L by omega) hL), H.2.2.1, g284_230, g284_231, g284_234, g284_235, g284_236 (sc_4 H), J1 _]
  show am_J (1399 + 1) 284 239 [some (.ref 0), some (.ref 4), some (.ref 349), some (.int (nI (5 * i)))] [.int r] h1 Q ↔ _
  rw [g284_239 rfl, g284_240 rfl, g284_241, g284_242, g284_243, nI_add, g284_244 (sc_ax s1 (show _ < L by omega) hL), s1.2.2.1, g284_245 rfl, g284_246, g284_247, g284_248, nI_add, g284_249 (sc_ax s1 (show _ < L by omega) hL), s1.2.2.1, g284_250, g284_251, g284_253, g284_254 rfl, g284_255, g284_256, g284_257, nI_add, g284_258 (sc_ax s1 (show _ < L by omega) hL), s1.2.2.1, g284_259, g284_260, g284_263, g284_264, g284_265 (sc_349 s1), J2 _]
  show am_J (1399 + 1) 284 268 [some (.ref 0), some (.ref 4), some (.ref 349), some (.int (nI (5 * i)))] [.int r, .int r] h2 Q ↔ _
  rw [g284_268, if_pos rfl]
theorem lw_3 (hL : L ≤ 2560) (hi : 5 * i + 5 ≤ L) (I : Inv i h) (H : sc L xs h) : ∃ h2, Inv (i + 1) h2 ∧ sc L xs h2 ∧ ∀ Q, am_J (1399 + 1) 284 273 [some (.ref 0), some (.ref 4), some (.ref 349), some (.int (nI (5 * i)))] [] h Q ↔ am_J (1399 + 1) 284 859 [some (.ref 0), some (.ref 4), some (.ref 349), some (.int (nI (5 * i)))] [] h2 Q := by
  obtain ⟨r, h1, h2, R1, R2, I2⟩ := o_number (d := 0) (x := xs (5 * i + 1)) (v := ((xs (5 * i + 2)).toInt64 <<< ((nI 32).toInt64 &&& 63)) ||| ((xs (5 * i + 3)).toInt64 &&& lN 4294967295)) (y := xs (5 * i + 4)) I
  have s1 := sc_run H R1
  have s2 := sc_run s1 R2
  have J1 := am_runD (d' := 1399) R1 (by decide)
  have J2 := am_runD (d' := 1399) R2 (by decide)
  refine ⟨h2, (up_Inv I2), s2, fun Q => ?_⟩
  rw [g284_273 rfl, g284_274 rfl, g284_275, g284_276, g284_277, nI_add, g284_278 (sc_ax H (show _ < L by omega) hL), H.2.2.1, g284_279 rfl, g284_280, g284_281, g284_282, nI_add, g284_283 (sc_ax H (show _ < L by omega) hL), H.2.2.1, g284_284, g284_285, g284_287, g284_288 rfl, g284_289, g284_290, g284_291, nI_add, g284_292 (sc_ax H (show _ < L by omega) hL), H.2.2.1, g284_293, g284_294, g284_297, g284_298, g284_299 rfl, g284_300, g284_301, g284_302, nI_add, g284_303 (sc_ax H (show _ < L by omega) hL), H.2.2.1, g284_304 (sc_4 H), J1 _]
  show am_J (1399 + 1) 284 307 [some (.ref 0), some (.ref 4), some (.ref 349), some (.int (nI (5 * i)))] [.int r] h1 Q ↔ _
  rw [g284_307 rfl, g284_308 rfl, g284_309, g284_310, g284_311, nI_add, g284_312 (sc_ax s1 (show _ < L by omega) hL), s1.2.2.1, g284_313 rfl, g284_314, g284_315, g284_316, nI_add, g284_317 (sc_ax s1 (show _ < L by omega) hL), s1.2.2.1, g284_318, g284_319, g284_321, g284_322 rfl, g284_323, g284_324, g284_325, nI_add, g284_326 (sc_ax s1 (show _ < L by omega) hL), s1.2.2.1, g284_327, g284_328, g284_331, g284_332, g284_333 rfl, g284_334, g284_335, g284_336, nI_add, g284_337 (sc_ax s1 (show _ < L by omega) hL), s1.2.2.1, g284_338 (sc_349 s1), J2 _]
  show am_J (1399 + 1) 284 341 [some (.ref 0), some (.ref 4), some (.ref 349), some (.int (nI (5 * i)))] [.int r, .int r] h2 Q ↔ _
  rw [g284_341, if_pos rfl]
theorem lw_4 (hL : L ≤ 2560) (hi : 5 * i + 5 ≤ L) (I : Inv i h) (H : sc L xs h) : ∃ h2, Inv (i + 1) h2 ∧ sc L xs h2 ∧ ∀ Q, am_J (1399 + 1) 284 346 [some (.ref 0), some (.ref 4), some (.ref 349), some (.int (nI (5 * i)))] [] h Q ↔ am_J (1399 + 1) 284 859 [some (.ref 0), some (.ref 4), some (.ref 349), some (.int (nI (5 * i)))] [] h2 Q := by
  obtain ⟨r, h1, h2, R1, R2, I2⟩ := o_empty (d := 0) (x := xs (5 * i + 1)) I
  have s1 := sc_run H R1
  have s2 := sc_run s1 R2
  have J1 := am_runD (d' := 1399) R1 (by decide)
  have J2 := am_runD (d' := 1399) R2 (by decide)
  refine ⟨h2, (up_Inv I2), s2, fun Q => ?_⟩
  rw [g284_346 rfl, g284_347 rfl, g284_348, g284_349, g284_350, nI_add, g284_351 (sc_ax H (show _ < L by omega) hL), H.2.2.1, g284_352 (sc_4 H), J1 _]
  show am_J (1399 + 1) 284 355 [some (.ref 0), some (.ref 4), some (.ref 349), some (.int (nI (5 * i)))] [.int r] h1 Q ↔ _
  rw [g284_355 rfl, g284_356 rfl, g284_357, g284_358, g284_359, nI_add, g284_360 (sc_ax s1 (show _ < L by omega) hL), s1.2.2.1, g284_361 (sc_349 s1), J2 _]
  show am_J (1399 + 1) 284 364 [some (.ref 0), some (.ref 4), some (.ref 349), some (.int (nI (5 * i)))] [.int r, .int r] h2 Q ↔ _
  rw [g284_364, if_pos rfl]
theorem lw_5 (hL : L ≤ 2560) (hi : 5 * i + 5 ≤ L) (I : Inv i h) (H : sc L xs h) : ∃ h2, Inv (i + 1) h2 ∧ sc L xs h2 ∧ ∀ Q, am_J (1399 + 1) 284 369 [some (.ref 0), some (.ref 4), some (.ref 349), some (.int (nI (5 * i)))] [] h Q ↔ am_J (1399 + 1) 284 859 [some (.ref 0), some (.ref 4), some (.ref 349), some (.int (nI (5 * i)))] [] h2 Q := by
  obtain ⟨r, h1, h2, R1, R2, I2⟩ := o_formula (x := xs (5 * i + 1)) I
  have s1 := sc_run H R1
  have s2 := sc_run s1 R2
  have J1 := am_runD (d' := 1399) R1 (by decide)
  have J2 := am_runD (d' := 1399) R2 (by decide)
  refine ⟨h2, I2, s2, fun Q => ?_⟩
  rw [g284_369 rfl, g284_370 rfl, g284_371, g284_372, g284_373, nI_add, g284_374 (sc_ax H (show _ < L by omega) hL), H.2.2.1, g284_375 (sc_4 H), J1 _]
  show am_J (1399 + 1) 284 378 [some (.ref 0), some (.ref 4), some (.ref 349), some (.int (nI (5 * i)))] [.int r] h1 Q ↔ _
  rw [g284_378 rfl, g284_379 rfl, g284_380, g284_381, g284_382, nI_add, g284_383 (sc_ax s1 (show _ < L by omega) hL), s1.2.2.1, g284_384 (sc_349 s1), J2 _]
  show am_J (1399 + 1) 284 387 [some (.ref 0), some (.ref 4), some (.ref 349), some (.int (nI (5 * i)))] [.int r, .int r] h2 Q ↔ _
  rw [g284_387, if_pos rfl]
theorem lw_6 (hL : L ≤ 2560) (hi : 5 * i + 5 ≤ L) (I : Inv i h) (H : sc L xs h) : ∃ h2, Inv (i + 1) h2 ∧ sc L xs h2 ∧ ∀ Q, am_J (1399 + 1) 284 392 [some (.ref 0), some (.ref 4), some (.ref 349), some (.int (nI (5 * i)))] [] h Q ↔ am_J (1399 + 1) 284 859 [some (.ref 0), some (.ref 4), some (.ref 349), some (.int (nI (5 * i)))] [] h2 Q := by
  obtain ⟨r, h1, h2, R1, R2, I2⟩ := o_function I
  have s1 := sc_run H R1
  have s2 := sc_run s1 R2
  have J1 := am_runD (d' := 1399) R1 (by decide)
  have J2 := am_runD (d' := 1399) R2 (by decide)
  refine ⟨h2, I2, s2, fun Q => ?_⟩
  rw [g284_392 rfl, g284_393 (sc_4 H), J1 _]
  show am_J (1399 + 1) 284 396 [some (.ref 0), some (.ref 4), some (.ref 349), some (.int (nI (5 * i)))] [.int r] h1 Q ↔ _
  rw [g284_396 rfl, g284_397 (sc_349 s1), J2 _]
  show am_J (1399 + 1) 284 400 [some (.ref 0), some (.ref 4), some (.ref 349), some (.int (nI (5 * i)))] [.int r, .int r] h2 Q ↔ _
  rw [g284_400, if_pos rfl]
theorem lw_7 (hL : L ≤ 2560) (hi : 5 * i + 5 ≤ L) (I : Inv i h) (H : sc L xs h) : ∃ h2, Inv (i + 1) h2 ∧ sc L xs h2 ∧ ∀ Q, am_J (1399 + 1) 284 405 [some (.ref 0), some (.ref 4), some (.ref 349), some (.int (nI (5 * i)))] [] h Q ↔ am_J (1399 + 1) 284 859 [some (.ref 0), some (.ref 4), some (.ref 349), some (.int (nI (5 * i)))] [] h2 Q := by
  obtain ⟨r, h1, h2, R1, R2, I2⟩ := o_constant (x := xs (5 * i + 1)) I
  have s1 := sc_run H R1
  have s2 := sc_run s1 R2
  have J1 := am_runD (d' := 1399) R1 (by decide)
  have J2 := am_runD (d' := 1399) R2 (by decide)
  refine ⟨h2, I2, s2, fun Q => ?_⟩
  rw [g284_405 rfl, g284_406 rfl, g284_407, g284_408, g284_409, nI_add, g284_410 (sc_ax H (show _ < L by omega) hL), H.2.2.1, g284_411 (sc_4 H), J1 _]
  show am_J (1399 + 1) 284 414 [some (.ref 0), some (.ref 4), some (.ref 349), some (.int (nI (5 * i)))] [.int r] h1 Q ↔ _
  rw [g284_414 rfl, g284_415 rfl, g284_416, g284_417, g284_418, nI_add, g284_419 (sc_ax s1 (show _ < L by omega) hL), s1.2.2.1, g284_420 (sc_349 s1), J2 _]
  show am_J (1399 + 1) 284 423 [some (.ref 0), some (.ref 4), some (.ref 349), some (.int (nI (5 * i)))] [.int r, .int r] h2 Q ↔ _
  rw [g284_423, if_pos rfl]
theorem lw_8 (hL : L ≤ 2560) (hi : 5 * i + 5 ≤ L) (I : Inv i h) (H : sc L xs h) : ∃ h2, Inv (i + 1) h2 ∧ sc L xs h2 ∧ ∀ Q, am_J (1399 + 1) 284 428 [some (.ref 0), some (.ref 4), some (.ref 349), some (.int (nI (5 * i)))] [] h Q ↔ am_J (1399 + 1) 284 859 [some (.ref 0), some (.ref 4), some (.ref 349), some (.int (nI (5 * i)))] [] h2 Q := by
  have I1 := up_Inv I
  obtain ⟨iS0, iGv, iT0, iO0, iF0, iD0, iP0, iR0, iM0, nf, fe, fX, fM, fA, nc, ce, cX, cM, cd, lab, iN0, iC0, iE0, iS1, iL0⟩ := I
  obtain ⟨r, R1, R2⟩ := o_fault (d := 0) iS0 iF0
  have s1 := sc_run H R1
  have s2 := sc_run s1 R2
  have J1 := am_runD (d' := 1399) R1 (by decide)
  have J2 := am_runD (d' := 1399) R2 (by decide)
  refine ⟨h, I1, s2, fun Q => ?_⟩
  rw [g284_428 rfl, g284_429 (sc_4 H), J1 _]
  show am_J (1399 + 1) 284 432 [some (.ref 0), some (.ref 4), some (.ref 349), some (.int (nI (5 * i)))] [.int r] h Q ↔ _
  rw [g284_432 rfl, g284_433 (sc_349 s1), J2 _]
  show am_J (1399 + 1) 284 436 [some (.ref 0), some (.ref 4), some (.ref 349), some (.int (nI (5 * i)))] [.int r, .int r] h Q ↔ _
  rw [g284_436, if_pos rfl]
theorem lw_9 (hL : L ≤ 2560) (hi : 5 * i + 5 ≤ L) (I : Inv i h) (H : sc L xs h) : ∃ h2, Inv (i + 1) h2 ∧ sc L xs h2 ∧ ∀ Q, am_J (1399 + 1) 284 441 [some (.ref 0), some (.ref 4), some (.ref 349), some (.int (nI (5 * i)))] [] h Q ↔ am_J (1399 + 1) 284 859 [some (.ref 0), some (.ref 4), some (.ref 349), some (.int (nI (5 * i)))] [] h2 Q := by
  obtain ⟨r, h1, h2, R1, R2, I2⟩ := o_print (d := 0) (x := xs (5 * i + 1)) I
  have s1 := sc_run H R1
  have s2 := sc_run s1 R2
  have J1 := am_runD (d' := 1399) R1 (by decide)
  have J2 := am_runD (d' := 1399) R2 (by decide)
  refine ⟨h2, (up_Inv I2), s2, fun Q => ?_⟩
  rw [g284_441 rfl, g284_442 rfl, g284_443, g284_444, g284_445, nI_add, g284_446 (sc_ax H (show _ < L by omega) hL), H.2.2.1, g284_447 (sc_4 H), J1 _]
  show am_J (1399 + 1) 284 450 [some (.ref 0), some (.ref 4), some (.ref 349), some (.int (nI (5 * i)))] [.int r] h1 Q ↔ _
  rw [g284_450 rfl, g284_451 rfl, g284_452, g284_453, g284_454, nI_add, g284_455 (sc_ax s1 (show _ < L by omega) hL), s1.2.2.1, g284_456 (sc_349 s1), J2 _]
  show am_J (1399 + 1) 284 459 [some (.ref 0), some (.ref 4), some (.ref 349), some (.int (nI (5 * i)))] [.int r, .int r] h2 Q ↔ _
  rw [g284_459, if_pos rfl]
theorem lw_10 (hL : L ≤ 2560) (hi : 5 * i + 5 ≤ L) (I : Inv i h) (H : sc L xs h) : ∃ h2, Inv (i + 1) h2 ∧ sc L xs h2 ∧ ∀ Q, am_J (1399 + 1) 284 464 [some (.ref 0), some (.ref 4), some (.ref 349), some (.int (nI (5 * i)))] [] h Q ↔ am_J (1399 + 1) 284 859 [some (.ref 0), some (.ref 4), some (.ref 349), some (.int (nI (5 * i)))] [] h2 Q := by
  have I1 := up_Inv I
  obtain ⟨iS0, iGv, iT0, iO0, iF0, iD0, iP0, iR0, iM0, nf, fe, fX, fM, fA, nc, ce, cX, cM, cd, lab, iN0, iC0, iE0, iS1, iL0⟩ := I
  obtain ⟨r, R1, R2⟩ := o_sign (d := 0) (x := xs (5 * i + 1)) iS0 iO0
  have s1 := sc_run H R1
  have s2 := sc_run s1 R2
  have J1 := am_runD (d' := 1399) R1 (by decide)
  have J2 := am_runD (d' := 1399) R2 (by decide)
  refine ⟨h, I1, s2, fun Q => ?_⟩
  rw [g284_464 rfl, g284_465 rfl, g284_466, g284_467, g284_468, nI_add, g284_469 (sc_ax H (show _ < L by omega) hL), H.2.2.1, g284_470 (sc_4 H), J1 _]
  show am_J (1399 + 1) 284 473 [some (.ref 0), some (.ref 4), some (.ref 349), some (.int (nI (5 * i)))] [.int r] h Q ↔ _
  rw [g284_473 rfl, g284_474 rfl, g284_475, g284_476, g284_477, nI_add, g284_478 (sc_ax s1 (show _ < L by omega) hL), s1.2.2.1, g284_479 (sc_349 s1), J2 _]
  show am_J (1399 + 1) 284 482 [some (.ref 0), some (.ref 4), some (.ref 349), some (.int (nI (5 * i)))] [.int r, .int r] h Q ↔ _
  rw [g284_482, if_pos rfl]
theorem lw_11 (hL : L ≤ 2560) (hi : 5 * i + 5 ≤ L) (I : Inv i h) (H : sc L xs h) : ∃ h2, Inv (i + 1) h2 ∧ sc L xs h2 ∧ ∀ Q, am_J (1399 + 1) 284 487 [some (.ref 0), some (.ref 4), some (.ref 349), some (.int (nI (5 * i)))] [] h Q ↔ am_J (1399 + 1) 284 859 [some (.ref 0), some (.ref 4), some (.ref 349), some (.int (nI (5 * i)))] [] h2 Q := by
  obtain ⟨r, h1, h2, R1, R2, I2⟩ := o_take (d := 0) I
  have s1 := sc_run H R1
  have s2 := sc_run s1 R2
  have J1 := am_runD (d' := 1399) R1 (by decide)
  have J2 := am_runD (d' := 1399) R2 (by decide)
  refine ⟨h2, (up_Inv I2), s2, fun Q => ?_⟩
  rw [g284_487 rfl, g284_488 (sc_4 H), J1 _]
  show am_J (1399 + 1) 284 491 [some (.ref 0), some (.ref 4), some (.ref 349), some (.int (nI (5 * i)))] [.int r] h1 Q ↔ _
  rw [g284_491 rfl, g284_492 (sc_349 s1), J2 _]
  show am_J (1399 + 1) 284 495 [some (.ref 0), some (.ref 4), some (.ref 349), some (.int (nI (5 * i)))] [.int r, .int r] h2 Q ↔ _
  rw [g284_495, if_pos rfl]
theorem lw_12 (hL : L ≤ 2560) (hi : 5 * i + 5 ≤ L) (I : Inv i h) (H : sc L xs h) : ∃ h2, Inv (i + 1) h2 ∧ sc L xs h2 ∧ ∀ Q, am_J (1399 + 1) 284 500 [some (.ref 0), some (.ref 4), some (.ref 349), some (.int (nI (5 * i)))] [] h Q ↔ am_J (1399 + 1) 284 859 [some (.ref 0), some (.ref 4), some (.ref 349), some (.int (nI (5 * i)))] [] h2 Q := by
  obtain ⟨r, h1, h2, R1, R2, I2⟩ := o_recalculate (d := 1350) (e := 0) (by decide) (by omega) I
  have s1 := sc_run H R1
  have s2 := sc_run s1 R2
  have J1 := am_runD (d' := 1399) R1 (by decide)
  have J2 := am_runD (d' := 1399) R2 (by decide)
  refine ⟨h2, I2, s2, fun Q => ?_⟩
  rw [g284_500 rfl, g284_501 (sc_4 H), J1 _]
  show am_J (1399 + 1) 284 504 [some (.ref 0), some (.ref 4), some (.ref 349), some (.int (nI (5 * i)))] [.int r] h1 Q ↔ _
  rw [g284_504 rfl, g284_505 (sc_349 s1), J2 _]
  show am_J (1399 + 1) 284 508 [some (.ref 0), some (.ref 4), some (.ref 349), some (.int (nI (5 * i)))] [.int r, .int r] h2 Q ↔ _
  rw [g284_508, if_pos rfl]
theorem lw_13 (hL : L ≤ 2560) (hi : 5 * i + 5 ≤ L) (I : Inv i h) (H : sc L xs h) : ∃ h2, Inv (i + 1) h2 ∧ sc L xs h2 ∧ ∀ Q, am_J (1399 + 1) 284 513 [some (.ref 0), some (.ref 4), some (.ref 349), some (.int (nI (5 * i)))] [] h Q ↔ am_J (1399 + 1) 284 859 [some (.ref 0), some (.ref 4), some (.ref 349), some (.int (nI (5 * i)))] [] h2 Q := by
  have I1 := up_Inv I
  obtain ⟨iS0, iGv, iT0, iO0, iF0, iD0, iP0, iR0, iM0, nf, fe, fX, fM, fA, nc, ce, cX, cM, cd, lab, iN0, iC0, iE0, iS1, iL0⟩ := I
  obtain ⟨r, R1, R2⟩ := o_state (d := 0) (x := xs (5 * i + 1)) iS0 iE0
  have s1 := sc_run H R1
  have s2 := sc_run s1 R2
  have J1 := am_runD (d' := 1399) R1 (by decide)
  have J2 := am_runD (d' := 1399) R2 (by decide)
  refine ⟨h, I1, s2, fun Q => ?_⟩
  rw [g284_513 rfl, g284_514 rfl, g284_515, g284_516, g284_517, nI_add, g284_518 (sc_ax H (show _ < L by omega) hL), H.2.2.1, g284_519 (sc_4 H), J1 _]
  show am_J (1399 + 1) 284 522 [some (.ref 0), some (.ref 4), some (.ref 349), some (.int (nI (5 * i)))] [.int r] h Q ↔ _
  rw [g284_522 rfl, g284_523 rfl, g284_524, g284_525, g284_526, nI_add, g284_527 (sc_ax s1 (show _ < L by omega) hL), s1.2.2.1, g284_528 (sc_349 s1), J2 _]
  show am_J (1399 + 1) 284 531 [some (.ref 0), some (.ref 4), some (.ref 349), some (.int (nI (5 * i)))] [.int r, .int r] h Q ↔ _
  rw [g284_531, if_pos rfl]
theorem lw_14 (hL : L ≤ 2560) (hi : 5 * i + 5 ≤ L) (I : Inv i h) (H : sc L xs h) : ∃ h2, Inv (i + 1) h2 ∧ sc L xs h2 ∧ ∀ Q, am_J (1399 + 1) 284 536 [some (.ref 0), some (.ref 4), some (.ref 349), some (.int (nI (5 * i)))] [] h Q ↔ am_J (1399 + 1) 284 859 [some (.ref 0), some (.ref 4), some (.ref 349), some (.int (nI (5 * i)))] [] h2 Q := by
  have I1 := up_Inv I
  obtain ⟨iS0, iGv, iT0, iO0, iF0, iD0, iP0, iR0, iM0, nf, fe, fX, fM, fA, nc, ce, cX, cM, cd, lab, iN0, iC0, iE0, iS1, iL0⟩ := I
  obtain ⟨r, R1, R2⟩ := o_value (d := 0) (x := xs (5 * i + 1)) iS0 iE0
  have s1 := sc_run H R1
  have s2 := sc_run s1 R2
  have J1 := am_runD (d' := 1399) R1 (by decide)
  have J2 := am_runD (d' := 1399) R2 (by decide)
  refine ⟨h, I1, s2, fun Q => ?_⟩
  rw [g284_536 rfl, g284_537 rfl, g284_538, g284_539, g284_540, nI_add, g284_541 (sc_ax H (show _ < L by omega) hL), H.2.2.1, g284_542 (sc_4 H), J1 _]
  show am_J (1399 + 1) 284 545 [some (.ref 0), some (.ref 4), some (.ref 349), some (.int (nI (5 * i)))] [.long r] h Q ↔ _
  rw [g284_545 rfl, g284_546 rfl, g284_547, g284_548, g284_549, nI_add, g284_550 (sc_ax s1 (show _ < L by omega) hL), s1.2.2.1, g284_551 (sc_349 s1), J2 _]
  show am_J (1399 + 1) 284 554 [some (.ref 0), some (.ref 4), some (.ref 349), some (.int (nI (5 * i)))] [.long r, .long r] h Q ↔ _
  rw [g284_554, lg_cmp0.mpr rfl, g284_555, if_pos rfl]
theorem lw_15 (hL : L ≤ 2560) (hi : 5 * i + 5 ≤ L) (I : Inv i h) (H : sc L xs h) : ∃ h2, Inv (i + 1) h2 ∧ sc L xs h2 ∧ ∀ Q, am_J (1399 + 1) 284 560 [some (.ref 0), some (.ref 4), some (.ref 349), some (.int (nI (5 * i)))] [] h Q ↔ am_J (1399 + 1) 284 859 [some (.ref 0), some (.ref 4), some (.ref 349), some (.int (nI (5 * i)))] [] h2 Q := by
  have I1 := up_Inv I
  obtain ⟨iS0, iGv, iT0, iO0, iF0, iD0, iP0, iR0, iM0, nf, fe, fX, fM, fA, nc, ce, cX, cM, cd, lab, iN0, iC0, iE0, iS1, iL0⟩ := I
  obtain ⟨r, R1, R2⟩ := o_failure (d := 0) (x := xs (5 * i + 1)) (y := xs (5 * i + 2)) iS0 iE0
  have s1 := sc_run H R1
  have s2 := sc_run s1 R2
  have J1 := am_runD (d' := 1399) R1 (by decide)
  have J2 := am_runD (d' := 1399) R2 (by decide)
  refine ⟨h, I1, s2, fun Q => ?_⟩
  rw [g284_560 rfl, g284_561 rfl, g284_562, g284_563, g284_564, nI_add, g284_565 (sc_ax H (show _ < L by omega) hL), H.2.2.1, g284_566 rfl, g284_567, g284_568, g284_569, nI_add, g284_570 (sc_ax H (show _ < L by omega) hL), H.2.2.1, g284_571 (sc_4 H), J1 _]
  show am_J (1399 + 1) 284 574 [some (.ref 0), some (.ref 4), some (.ref 349), some (.int (nI (5 * i)))] [.int r] h Q ↔ _
  rw [g284_574 rfl, g284_575 rfl, g284_576, g284_577, g284_578, nI_add, g284_579 (sc_ax s1 (show _ < L by omega) hL), s1.2.2.1, g284_580 rfl, g284_581, g284_582, g284_583, nI_add, g284_584 (sc_ax s1 (show _ < L by omega) hL), s1.2.2.1, g284_585 (sc_349 s1), J2 _]
  show am_J (1399 + 1) 284 588 [some (.ref 0), some (.ref 4), some (.ref 349), some (.int (nI (5 * i)))] [.int r, .int r] h Q ↔ _
  rw [g284_588, if_pos rfl]
theorem lw_16 (hL : L ≤ 2560) (hi : 5 * i + 5 ≤ L) (I : Inv i h) (H : sc L xs h) : ∃ h2, Inv (i + 1) h2 ∧ sc L xs h2 ∧ ∀ Q, am_J (1399 + 1) 284 593 [some (.ref 0), some (.ref 4), some (.ref 349), some (.int (nI (5 * i)))] [] h Q ↔ am_J (1399 + 1) 284 859 [some (.ref 0), some (.ref 4), some (.ref 349), some (.int (nI (5 * i)))] [] h2 Q := by
  have I1 := up_Inv I
  obtain ⟨iS0, iGv, iT0, iO0, iF0, iD0, iP0, iR0, iM0, nf, fe, fX, fM, fA, nc, ce, cX, cM, cd, lab, iN0, iC0, iE0, iS1, iL0⟩ := I
  obtain ⟨r, R1, R2⟩ := o_done (d := 0) (x := xs (5 * i + 1)) iS0 iP0
  have s1 := sc_run H R1
  have s2 := sc_run s1 R2
  have J1 := am_runD (d' := 1399) R1 (by decide)
  have J2 := am_runD (d' := 1399) R2 (by decide)
  refine ⟨h, I1, s2, fun Q => ?_⟩
  rw [g284_593 rfl, g284_594 rfl, g284_595, g284_596, g284_597, nI_add, g284_598 (sc_ax H (show _ < L by omega) hL), H.2.2.1, g284_599 (sc_4 H), J1 _]
  show am_J (1399 + 1) 284 602 [some (.ref 0), some (.ref 4), some (.ref 349), some (.int (nI (5 * i)))] [.int r] h Q ↔ _
  rw [g284_602 rfl, g284_603 rfl, g284_604, g284_605, g284_606, nI_add, g284_607 (sc_ax s1 (show _ < L by omega) hL), s1.2.2.1, g284_608 (sc_349 s1), J2 _]
  show am_J (1399 + 1) 284 611 [some (.ref 0), some (.ref 4), some (.ref 349), some (.int (nI (5 * i)))] [.int r, .int r] h Q ↔ _
  rw [g284_611, if_pos rfl]
theorem lw_17 (hL : L ≤ 2560) (hi : 5 * i + 5 ≤ L) (I : Inv i h) (H : sc L xs h) : ∃ h2, Inv (i + 1) h2 ∧ sc L xs h2 ∧ ∀ Q, am_J (1399 + 1) 284 616 [some (.ref 0), some (.ref 4), some (.ref 349), some (.int (nI (5 * i)))] [] h Q ↔ am_J (1399 + 1) 284 859 [some (.ref 0), some (.ref 4), some (.ref 349), some (.int (nI (5 * i)))] [] h2 Q := by
  obtain ⟨r, h1, h2, R1, R2, I2⟩ := o_needs (d := 0) (x := xs (5 * i + 1)) (y := xs (5 * i + 2)) I
  have s1 := sc_run H R1
  have s2 := sc_run s1 R2
  have J1 := am_runD (d' := 1399) R1 (by decide)
  have J2 := am_runD (d' := 1399) R2 (by decide)
  refine ⟨h2, (up_Inv I2), s2, fun Q => ?_⟩
  rw [g284_616 rfl, g284_617 rfl, g284_618, g284_619, g284_620, nI_add, g284_621 (sc_ax H (show _ < L by omega) hL), H.2.2.1, g284_622 rfl, g284_623, g284_624, g284_625, nI_add, g284_626 (sc_ax H (show _ < L by omega) hL), H.2.2.1, g284_627 (sc_4 H), J1 _]
  show am_J (1399 + 1) 284 630 [some (.ref 0), some (.ref 4), some (.ref 349), some (.int (nI (5 * i)))] [.int r] h1 Q ↔ _
  rw [g284_630 rfl, g284_631 rfl, g284_632, g284_633, g284_634, nI_add, g284_635 (sc_ax s1 (show _ < L by omega) hL), s1.2.2.1, g284_636 rfl, g284_637, g284_638, g284_639, nI_add, g284_640 (sc_ax s1 (show _ < L by omega) hL), s1.2.2.1, g284_641 (sc_349 s1), J2 _]
  show am_J (1399 + 1) 284 644 [some (.ref 0), some (.ref 4), some (.ref 349), some (.int (nI (5 * i)))] [.int r, .int r] h2 Q ↔ _
  rw [g284_644, if_pos rfl]
theorem lw_18 (hL : L ≤ 2560) (hi : 5 * i + 5 ≤ L) (I : Inv i h) (H : sc L xs h) : ∃ h2, Inv (i + 1) h2 ∧ sc L xs h2 ∧ ∀ Q, am_J (1399 + 1) 284 649 [some (.ref 0), some (.ref 4), some (.ref 349), some (.int (nI (5 * i)))] [] h Q ↔ am_J (1399 + 1) 284 859 [some (.ref 0), some (.ref 4), some (.ref 349), some (.int (nI (5 * i)))] [] h2 Q := by
  obtain ⟨r, h1, h2, R1, R2, I2⟩ := o_neededBy (d := 0) (x := xs (5 * i + 1)) (y := xs (5 * i + 2)) I
  have s1 := sc_run H R1
  have s2 := sc_run s1 R2
  have J1 := am_runD (d' := 1399) R1 (by decide)
  have J2 := am_runD (d' := 1399) R2 (by decide)
  refine ⟨h2, (up_Inv I2), s2, fun Q => ?_⟩
  rw [g284_649 rfl, g284_650 rfl, g284_651, g284_652, g284_653, nI_add, g284_654 (sc_ax H (show _ < L by omega) hL), H.2.2.1, g284_655 rfl, g284_656, g284_657, g284_658, nI_add, g284_659 (sc_ax H (show _ < L by omega) hL), H.2.2.1, g284_660 (sc_4 H), J1 _]
  show am_J (1399 + 1) 284 663 [some (.ref 0), some (.ref 4), some (.ref 349), some (.int (nI (5 * i)))] [.int r] h1 Q ↔ _
  rw [g284_663 rfl, g284_664 rfl, g284_665, g284_666, g284_667, nI_add, g284_668 (sc_ax s1 (show _ < L by omega) hL), s1.2.2.1, g284_669 rfl, g284_670, g284_671, g284_672, nI_add, g284_673 (sc_ax s1 (show _ < L by omega) hL), s1.2.2.1, g284_674 (sc_349 s1), J2 _]
  show am_J (1399 + 1) 284 677 [some (.ref 0), some (.ref 4), some (.ref 349), some (.int (nI (5 * i)))] [.int r, .int r] h2 Q ↔ _
  rw [g284_677, if_pos rfl]
theorem lw_19 (hL : L ≤ 2560) (hi : 5 * i + 5 ≤ L) (I : Inv i h) (H : sc L xs h) : ∃ h2, Inv (i + 1) h2 ∧ sc L xs h2 ∧ ∀ Q, am_J (1399 + 1) 284 682 [some (.ref 0), some (.ref 4), some (.ref 349), some (.int (nI (5 * i)))] [] h Q ↔ am_J (1399 + 1) 284 859 [some (.ref 0), some (.ref 4), some (.ref 349), some (.int (nI (5 * i)))] [] h2 Q := by
  have I1 := up_Inv I
  obtain ⟨iS0, iGv, iT0, iO0, iF0, iD0, iP0, iR0, iM0, nf, fe, fX, fM, fA, nc, ce, cX, cM, cd, lab, iN0, iC0, iE0, iS1, iL0⟩ := I
  obtain ⟨r, R1, R2⟩ := o_cycle (d := 0) (x := xs (5 * i + 1)) (y := xs (5 * i + 2)) iS0 iR0
  have s1 := sc_run H R1
  have s2 := sc_run s1 R2
  have J1 := am_runD (d' := 1399) R1 (by decide)
  have J2 := am_runD (d' := 1399) R2 (by decide)
  refine ⟨h, I1, s2, fun Q => ?_⟩
  rw [g284_682 rfl, g284_683 rfl, g284_684, g284_685, g284_686, nI_add, g284_687 (sc_ax H (show _ < L by omega) hL), H.2.2.1, g284_688 rfl, g284_689, g284_690, g284_691, nI_add, g284_692 (sc_ax H (show _ < L by omega) hL), H.2.2.1, g284_693 (sc_4 H), J1 _]
  show am_J (1399 + 1) 284 696 [some (.ref 0), some (.ref 4), some (.ref 349), some (.int (nI (5 * i)))] [.int r] h Q ↔ _
  rw [g284_696 rfl, g284_697 rfl, g284_698, g284_699, g284_700, nI_add, g284_701 (sc_ax s1 (show _ < L by omega) hL), s1.2.2.1, g284_702 rfl, g284_703, g284_704, g284_705, nI_add, g284_706 (sc_ax s1 (show _ < L by omega) hL), s1.2.2.1, g284_707 (sc_349 s1), J2 _]
  show am_J (1399 + 1) 284 710 [some (.ref 0), some (.ref 4), some (.ref 349), some (.int (nI (5 * i)))] [.int r, .int r] h Q ↔ _
  rw [g284_710, if_pos rfl]
theorem lw_20 (hL : L ≤ 2560) (hi : 5 * i + 5 ≤ L) (I : Inv i h) (H : sc L xs h) : ∃ h2, Inv (i + 1) h2 ∧ sc L xs h2 ∧ ∀ Q, am_J (1399 + 1) 284 715 [some (.ref 0), some (.ref 4), some (.ref 349), some (.int (nI (5 * i)))] [] h Q ↔ am_J (1399 + 1) 284 859 [some (.ref 0), some (.ref 4), some (.ref 349), some (.int (nI (5 * i)))] [] h2 Q := by
  have I1 := up_Inv I
  obtain ⟨iS0, iGv, iT0, iO0, iF0, iD0, iP0, iR0, iM0, nf, fe, fX, fM, fA, nc, ce, cX, cM, cd, lab, iN0, iC0, iE0, iS1, iL0⟩ := I
  obtain ⟨r, R1, R2⟩ := o_trace (d := 0) (x := xs (5 * i + 1)) (y := xs (5 * i + 2)) iS0 iE0
  have s1 := sc_run H R1
  have s2 := sc_run s1 R2
  have J1 := am_runD (d' := 1399) R1 (by decide)
  have J2 := am_runD (d' := 1399) R2 (by decide)
  refine ⟨h, I1, s2, fun Q => ?_⟩
  rw [g284_715 rfl, g284_716 rfl, g284_717, g284_718, g284_719, nI_add, g284_720 (sc_ax H (show _ < L by omega) hL), H.2.2.1, g284_721 rfl, g284_722, g284_723, g284_724, nI_add, g284_725 (sc_ax H (show _ < L by omega) hL), H.2.2.1, g284_726 (sc_4 H), J1 _]
  show am_J (1399 + 1) 284 729 [some (.ref 0), some (.ref 4), some (.ref 349), some (.int (nI (5 * i)))] [.int r] h Q ↔ _
  rw [g284_729 rfl, g284_730 rfl, g284_731, g284_732, g284_733, nI_add, g284_734 (sc_ax s1 (show _ < L by omega) hL), s1.2.2.1, g284_735 rfl, g284_736, g284_737, g284_738, nI_add, g284_739 (sc_ax s1 (show _ < L by omega) hL), s1.2.2.1, g284_740 (sc_349 s1), J2 _]
  show am_J (1399 + 1) 284 743 [some (.ref 0), some (.ref 4), some (.ref 349), some (.int (nI (5 * i)))] [.int r, .int r] h Q ↔ _
  rw [g284_743, if_pos rfl]
theorem lw_21 (hL : L ≤ 2560) (hi : 5 * i + 5 ≤ L) (I : Inv i h) (H : sc L xs h) : ∃ h2, Inv (i + 1) h2 ∧ sc L xs h2 ∧ ∀ Q, am_J (1399 + 1) 284 748 [some (.ref 0), some (.ref 4), some (.ref 349), some (.int (nI (5 * i)))] [] h Q ↔ am_J (1399 + 1) 284 859 [some (.ref 0), some (.ref 4), some (.ref 349), some (.int (nI (5 * i)))] [] h2 Q := by
  have I1 := up_Inv I
  obtain ⟨iS0, iGv, iT0, iO0, iF0, iD0, iP0, iR0, iM0, nf, fe, fX, fM, fA, nc, ce, cX, cM, cd, lab, iN0, iC0, iE0, iS1, iL0⟩ := I
  obtain ⟨r, R1, R2⟩ := o_named (d := 0) (x := xs (5 * i + 1)) (y := xs (5 * i + 2)) (z := xs (5 * i + 3)) iS0 iC0
  have s1 := sc_run H R1
  have s2 := sc_run s1 R2
  have J1 := am_runD (d' := 1399) R1 (by decide)
  have J2 := am_runD (d' := 1399) R2 (by decide)
  refine ⟨h, I1, s2, fun Q => ?_⟩
  rw [g284_748 rfl, g284_749 rfl, g284_750, g284_751, g284_752, nI_add, g284_753 (sc_ax H (show _ < L by omega) hL), H.2.2.1, g284_754 rfl, g284_755, g284_756, g284_757, nI_add, g284_758 (sc_ax H (show _ < L by omega) hL), H.2.2.1, g284_759 rfl, g284_760, g284_761, g284_762, nI_add, g284_763 (sc_ax H (show _ < L by omega) hL), H.2.2.1, g284_764 (sc_4 H), J1 _]
  show am_J (1399 + 1) 284 767 [some (.ref 0), some (.ref 4), some (.ref 349), some (.int (nI (5 * i)))] [.long r] h Q ↔ _
  rw [g284_767 rfl, g284_768 rfl, g284_769, g284_770, g284_771, nI_add, g284_772 (sc_ax s1 (show _ < L by omega) hL), s1.2.2.1, g284_773 rfl, g284_774, g284_775, g284_776, nI_add, g284_777 (sc_ax s1 (show _ < L by omega) hL), s1.2.2.1, g284_778 rfl, g284_779, g284_780, g284_781, nI_add, g284_782 (sc_ax s1 (show _ < L by omega) hL), s1.2.2.1, g284_783 (sc_349 s1), J2 _]
  show am_J (1399 + 1) 284 786 [some (.ref 0), some (.ref 4), some (.ref 349), some (.int (nI (5 * i)))] [.long r, .long r] h Q ↔ _
  rw [g284_786, lg_cmp0.mpr rfl, g284_787, if_pos rfl]
theorem lw_22 (hL : L ≤ 2560) (hi : 5 * i + 5 ≤ L) (I : Inv i h) (H : sc L xs h) : ∃ h2, Inv (i + 1) h2 ∧ sc L xs h2 ∧ ∀ Q, am_J (1399 + 1) 284 792 [some (.ref 0), some (.ref 4), some (.ref 349), some (.int (nI (5 * i)))] [] h Q ↔ am_J (1399 + 1) 284 859 [some (.ref 0), some (.ref 4), some (.ref 349), some (.int (nI (5 * i)))] [] h2 Q := by
  have I1 := up_Inv I
  obtain ⟨iS0, iGv, iT0, iO0, iF0, iD0, iP0, iR0, iM0, nf, fe, fX, fM, fA, nc, ce, cX, cM, cd, lab, iN0, iC0, iE0, iS1, iL0⟩ := I
  obtain ⟨r, R1, R2⟩ := o_old (d := 0) (x := xs (5 * i + 1)) (y := xs (5 * i + 2)) (z := xs (5 * i + 3)) iS0 iD0
  have s1 := sc_run H R1
  have s2 := sc_run s1 R2
  have J1 := am_runD (d' := 1399) R1 (by decide)
  have J2 := am_runD (d' := 1399) R2 (by decide)
  refine ⟨h, I1, s2, fun Q => ?_⟩
  rw [g284_792 rfl, g284_793 rfl, g284_794, g284_795, g284_796, nI_add, g284_797 (sc_ax H (show _ < L by omega) hL), H.2.2.1, g284_798 rfl, g284_799, g284_800, g284_801, nI_add, g284_802 (sc_ax H (show _ < L by omega) hL), H.2.2.1, g284_803 rfl, g284_804, g284_805, g284_806, nI_add, g284_807 (sc_ax H (show _ < L by omega) hL), H.2.2.1, g284_808 (sc_4 H), J1 _]
  show am_J (1399 + 1) 284 811 [some (.ref 0), some (.ref 4), some (.ref 349), some (.int (nI (5 * i)))] [.long r] h Q ↔ _
  rw [g284_811 rfl, g284_812 rfl, g284_813, g284_814, g284_815, nI_add, g284_816 (sc_ax s1 (show _ < L by omega) hL), s1.2.2.1, g284_817 rfl, g284_818, g284_819, g284_820, nI_add, g284_821 (sc_ax s1 (show _ < L by omega) hL), s1.2.2.1, g284_822 rfl, g284_823, g284_824, g284_825, nI_add, g284_826 (sc_ax s1 (show _ < L by omega) hL), s1.2.2.1, g284_827 (sc_349 s1), J2 _]
  show am_J (1399 + 1) 284 830 [some (.ref 0), some (.ref 4), some (.ref 349), some (.int (nI (5 * i)))] [.long r, .long r] h Q ↔ _
  rw [g284_830, lg_cmp0.mpr rfl, g284_831, if_pos rfl]
theorem lw_23 (hL : L ≤ 2560) (hi : 5 * i + 5 ≤ L) (I : Inv i h) (H : sc L xs h) : ∃ h2, Inv (i + 1) h2 ∧ sc L xs h2 ∧ ∀ Q, am_J (1399 + 1) 284 836 [some (.ref 0), some (.ref 4), some (.ref 349), some (.int (nI (5 * i)))] [] h Q ↔ am_J (1399 + 1) 284 859 [some (.ref 0), some (.ref 4), some (.ref 349), some (.int (nI (5 * i)))] [] h2 Q := by
  obtain ⟨r, R1, R2⟩ := o_count (d := 0) (x := xs (5 * i + 1)) I
  have s1 := sc_run H R1
  have s2 := sc_run s1 R2
  have J1 := am_runD (d' := 1399) R1 (by decide)
  have J2 := am_runD (d' := 1399) R2 (by decide)
  refine ⟨h, (up_Inv I), s2, fun Q => ?_⟩
  rw [g284_836 rfl, g284_837 rfl, g284_838, g284_839, g284_840, nI_add, g284_841 (sc_ax H (show _ < L by omega) hL), H.2.2.1, g284_842 (sc_4 H), J1 _]
  show am_J (1399 + 1) 284 845 [some (.ref 0), some (.ref 4), some (.ref 349), some (.int (nI (5 * i)))] [.int r] h Q ↔ _
  rw [g284_845 rfl, g284_846 rfl, g284_847, g284_848, g284_849, nI_add, g284_850 (sc_ax s1 (show _ < L by omega) hL), s1.2.2.1, g284_851 (sc_349 s1), J2 _]
  show am_J (1399 + 1) 284 854 [some (.ref 0), some (.ref 4), some (.ref 349), some (.int (nI (5 * i)))] [.int r, .int r] h Q ↔ _
  rw [g284_854, if_pos rfl]
end LWC

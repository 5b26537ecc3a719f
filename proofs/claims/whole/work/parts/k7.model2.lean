/-! Model.<init>, the rest (by wip/whole/gen_model2.py) -/
section CT4
variable {d : Nat} {h : am_H} {Q : Option Value → am_H → Prop} {a : Nat}
def c_frp (k : Nat) (h : am_H) : am_H := am_setR (c_fresh h 256) 349 k (some h.1)
theorem c_frp_1 {k : Nat} : (c_frp k h).1 = h.1 + 1 := c_setR_1.trans c_fresh_1
theorem c_X_frp {k : Nat} {g : am_H} (X : c_X h g) : c_X h (c_frp k g) := c_X_setR (c_X_fresh X)
def c_mo3 (h : am_H) : am_H := am_setR (am_new (am_setR (am_new (h) (100, 256) 256) 349 37 (some 367)) (100, 256) 256) 349 38 (some 368)
theorem c_mo3_1 : (c_mo3 h).1 = h.1 + 2 := by unfold c_mo3; simp only [c_new_1, c_setR_1]
theorem c_X_mo3 {g : am_H} (X : c_X h g) : c_X h (c_mo3 g) := by unfold c_mo3; exact c_X_setR (c_X_new (c_X_setR (c_X_new (X))))
theorem x_mo3 (hs : h.1 = 367) (O : am_ob h 349 12) : am_J (d + 1) 170 152 [some (.ref 349)] [] h Q ↔ am_J (d + 1) 170 170 [some (.ref 349)] [] (c_mo3 h) Q := by
  simp (disch := first | exact c_cat | (refine c_X_ob ?_ O; with_reducible repeat (first | exact c_X_refl | refine c_X_setR ?_ | refine c_X_new ?_)) | (simp only [c_new_1, c_setR_1, hs, Nat.reduceAdd, Nat.reduceLeDiff]; done)) only [g170_152, g170_153, g170_156, g170_158, g170_158r, g170_158n, g170_161, g170_162, g170_165, g170_167, g170_167r, g170_167n, c_new_1, c_setR_1, hs, Nat.reduceAdd, Option.toList, List.nil_append, List.cons_append, c_mo3]
theorem x_frp4 (hs : h.1 = 369) (O : am_ob h 349 12) : am_J (d + 1) 170 170 [some (.ref 349)] [] h Q ↔ am_J (d + 1) 170 180 [some (.ref 349)] [] (c_frp 39 h) Q := by
  have O' : am_ob (c_fresh h 256) 349 12 := c_X_ob (c_X_fresh c_X_refl) O
  rw [g170_170, g170_171, g170_174, x_fresh (by decide) (by rw [hs]; decide)]
  exact g170_177r O' (by decide)
def c_mo5 (h : am_H) : am_H := am_setR (am_new (am_setR (am_new (am_setR (am_new (am_setR (am_new (am_setR (am_new (am_setR (am_new (h) (101, 256) 256) 349 40 (some 370)) (102, 256) 256) 349 41 (some 371)) (100, 6144) 6144) 349 42 (some 372)) (100, 256) 256) 349 43 (some 373)) (104, 48) 48) 349 44 (some 374)) (104, 256) 256) 349 45 (some 375)
theorem c_mo5_1 : (c_mo5 h).1 = h.1 + 6 := by unfold c_mo5; simp only [c_new_1, c_setR_1]
theorem c_X_mo5 {g : am_H} (X : c_X h g) : c_X h (c_mo5 g) := by unfold c_mo5; exact c_X_setR (c_X_new (c_X_setR (c_X_new (c_X_setR (c_X_new (c_X_setR (c_X_new (c_X_setR (c_X_new (c_X_setR (c_X_new (X))))))))))))
theorem x_mo5 (hs : h.1 = 370) (O : am_ob h 349 12) : am_J (d + 1) 170 180 [some (.ref 349)] [] h Q ↔ am_J (d + 1) 170 233 [some (.ref 349)] [] (c_mo5 h) Q := by
  simp (disch := first | exact c_cat | (refine c_X_ob ?_ O; with_reducible repeat (first | exact c_X_refl | refine c_X_setR ?_ | refine c_X_new ?_)) | (simp only [c_new_1, c_setR_1, hs, Nat.reduceAdd, Nat.reduceLeDiff]; done)) only [g170_180, g170_181, g170_184, g170_186, g170_186r, g170_186n, g170_189, g170_190, g170_193, g170_195, g170_195r, g170_195n, g170_198, g170_199, g170_202, g170_204, g170_204r, g170_204n, g170_207, g170_208, g170_211, g170_213, g170_213r, g170_213n, g170_216, g170_217, g170_219, g170_221, g170_221r, g170_221n, g170_224, g170_225, g170_228, g170_230, g170_230r, g170_230n, c_new_1, c_setR_1, hs, Nat.reduceAdd, Option.toList, List.nil_append, List.cons_append, c_mo5]
def c_mo6 (h : am_H) : am_H := am_setR (am_new (am_setR (am_new (am_setR (am_new (am_setR (am_new (am_setR (am_new (am_setR (am_new (h) (104, 256) 256) 349 46 (some 376)) (104, 8) 8) 349 47 (some 377)) (104, 4) 4) 349 48 (some 378)) (100, 20) 20) 349 50 (some 379)) (100, 20) 20) 349 51 (some 380)) (100, 4) 4) 349 52 (some 381)
theorem c_mo6_1 : (c_mo6 h).1 = h.1 + 6 := by unfold c_mo6; simp only [c_new_1, c_setR_1]
theorem c_X_mo6 {g : am_H} (X : c_X h g) : c_X h (c_mo6 g) := by unfold c_mo6; exact c_X_setR (c_X_new (c_X_setR (c_X_new (c_X_setR (c_X_new (c_X_setR (c_X_new (c_X_setR (c_X_new (c_X_setR (c_X_new (X))))))))))))
theorem x_mo6 (hs : h.1 = 376) (O : am_ob h 349 12) : am_J (d + 1) 170 233 [some (.ref 349)] [] h Q ↔ am_J (d + 1) 170 280 [some (.ref 349)] [] (c_mo6 h) Q := by
  simp (disch := first | exact c_cat | (refine c_X_ob ?_ O; with_reducible repeat (first | exact c_X_refl | refine c_X_setR ?_ | refine c_X_new ?_)) | (simp only [c_new_1, c_setR_1, hs, Nat.reduceAdd, Nat.reduceLeDiff]; done)) only [g170_233, g170_234, g170_237, g170_239, g170_239r, g170_239n, g170_242, g170_243, g170_245, g170_247, g170_247r, g170_247n, g170_250, g170_251, g170_252, g170_254, g170_254r, g170_254n, g170_257, g170_258, g170_260, g170_262, g170_262r, g170_262n, g170_265, g170_266, g170_268, g170_270, g170_270r, g170_270n, g170_273, g170_274, g170_275, g170_277, g170_277r, g170_277n, c_new_1, c_setR_1, hs, Nat.reduceAdd, Option.toList, List.nil_append, List.cons_append, c_mo6]
def c_mo7 (h : am_H) : am_H := am_setR (am_new (am_setR (am_new (am_setR (am_new (am_setR (am_new (am_setR (am_new (am_setR (am_new (h) (100, 4) 4) 349 53 (some 382)) (101, 20) 20) 349 54 (some 383)) (102, 20) 20) 349 55 (some 384)) (100, 600) 600) 349 67 (some 385)) (101, 600) 600) 349 68 (some 386)) (102, 600) 600) 349 69 (some 387)
theorem c_mo7_1 : (c_mo7 h).1 = h.1 + 6 := by unfold c_mo7; simp only [c_new_1, c_setR_1]
theorem c_X_mo7 {g : am_H} (X : c_X h g) : c_X h (c_mo7 g) := by unfold c_mo7; exact c_X_setR (c_X_new (c_X_setR (c_X_new (c_X_setR (c_X_new (c_X_setR (c_X_new (c_X_setR (c_X_new (c_X_setR (c_X_new (X))))))))))))
theorem x_mo7 (hs : h.1 = 382) (O : am_ob h 349 12) : am_J (d + 1) 170 280 [some (.ref 349)] [] h Q ↔ am_J (d + 1) 170 330 [some (.ref 349)] [] (c_mo7 h) Q := by
  simp (disch := first | exact c_cat | (refine c_X_ob ?_ O; with_reducible repeat (first | exact c_X_refl | refine c_X_setR ?_ | refine c_X_new ?_)) | (simp only [c_new_1, c_setR_1, hs, Nat.reduceAdd, Nat.reduceLeDiff]; done)) only [g170_280, g170_281, g170_282, g170_284, g170_284r, g170_284n, g170_287, g170_288, g170_290, g170_292, g170_292r, g170_292n, g170_295, g170_296, g170_298, g170_300, g170_300r, g170_300n, g170_303, g170_304, g170_307, g170_309, g170_309r, g170_309n, g170_312, g170_313, g170_316, g170_318, g170_318r, g170_318n, g170_321, g170_322, g170_325, g170_327, g170_327r, g170_327n, c_new_1, c_setR_1, hs, Nat.reduceAdd, Option.toList, List.nil_append, List.cons_append, c_mo7]
def c_mo8 (h : am_H) : am_H := am_setR (am_new (am_setR (am_new (am_setR (am_new (am_setR (am_new (am_setR (am_new (am_setR (am_new (h) (102, 64) 64) 349 71 (some 388)) (102, 64) 64) 349 72 (some 389)) (104, 256) 256) 349 73 (some 390)) (104, 256) 256) 349 74 (some 391)) (104, 256) 256) 349 75 (some 392)) (104, 64) 64) 349 76 (some 393)
theorem c_mo8_1 : (c_mo8 h).1 = h.1 + 6 := by unfold c_mo8; simp only [c_new_1, c_setR_1]
theorem c_X_mo8 {g : am_H} (X : c_X h g) : c_X h (c_mo8 g) := by unfold c_mo8; exact c_X_setR (c_X_new (c_X_setR (c_X_new (c_X_setR (c_X_new (c_X_setR (c_X_new (c_X_setR (c_X_new (c_X_setR (c_X_new (X))))))))))))
theorem x_mo8 (hs : h.1 = 388) (O : am_ob h 349 12) : am_J (d + 1) 170 330 [some (.ref 349)] [] h Q ↔ am_J (d + 1) 170 381 [some (.ref 349)] [] (c_mo8 h) Q := by
  simp (disch := first | exact c_cat | (refine c_X_ob ?_ O; with_reducible repeat (first | exact c_X_refl | refine c_X_setR ?_ | refine c_X_new ?_)) | (simp only [c_new_1, c_setR_1, hs, Nat.reduceAdd, Nat.reduceLeDiff]; done)) only [g170_330, g170_331, g170_333, g170_335, g170_335r, g170_335n, g170_338, g170_339, g170_341, g170_343, g170_343r, g170_343n, g170_346, g170_347, g170_350, g170_352, g170_352r, g170_352n, g170_355, g170_356, g170_359, g170_361, g170_361r, g170_361n, g170_364, g170_365, g170_368, g170_370, g170_370r, g170_370n, g170_373, g170_374, g170_376, g170_378, g170_378r, g170_378n, c_new_1, c_setR_1, hs, Nat.reduceAdd, Option.toList, List.nil_append, List.cons_append, c_mo8]
def c_mo9 (h : am_H) : am_H := am_setR (am_new (h) (100, 48) 48) 349 77 (some 394)
theorem c_mo9_1 : (c_mo9 h).1 = h.1 + 1 := by unfold c_mo9; simp only [c_new_1, c_setR_1]
theorem c_X_mo9 {g : am_H} (X : c_X h g) : c_X h (c_mo9 g) := by unfold c_mo9; exact c_X_setR (c_X_new (X))
theorem x_mo9 (hs : h.1 = 394) (O : am_ob h 349 12) : am_J (d + 1) 170 381 [some (.ref 349)] [] h Q ↔ am_J (d + 1) 170 389 [some (.ref 349)] [] (c_mo9 h) Q := by
  simp (disch := first | exact c_cat | (refine c_X_ob ?_ O; with_reducible repeat (first | exact c_X_refl | refine c_X_setR ?_ | refine c_X_new ?_)) | (simp only [c_new_1, c_setR_1, hs, Nat.reduceAdd, Nat.reduceLeDiff]; done)) only [g170_381, g170_382, g170_384, g170_386, g170_386r, g170_386n, c_new_1, c_setR_1, hs, Nat.reduceAdd, Option.toList, List.nil_append, List.cons_append, c_mo9]
theorem x_frp10 (hs : h.1 = 395) (O : am_ob h 349 12) : am_J (d + 1) 170 389 [some (.ref 349)] [] h Q ↔ am_J (d + 1) 170 399 [some (.ref 349)] [] (c_frp 78 h) Q := by
  have O' : am_ob (c_fresh h 256) 349 12 := c_X_ob (c_X_fresh c_X_refl) O
  rw [g170_389, g170_390, g170_393, x_fresh (by decide) (by rw [hs]; decide)]
  exact g170_396r O' (by decide)
def c_mo11 (h : am_H) : am_H := am_setR (am_new (am_setR (am_new (am_setR (am_new (am_setR (am_new (am_setR (am_new (am_setR (am_new (h) (100, 256) 256) 349 79 (some 396)) (100, 256) 256) 349 80 (some 397)) (100, 256) 256) 349 84 (some 398)) (104, 12288) 12288) 349 85 (some 399)) (100, 2560) 2560) 349 87 (some 400)) (101, 2560) 2560) 349 88 (some 401)
theorem c_mo11_1 : (c_mo11 h).1 = h.1 + 6 := by unfold c_mo11; simp only [c_new_1, c_setR_1]
theorem c_X_mo11 {g : am_H} (X : c_X h g) : c_X h (c_mo11 g) := by unfold c_mo11; exact c_X_setR (c_X_new (c_X_setR (c_X_new (c_X_setR (c_X_new (c_X_setR (c_X_new (c_X_setR (c_X_new (c_X_setR (c_X_new (X))))))))))))
theorem x_mo11 (hs : h.1 = 396) (O : am_ob h 349 12) : am_J (d + 1) 170 399 [some (.ref 349)] [] h Q ↔ am_J (d + 1) 170 453 [some (.ref 349)] [] (c_mo11 h) Q := by
  simp (disch := first | exact c_cat | (refine c_X_ob ?_ O; with_reducible repeat (first | exact c_X_refl | refine c_X_setR ?_ | refine c_X_new ?_)) | (simp only [c_new_1, c_setR_1, hs, Nat.reduceAdd, Nat.reduceLeDiff]; done)) only [g170_399, g170_400, g170_403, g170_405, g170_405r, g170_405n, g170_408, g170_409, g170_412, g170_414, g170_414r, g170_414n, g170_417, g170_418, g170_421, g170_423, g170_423r, g170_423n, g170_426, g170_427, g170_430, g170_432, g170_432r, g170_432n, g170_435, g170_436, g170_439, g170_441, g170_441r, g170_441n, g170_444, g170_445, g170_448, g170_450, g170_450r, g170_450n, c_new_1, c_setR_1, hs, Nat.reduceAdd, Option.toList, List.nil_append, List.cons_append, c_mo11]
def c_model (h : am_H) : am_H := c_mo11 (c_frp 78 (c_mo9 (c_mo8 (c_mo7 (c_mo6 (c_mo5 (c_frp 39 (c_mo3 (c_mo2 (c_mo1 (c_mo0 (h))))))))))))
theorem x_model (hs : h.1 = 350) (O : am_ob h 349 12) : am_J (d + 1) 170 0 [some (.ref 349)] [] h Q ↔ Q none (c_model h) := by
  have s0 := hs
  have o0 := O
  have s1 : (c_mo0 (h)).1 = 355 := c_mo0_1.trans (by rw [s0])
  have o1 : am_ob (c_mo0 (h)) 349 12 := c_X_ob (c_X_mo0 c_X_refl) o0
  have s2 : (c_mo1 (c_mo0 (h))).1 = 361 := c_mo1_1.trans (by rw [s1])
  have o2 : am_ob (c_mo1 (c_mo0 (h))) 349 12 := c_X_ob (c_X_mo1 c_X_refl) o1
  have s3 : (c_mo2 (c_mo1 (c_mo0 (h)))).1 = 367 := c_mo2_1.trans (by rw [s2])
  have o3 : am_ob (c_mo2 (c_mo1 (c_mo0 (h)))) 349 12 := c_X_ob (c_X_mo2 c_X_refl) o2
  have s4 : (c_mo3 (c_mo2 (c_mo1 (c_mo0 (h))))).1 = 369 := c_mo3_1.trans (by rw [s3])
  have o4 : am_ob (c_mo3 (c_mo2 (c_mo1 (c_mo0 (h))))) 349 12 := c_X_ob (c_X_mo3 c_X_refl) o3
  have s5 : (c_frp 39 (c_mo3 (c_mo2 (c_mo1 (c_mo0 (h)))))).1 = 370 := c_frp_1.trans (by rw [s4])
  have o5 : am_ob (c_frp 39 (c_mo3 (c_mo2 (c_mo1 (c_mo0 (h)))))) 349 12 := c_X_ob (c_X_frp c_X_refl) o4
  have s6 : (c_mo5 (c_frp 39 (c_mo3 (c_mo2 (c_mo1 (c_mo0 (h))))))).1 = 376 := c_mo5_1.trans (by rw [s5])
  have o6 : am_ob (c_mo5 (c_frp 39 (c_mo3 (c_mo2 (c_mo1 (c_mo0 (h))))))) 349 12 := c_X_ob (c_X_mo5 c_X_refl) o5
  have s7 : (c_mo6 (c_mo5 (c_frp 39 (c_mo3 (c_mo2 (c_mo1 (c_mo0 (h)))))))).1 = 382 := c_mo6_1.trans (by rw [s6])
  have o7 : am_ob (c_mo6 (c_mo5 (c_frp 39 (c_mo3 (c_mo2 (c_mo1 (c_mo0 (h)))))))) 349 12 := c_X_ob (c_X_mo6 c_X_refl) o6
  have s8 : (c_mo7 (c_mo6 (c_mo5 (c_frp 39 (c_mo3 (c_mo2 (c_mo1 (c_mo0 (h))))))))).1 = 388 := c_mo7_1.trans (by rw [s7])
  have o8 : am_ob (c_mo7 (c_mo6 (c_mo5 (c_frp 39 (c_mo3 (c_mo2 (c_mo1 (c_mo0 (h))))))))) 349 12 := c_X_ob (c_X_mo7 c_X_refl) o7
  have s9 : (c_mo8 (c_mo7 (c_mo6 (c_mo5 (c_frp 39 (c_mo3 (c_mo2 (c_mo1 (c_mo0 (h)))))))))).1 = 394 := c_mo8_1.trans (by rw [s8])
  have o9 : am_ob (c_mo8 (c_mo7 (c_mo6 (c_mo5 (c_frp 39 (c_mo3 (c_mo2 (c_mo1 (c_mo0 (h)))))))))) 349 12 := c_X_ob (c_X_mo8 c_X_refl) o8
  have s10 : (c_mo9 (c_mo8 (c_mo7 (c_mo6 (c_mo5 (c_frp 39 (c_mo3 (c_mo2 (c_mo1 (c_mo0 (h))))))))))).1 = 395 := c_mo9_1.trans (by rw [s9])
  have o10 : am_ob (c_mo9 (c_mo8 (c_mo7 (c_mo6 (c_mo5 (c_frp 39 (c_mo3 (c_mo2 (c_mo1 (c_mo0 (h))))))))))) 349 12 := c_X_ob (c_X_mo9 c_X_refl) o9
  have s11 : (c_frp 78 (c_mo9 (c_mo8 (c_mo7 (c_mo6 (c_mo5 (c_frp 39 (c_mo3 (c_mo2 (c_mo1 (c_mo0 (h)))))))))))).1 = 396 := c_frp_1.trans (by rw [s10])
  have o11 : am_ob (c_frp 78 (c_mo9 (c_mo8 (c_mo7 (c_mo6 (c_mo5 (c_frp 39 (c_mo3 (c_mo2 (c_mo1 (c_mo0 (h)))))))))))) 349 12 := c_X_ob (c_X_frp c_X_refl) o10
  rw [x_mo0 s0 o0, x_mo1 s1 o1, x_mo2 s2 o2, x_mo3 s3 o3, x_frp4 s4 o4, x_mo5 s5 o5, x_mo6 s6 o6, x_mo7 s7 o7, x_mo8 s8 o8, x_mo9 s9 o9, x_frp10 s10 o10, x_mo11 s11 o11, g170_453]
  rfl
end CT4

section CT2
variable {d : Nat} {h : am_H} {Q : Option Value → am_H → Prop} {a : Nat}
theorem x_bookC (hs : h.1 = 300) (O : am_ob h 4 11) (R4 : am_R h 4 4 = some 11) : am_J (d + 4) 138 65 [some (.ref 4), none] [] h Q ↔ am_J (d + 4) 138 124 [some (.ref 4), some (.int (nI 0))] [] (c_bookC h) Q := by
  have R1 : am_R (am_new (am_setR (am_new h (209, 4) 4) 4 5 (some 300)) (6, 0) 13) 4 4 = some 11 := by
    simp [c_new_R, c_setR_R, c_new_1, c_setR_1, hs, R4]
  simp (disch := first | exact c_cat | (refine c_X_ob ?_ O; repeat (first | exact c_X_refl | refine c_X_setR ?_ | refine c_X_new ?_ | refine c_X_parser ?_ | refine c_X_plan ?_)) | exact c_ob_it (by simp only [c_new_1, c_setR_1, c_parser_1, hs]) | (simp only [c_new_1, c_setR_1, c_parser_1, hs]; done) | decide) only [g138_65, g138_66, g138_67, g138_70, g138_70r, g138_70n, g138_73, g138_74, g138_77, g138_78, g138_79, g138_82, g138_85, g138_85r, g138_85n, g138_88, g138_89, g138_92, g138_93, g138_96, g138_96r, g138_96n, g138_99, g138_100, g138_103, g138_105, g138_105r, g138_105n, g138_108, g138_109, g138_112, g138_114, g138_114r, g138_114n, g138_117, g138_118, g138_119, g138_122, g138_123, c_new_1, c_setR_1, c_parser_1, c_plan_1, x_parser, x_plan, R1, va_rf, hs, Nat.reduceAdd, Option.toList, List.nil_append, c_bookC]
theorem c_X_bookC {g : am_H} (X : c_X h g) : c_X h (c_bookC g) := c_X_setI <| c_X_setR <| c_X_new <| c_X_setR <| c_X_new <| c_X_setR <| c_X_plan <| c_X_new <| c_X_setR <| c_X_parser <| c_X_new <| c_X_setR <| c_X_new X
theorem c_bookC_1 : (c_bookC h).1 = h.1 + 21 := rfl
theorem c_bookC_tg (hs : h.1 = 300) : am_tg (c_bookC h) 300 = (209, 4) := by
  simp only [c_bookC, c_plan, c_parser, c_code, c_text, c_lexer, c_setR_tg, c_setI_tg, c_new_tg, c_new_1, c_setR_1, c_setI_1, hs, Nat.reduceAdd, ↓reduceIte, Nat.reduceEqDiff]
theorem c_bookC_R (hs : h.1 = 300) : am_R (c_bookC h) 4 5 = some 300 := by
  simp only [c_bookC, c_plan, c_parser, c_code, c_text, c_lexer, c_setR_R, c_setI_R, c_new_R, c_new_1, c_setR_1, c_setI_1, hs, Nat.reduceAdd, ↓reduceIte, Nat.reduceEqDiff]
theorem x_bookD (sA : h.1 = 300) (O : am_ob h 4 11) (O9 : am_ob h 9 4) (R2 : am_R h 4 2 = some 9) (R0 : am_R h 9 0 = some 10) (R1 : am_R h 9 1 = some 11) : am_J (d + 4) 138 43 [some (.ref 4), none] [] h Q ↔ Q none (c_shs 4 (c_bookC (c_bookB h))) := by
  rw [x_bookB O O9 R2 R0 R1]
  have sB : (c_bookB h).1 = 300 := sA
  have OB : am_ob (c_bookB h) 4 11 := O
  rw [x_bookC sB OB (by unfold c_bookB; rw [c_setR_R, if_pos rfl, if_pos rfl])]
  have T := c_bookC_tg sB
  have sC : (c_bookC (c_bookB h)).1 = 321 := by rw [c_bookC_1, sB]
  exact x_sheets (c_X_ob (c_X_bookC c_X_refl) OB) (c_bookC_R sB) (fun q hq => ⟨by rw [sC]; decide, by rw [T], by rw [T]; exact hq, by omega⟩) 4 0 rfl
def c_pre (h : am_H) : am_H := am_new (am_setR (c_text (am_new (am_setR (c_text (am_new h (10, 0) 2) 5 240) 4 0 (some 5)) (10, 0) 2) 7 400) 4 1 (some 7)) (4, 0) 17
theorem c_pre_1 : (c_pre h).1 = h.1 + 5 := rfl
theorem c_X_pre {g : am_H} (X : c_X h g) : c_X h (c_pre g) := c_X_new <| c_X_setR <| c_X_text <| c_X_new <| c_X_setR <| c_X_text <| c_X_new X
theorem c_pre_ob (hs : h.1 = 5) : am_ob (c_pre h) 9 4 := c_ob_it (by simp only [c_new_1, c_setR_1, c_text_1, hs])
theorem c_bookA_eq : c_bookA h = am_setR (c_machine (c_pre h)) 4 2 (some 9) := by unfold c_bookA c_pre; rfl
theorem c_mach_R0 (hs : h.1 = 10) : am_R (am_setR (c_machine h) 4 2 (some 9)) 9 0 = some 10 := by
  rw [c_setR_R, if_neg (show ¬ 9 = 4 by decide), c_machine_R (by rw [hs]; decide) (by decide) (by decide)]
  simp only [c_mach1, c_numbers, c_setR_R, c_new_R, c_new_1, c_setR_1, hs, Nat.reduceAdd, ↓reduceIte, Nat.reduceEqDiff]
theorem c_mach_R1 (hs : h.1 = 10) : am_R (am_setR (c_machine h) 4 2 (some 9)) 9 1 = some 11 := by
  rw [c_setR_R, if_neg (show ¬ 9 = 4 by decide), c_machine_R (by rw [hs]; decide) (by decide) (by decide)]
  simp only [c_mach1, c_numbers, c_setR_R, c_new_R, c_new_1, c_setR_1, hs, Nat.reduceAdd, ↓reduceIte, Nat.reduceEqDiff]
def c_book (h : am_H) : am_H := c_shs 4 (c_bookC (c_bookB (am_setR (c_machine (c_pre h)) 4 2 (some 9))))
theorem x_book (hs : h.1 = 5) (O : am_ob h 4 11) : am_J (d + 4) 138 0 [some (.ref 4), none] [] h Q ↔ Q none (c_book h) := by
  have s1 : (c_pre h).1 = 10 := by rw [c_pre_1, hs]
  rw [x_bookA hs O, c_bookA_eq]
  unfold c_book
  refine x_bookD ?_ ?_ ?_ ?_ (c_mach_R0 s1) (c_mach_R1 s1)
  · rw [c_setR_1, c_machine_1, s1]
  · exact c_X_ob (c_X_setR (c_X_machine (c_X_pre c_X_refl))) O
  · exact c_X_ob (c_X_setR (c_X_machine c_X_refl)) (c_pre_ob hs)
  · rw [c_setR_R, if_pos rfl, if_pos rfl]
end CT2

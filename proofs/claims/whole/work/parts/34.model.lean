/-! Model.<init>, in pieces (by wip/whole/gen_model_ctor.py) -/
section CT3
variable {d : Nat} {h : am_H} {Q : Option Value → am_H → Prop} {a : Nat}
def c_mo0 (h : am_H) : am_H := am_setR (am_new (am_setR (am_new (am_setR (am_new (am_setI (am_setR (am_new (am_setR (am_new (h) (100, 240) 240) 349 0 (some 350)) (100, 2000) 2000) 349 1 (some 351)) 349 4 (-1)) (100, 3696) 3696) 349 5 (some 352)) (100, 3696) 3696) 349 6 (some 353)) (100, 3696) 3696) 349 7 (some 354)
theorem c_mo0_1 : (c_mo0 h).1 = h.1 + 5 := by unfold c_mo0; simp only [c_new_1, c_setR_1, c_setI_1, c_fresh_1]
theorem c_X_mo0 {g : am_H} (X : c_X h g) : c_X h (c_mo0 g) := by unfold c_mo0; exact c_X_setR (c_X_new (c_X_setR (c_X_new (c_X_setR (c_X_new (c_X_setI (c_X_setR (c_X_new (c_X_setR (c_X_new (X)))))))))))
theorem x_mo0 (hs : h.1 = 350) (O : am_ob h 349 12) : am_J (d + 1) 170 0 [some (.ref 349)] [] h Q ↔ am_J (d + 1) 170 54 [some (.ref 349)] [] (c_mo0 h) Q := by
  simp (disch := first | exact c_cat | (refine c_X_ob ?_ O; repeat (first | exact c_X_refl | refine c_X_setR ?_ | refine c_X_new ?_ | refine c_X_setI ?_ | refine c_X_fresh ?_)) | (simp only [c_new_1, c_setR_1, c_setI_1, c_fresh_1, hs, Nat.reduceAdd, Nat.reduceLeDiff]; done)) only [g170_0, g170_1, g170_4, g170_5, g170_8, g170_10, g170_10r, g170_10n, g170_13, g170_14, g170_17, g170_19, g170_19r, g170_19n, g170_22, g170_23, g170_24, g170_27, g170_28, g170_31, g170_33, g170_33r, g170_33n, g170_36, g170_37, g170_40, g170_42, g170_42r, g170_42n, g170_45, g170_46, g170_49, g170_51, g170_51r, g170_51n, c_new_1, c_setR_1, c_setI_1, c_fresh_1, x_fresh, hs, Nat.reduceAdd, Option.toList, List.nil_append, List.cons_append, c_mo0]
end CT3

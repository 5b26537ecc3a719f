/-! THE SCRIPT STAYS: no run writes to it -/
def am_l0 (h g : am_H) : Prop := (4 ≤ g.1 ∧ h.1 ≤ g.1) ∧ (∀ a, a < h.1 → am_tg g a = am_tg h a) ∧ ∀ k, am_I g 0 k = am_I h 0 k
section LO0
variable {h h1 : am_H} {a k : Nat}
theorem l0_I {x : Int32} (h4 : 4 ≤ h.1) (ha : 4 ≤ a) : am_l0 h (am_setI h a k x) := ⟨⟨h4, Nat.le_refl _⟩, fun _ _ => rfl, fun j => by rw [hI_I, if_neg (by omega)]⟩
theorem l0_cI {a0 sp dp n : Nat} (h4 : 4 ≤ h.1) (ha : 4 ≤ a) : am_l0 h (am_cpI h a0 sp a dp n) := ⟨⟨h4, Nat.le_refl _⟩, fun _ _ => rfl, fun j => if_neg (by omega)⟩
theorem l0_new {t : Nat × Nat} {n : Nat} (h4 : 4 ≤ h.1) : am_l0 h (am_new h t n) := ⟨⟨Nat.le_succ_of_le h4, Nat.le_succ _⟩, fun a ha => by rw [c_new_tg, if_neg (by omega)], fun j => by
  show am_z _ _ _ _ _ = _
  unfold am_z
  rw [if_neg (by omega)]⟩
theorem l0_same (h4 : 4 ≤ h.1) : am_l0 h h := ⟨⟨h4, Nat.le_refl _⟩, fun _ _ => rfl, fun _ => rfl⟩
theorem l0_put {ty : FieldType} {v : Value} (h4 : 4 ≤ h.1) (ha : 4 ≤ a) (q : am_put ty h a k v = some h1) : am_l0 h h1 := by
  unfold am_put at q
  split at q
  · split at q
    · cases q; exact l0_I h4 ha
    · cases q
  · split at q
    · split at q
      · cases q; exact l0_I h4 ha
      · cases q
    · cases q
  · split at q
    · cases q; exact ⟨⟨h4, Nat.le_refl _⟩, fun _ _ => rfl, fun _ => rfl⟩
    · cases q
  · split at q
    · cases q; exact ⟨⟨h4, Nat.le_refl _⟩, fun _ _ => rfl, fun _ => rfl⟩
    · cases q
  · obtain ⟨x, h2, h3⟩ := am_map1 q; subst h3; exact ⟨⟨h4, Nat.le_refl _⟩, fun _ _ => rfl, fun _ => rfl⟩
  · obtain ⟨x, h2, h3⟩ := am_map1 q; subst h3; exact ⟨⟨h4, Nat.le_refl _⟩, fun _ _ => rfl, fun _ => rfl⟩
  · cases q
theorem l0_pu {ty : FieldType} {v : Value} (h4 : 4 ≤ h.1) (ha : 4 ≤ a) (q : am_pu ty h a k v = some h1) : am_l0 h h1 := by
  unfold am_pu at q
  split at q
  · split at q
    · cases q; exact l0_I h4 ha
    · cases q
  · exact l0_put h4 ha q
theorem l0_as {tys : List FieldType} {st st' : List Value} (h4 : 4 ≤ h.1) (q : am_as tys st h = some (k, st', h1)) : am_l0 h h1 := by
  unfold am_as at q
  split at q
  · split at q
    · rename_i hc
      obtain ⟨x, h2, h3⟩ := am_map1 q
      cases h3
      exact l0_pu h4 hc.2.1 h2
    · cases q
  · cases q
theorem l0_al {tys : List FieldType} {st st' : List Value} (h4 : 4 ≤ h.1) (q : am_al tys st h = some (k, st', h1)) : am_l0 h h1 := by
  unfold am_al at q
  split at q
  · split at q
    · cases q; exact l0_same h4
    · cases q
  · cases q
theorem l0_hp {own d : Nat} {ini : Bool} {i : Instr} {st st' : List Value} (h4 : 4 ≤ h.1) (q : am_hp own ini d i st h = some (k, st', h1)) : am_l0 h h1 := by
  unfold am_hp at q
  split at q
  all_goals (repeat' (split at q))
  all_goals first
    | exact l0_al h4 q
    | exact l0_as h4 q
    | (rename_i hc; obtain ⟨x, h2, h3⟩ := am_map1 q; cases h3; exact l0_put h4 hc.2.1 h2)
    | (cases q; exact l0_same h4)
    | (cases q; exact l0_new h4)
    | (cases q; exact ⟨⟨h4, Nat.le_refl _⟩, fun _ _ => rfl, fun _ => rfl⟩)
    | (rename_i hc _; cases q; exact l0_cI h4 hc.2.2.1)
    | (rename_i hc _ _; cases q; exact l0_cI h4 hc.2.2.1)
    | cases q
theorem l0_am : ∀ (n d mi pc : Nat) (ls : am_Lo) (st : List Value) (h : am_H) (x : Option Value × am_H), 4 ≤ h.1 → am n d mi pc ls st h = some x → am_l0 h x.2 := by
  intro n
  induction n with
  | zero => intro d mi pc ls st h x _ ha; cases ha
  | succ n ih =>
    intro d mi pc ls st h x h4 ha
    unfold am at ha
    split at ha
    · cases ha
    · split at ha
      · cases ha
      · split at ha
        · split at ha
          · cases ha; exact l0_same h4
          · cases ha
        · split at ha
          · split at ha
            · exact ih _ _ _ _ _ _ _ h4 ha
            · cases ha
          · split at ha
            · exact ih _ _ _ _ _ _ _ h4 ha
            · split at ha
              · split at ha
                · exact ih _ _ _ _ _ _ _ h4 ha
                · cases ha
              · split at ha
                · rename_i hh
                  have s1 := l0_hp h4 hh
                  split at ha
                  · have s2 := ih _ _ _ _ _ _ _ s1.1.1 ha
                    exact ⟨⟨s2.1.1, Nat.le_trans s1.1.2 s2.1.2⟩, fun a hb => (s2.2.1 a (Nat.lt_of_lt_of_le hb s1.1.2)).trans (s1.2.1 a hb), fun k => (s2.2.2 k).trans (s1.2.2 k)⟩
                  · cases ha
                · split at ha
                  · split at ha
                    · cases ha
                    · split at ha
                      · rename_i hc
                        have s1 := ih _ _ _ _ _ _ _ h4 hc
                        split at ha
                        · have s2 := ih _ _ _ _ _ _ _ s1.1.1 ha
                          exact ⟨⟨s2.1.1, Nat.le_trans s1.1.2 s2.1.2⟩, fun a hb => (s2.2.1 a (Nat.lt_of_lt_of_le hb s1.1.2)).trans (s1.2.1 a hb), fun k => (s2.2.2 k).trans (s1.2.2 k)⟩
                        · cases ha
                      · cases ha
                  · cases ha
theorem l0_run {d mi : Nat} {ls : am_Lo} {h' : am_H} {r : Option Value} (h4 : 4 ≤ h.1) (R : am_run d mi ls h r h') : am_l0 h h' := by
  obtain ⟨n, r1, h1, ha, rfl, rfl⟩ := (R (fun r1 h1 => r1 = r ∧ h1 = h')).mpr ⟨rfl, rfl⟩
  exact l0_am _ _ _ _ _ _ _ _ h4 ha
end LO0

/-! MORE FRAMES: what runs with d frames left runs so with more -/
theorem hp_more {own : Nat} {ini : Bool} {d : Nat} {i : Instr} {st : List Value} {h : am_H} {x : Nat × List Value × am_H} (hh : am_hp own ini d i st h = some x) : am_hp own ini (d + 1) i st h = some x := by
  cases i with
  | invokespecial idx =>
    simp only [am_hp] at hh ⊢
    split at hh
    · rename_i e1 e2
      split at hh
      · rename_i c
        rw [if_pos ⟨by omega, c.2⟩]; exact hh
      · cases hh
    · cases hh
  | invokestatic idx =>
    simp only [am_hp] at hh ⊢
    split at hh
    · split at hh
      · rename_i c; rw [if_pos ⟨by omega, c.2⟩]; exact hh
      · cases hh
    · split at hh
      · rename_i c; rw [if_pos ⟨by omega, c.2⟩]; exact hh
      · cases hh
    · split at hh
      · rename_i c; rw [if_pos ⟨by omega, c.2⟩]; exact hh
      · cases hh
    · split at hh
      · rename_i c; rw [if_pos ⟨by omega, c.2⟩]; exact hh
      · cases hh
    · split at hh
      · rename_i c; rw [if_pos ⟨by omega, c.2⟩]; exact hh
      · cases hh
    · cases hh
  | _ => exact hh
theorem cl_more {own d : Nat} {i : Instr} {st : List Value} {h : am_H} {x : Nat × List Value × List Value} (hh : am_cl own d i st h = some x) : am_cl own (d + 1) i st h = some x ∧ 1 ≤ d := by
  cases i with
  | invokevirtual idx =>
    simp only [am_cl] at hh ⊢
    split at hh
    · split at hh
      · split at hh
        · rename_i c; rw [if_pos ⟨c.1, c.2.1, c.2.2.1, by omega, c.2.2.2.2⟩]; exact ⟨hh, c.2.2.2.1⟩
        · cases hh
      · cases hh
    · cases hh
  | invokespecial idx =>
    simp only [am_cl] at hh ⊢
    split at hh
    · split at hh
      · split at hh
        · rename_i c; rw [if_pos ⟨c.1, by omega, c.2.2⟩]; exact ⟨hh, c.2.1⟩
        · cases hh
      · cases hh
    · cases hh
  | invokestatic idx =>
    simp only [am_cl] at hh ⊢
    split at hh
    · split at hh
      · split at hh
        · rename_i c; rw [if_pos ⟨c.1, c.2.1, by omega, c.2.2.2⟩]; exact ⟨hh, c.2.2.1⟩
        · cases hh
      · cases hh
    · cases hh
  | _ => cases hh
theorem hp_none {own d : Nat} {ini : Bool} {i : Instr} {st : List Value} {h : am_H} {x : Nat × List Value × List Value} (hh : am_cl own d i st h = some x) : am_hp own ini (d + 1) i st h = none := by
  cases i with
  | invokevirtual idx => rfl
  | invokespecial idx =>
    simp only [am_cl] at hh
    split at hh
    · rename_i kd mj n e
      split at hh
      · split at hh
        · rename_i c
          simp only [am_hp, e]
          rcases c.1 with rfl | rfl <;> rfl
        · cases hh
      · cases hh
    · cases hh
  | invokestatic idx =>
    simp only [am_cl] at hh
    split at hh
    · rename_i kd mj n e
      split at hh
      · split at hh
        · rename_i c
          simp only [am_hp, e]
          rcases c.1 with rfl | rfl <;> rfl
        · cases hh
      · cases hh
    · cases hh
  | _ => cases hh
theorem am_dmore : ∀ (n d mi pc : Nat) (ls : am_Lo) (st : List Value) (h : am_H) (x : Option Value × am_H), am n d mi pc ls st h = some x → am n (d + 1) mi pc ls st h = some x := by
  intro n
  induction n with
  | zero => intro d mi pc ls st h x ha; cases ha
  | succ n ih =>
    intro d mi pc ls st h x ha
    unfold am at ha ⊢
    split at ha
    · cases ha
    · rename_i e he
      split at ha
      · cases ha
      · rename_i i len hd
        split at ha
        · exact ha
        · rename_i h1
          split at ha
          · split at ha
            next hl => rw [if_pos hl]; exact ih _ _ _ _ _ _ _ ha
            next => cases ha
          · rename_i h2
            split at ha
            · exact ih _ _ _ _ _ _ _ ha
            · rename_i h3
              split at ha
              · split at ha
                next hl => rw [if_pos hl]; exact ih _ _ _ _ _ _ _ ha
                next => cases ha
              · rename_i h4
                split at ha
                · rename_i k st' h' hp
                  rw [hp_more hp]
                  simp only
                  split at ha
                  next hl => rw [if_pos hl]; exact ih _ _ _ _ _ _ _ ha
                  next => cases ha
                · split at ha
                  · rename_i mj as rest hc
                    obtain ⟨c1, c2⟩ := cl_more hc
                    rw [hp_none hc, c1]
                    simp only
                    split at ha
                    · cases ha
                    · rename_i e' he'
                      split at ha
                      · rename_i r h' hr
                        have := ih _ _ _ _ _ _ _ hr
                        rw [show d - 1 + 1 = d + 1 - 1 by omega] at this
                        rw [this]
                        simp only
                        split at ha
                        next hl => rw [if_pos hl]; exact ih _ _ _ _ _ _ _ ha
                        next => cases ha
                      · cases ha
                  · cases ha
theorem am_runD {d d' mi : Nat} {ls : am_Lo} {h h' : am_H} {r : Option Value} (R : am_run d mi ls h r h') (hd : d ≤ d') : am_run d' mi ls h r h' := by
  obtain ⟨e, rfl⟩ : ∃ e, d' = d + e := ⟨d' - d, by omega⟩
  clear hd
  obtain ⟨n, r', h'', ha, e1, e2⟩ := (R (fun r' h'' => r' = r ∧ h'' = h')).mpr ⟨rfl, rfl⟩
  refine am_run_of ⟨n, r', h'', ?_, e1, e2⟩
  clear R
  induction e with
  | zero => exact ha
  | succ e ih => exact am_dmore _ _ _ _ _ _ _ _ ih

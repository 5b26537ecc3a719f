/-! BOTH PARSERS: what they share; steps behind a fault -/
def mg (lt : Option (Nat × Nat)) (f p : Nat) : Option (Nat × Nat) := match lt with
  | none => some (f, p)
  | some y => if p < y.2 then some (f, p) else some y
def mgO (lt W : Option (Nat × Nat)) : Option (Nat × Nat) := match W with
  | none => lt
  | some y => mg lt y.1 y.2
theorem mgO_assoc (a b c : Option (Nat × Nat)) : mgO (mgO a b) c = mgO a (mgO b c) := by
  cases c with
  | none => rfl
  | some z =>
    cases b with
    | none => rfl
    | some y =>
      cases a with
      | none =>
        show mg (some y) z.1 z.2 = mgO none (mg (some y) z.1 z.2)
        unfold mg; simp only; split <;> rfl
      | some x =>
        show mg (mg (some x) y.1 y.2) z.1 z.2 = mgO (some x) (mg (some y) z.1 z.2)
        unfold mg; simp only
        by_cases h1 : y.2 < x.2 <;> by_cases h2 : z.2 < y.2 <;> by_cases h3 : z.2 < x.2 <;> simp [mgO, mg, h1, h2, h3] <;> omega
theorem mgO_comm {a b : Option (Nat × Nat)} (h : ∀ x y, a = some x → b = some y → x.2 ≠ y.2) : mgO a b = mgO b a := by
  cases a with
  | none =>
    cases b with
    | none => rfl
    | some y => rfl
  | some x =>
    cases b with
    | none => rfl
    | some y =>
      have := h x y rfl rfl
      show mg (some x) y.1 y.2 = mg (some y) x.1 x.2
      unfold mg; simp only
      by_cases h1 : y.2 < x.2
      · rw [if_pos h1, if_neg (by omega)]
      · rw [if_neg h1, if_pos (by omega)]
theorem mgO_none (a : Option (Nat × Nat)) : mgO none a = a := by cases a <;> rfl
theorem mgO_eq_none {a b : Option (Nat × Nat)} (h : mgO a b = none) : a = none ∧ b = none := by
  cases b with
  | none => exact ⟨h, rfl⟩
  | some y =>
    exfalso
    cases a with
    | none => cases h
    | some x =>
      have h : mg (some x) y.1 y.2 = none := h
      unfold mg at h; simp only at h
      split at h <;> cases h
/-- the later fault, as both sides keep it; (0, 2000): none yet, and its number is 0 -/
def LT (ln lp : Int32) (lt : Option (Nat × Nat)) : Prop := match lt with
  | none => lp = -1
  | some y => ln = nI y.1 ∧ ((lp = nI y.2 ∧ y.2 ≤ 1000 ∧ y.1 ≠ 0 ∧ y.1 < 100) ∨ (lp = -1 ∧ y.2 = 2000))
theorem LT_mg {ln lp : Int32} {lt : Option (Nat × Nat)} {f p : Nat} (h : LT ln lp lt) (hp : p ≤ 1000) (hf : f ≠ 0 ∧ f < 100 := by decide) : LT (xlat ln lp (nI f) (nI p)).1 (xlat ln lp (nI f) (nI p)).2 (mg lt f p) := by
  cases lt with
  | none =>
    have h : lp = -1 := h
    rw [show xlat ln lp (nI f) (nI p) = (nI f, nI p) from if_pos (Or.inl h)]
    exact ⟨rfl, Or.inl ⟨rfl, hp, hf.1, hf.2⟩⟩
  | some y =>
    obtain ⟨h1, ⟨h2, h3⟩ | ⟨h2, h3⟩⟩ := h
    · unfold mg; simp only
      by_cases c : p < y.2
      · rw [if_pos c, show xlat ln lp (nI f) (nI p) = (nI f, nI p) from if_pos (Or.inr (by rw [h2]; exact nI_lt c (by omega)))]
        exact ⟨rfl, Or.inl ⟨rfl, hp, hf.1, hf.2⟩⟩
      · rw [if_neg c, show xlat ln lp (nI f) (nI p) = (ln, lp) from if_neg (fun q => q.elim (fun e => nI_nem1 (by omega) (h2.symm.trans e)) (fun e => by rw [h2] at e; exact nI_nlt (by omega) (by omega) e))]
        exact ⟨h1, Or.inl ⟨h2, h3⟩⟩
    · unfold mg; simp only
      rw [if_pos (show p < y.2 by omega), show xlat ln lp (nI f) (nI p) = (nI f, nI p) from if_pos (Or.inl h2)]
      exact ⟨rfl, Or.inl ⟨rfl, hp, hf.1, hf.2⟩⟩
/-! trees in the model's tables: node n of T, all below M, not higher than f, gives the code D, is printed as E, needs L, calls G -/
abbrev ntT : Type := Nat → Int32 × Int32 × Int32 × Int32 × Int64
def ltN (B o : Nat) : Nat → Nat → List Nat
  | 0, _ => []
  | f + 1, v => if v = 0 then [] else ltN B o f (v / B) ++ [v % B + o]
/-- the letters of a name that the model keeps -/
def ltM (x : Int64) : List Nat := ltN 32 96 8 x.toBitVec.toNat
def decN : Nat → Nat → List Nat
  | 0, _ => []
  | l + 1, v => decN l (v / 10) ++ [48 + v % 10]
/-- how many digits a number has -/
def ndN : Nat → Nat → Nat
  | 0, _ => 1
  | f + 1, v => if v < 10 then 1 else ndN f (v / 10) + 1
def dgN (v b : Nat) : List Nat := if b = 0 then decN (ndN 20 v) v else (decN (max (ndN 20 v) (b + 1)) v).take (max (ndN 20 v) (b + 1) - b) ++ 46 :: (decN (max (ndN 20 v) (b + 1)) v).drop (max (ndN 20 v) (b + 1) - b)
def clN (c : Nat) : List Nat := [65 + c / 64, 97 + c % 8, 48 + c / 8 % 8]
def sgN (s : Nat) : List Nat := if s = 76 then [60, 61] else if s = 78 then [60, 62] else [s]
def opN (s : Nat) : Nat := if s = 43 then 7 else if s = 45 then 8 else if s = 42 then 9 else if s = 47 then 10 else if s = 37 then 11 else if s = 60 then 12 else if s = 76 then 13 else if s = 61 then 14 else 15
def wdN (w : Nat) : List Nat := (List.range (wl w)).map fun j => txN (6 * w + j)
def rgL (a b : Nat) : List Nat := (List.range (rgN a b)).map (rgC a b)
def ST : Int32 × Int64 := (nI 0, lN 0)
def rows_ (T : ntT) (M i a b : Nat) : Prop := i < M ∧ T i = (nI 10, nI a, nI b, nI 0, lN 0) ∧ a < 256 ∧ b < 256 ∧ rgS a b = true

/-! BITS of a long; what needs what, by way of others; the first one of a kind -/
def LBt (x : Int64) (r : Nat → Bool) : Prop := ∀ j, j < 64 → x.toBitVec.getLsbD j = r j
theorem LBt_0 : LBt (lN 0) (fun _ => false) := fun j _ => by
  rw [show (lN 0).toBitVec = 0#64 from rfl]; simp
theorem LBt_one {i : Nat} (hi : i < 64) : LBt (lN 1 <<< (lN i &&& 63)) (fun j => decide (j = i)) := fun j hj => bit_one i hi j hj
theorem LBt_or {x y : Int64} {r t : Nat → Bool} (h1 : LBt x r) (h2 : LBt y t) : LBt (x ||| y) (fun j => r j || t j) := fun j hj => by
  rw [Int64.toBitVec_or, BitVec.getLsbD_or, h1 j hj, h2 j hj]
theorem LBt_and {x y : Int64} {r t : Nat → Bool} (h1 : LBt x r) (h2 : LBt y t) : LBt (x &&& y) (fun j => r j && t j) := fun j hj => by
  rw [Int64.toBitVec_and, BitVec.getLsbD_and, h1 j hj, h2 j hj]
theorem LBt_not {x : Int64} {r : Nat → Bool} (h1 : LBt x r) : LBt (x ^^^ (-1)) (fun j => !r j) := fun j hj => by
  rw [Int64.toBitVec_xor, BitVec.getLsbD_xor, h1 j hj, show (-1 : Int64).toBitVec = BitVec.allOnes 64 from by decide, BitVec.getLsbD_allOnes, decide_eq_true hj, Bool.xor_true]
theorem LBt_zero {x : Int64} {r : Nat → Bool} (h : LBt x r) : x = lN 0 ↔ ∀ j, j < 64 → r j = false := by
  constructor
  · rintro rfl j hj
    rw [← h j hj]; exact LBt_0 j hj
  · intro q
    apply Int64.toBitVec_inj.mp
    apply BitVec.eq_of_getLsbD_eq
    intro j hj
    rw [h j hj, q j hj]; exact (LBt_0 j hj).symm
theorem LBt_ext {x : Int64} {r t : Nat → Bool} (h : LBt x r) (e : ∀ j, j < 64 → r j = t j) : LBt x t := fun j hj => (h j hj).trans (e j hj)
/-- the first one from i on, among n -/
def fnd (p : Nat → Bool) : Nat → Nat → Nat
  | 0, i => i
  | n + 1, i => if p i = true then i else fnd p n (i + 1)
theorem fnd_spec {p : Nat → Bool} : ∀ n i, i ≤ fnd p n i ∧ fnd p n i ≤ i + n ∧ (∀ j, i ≤ j → j < fnd p n i → p j = false) ∧ (fnd p n i < i + n → p (fnd p n i) = true) := by
  intro n
  induction n with
  | zero => intro i; exact ⟨Nat.le_refl _, Nat.le_refl _, fun j h1 h2 => absurd h2 (by show ¬ j < i; omega), fun q => absurd q (Nat.lt_irrefl _)⟩
  | succ n ih =>
    intro i
    unfold fnd
    by_cases c : p i = true
    · rw [if_pos c]; exact ⟨Nat.le_refl _, by omega, fun j h1 h2 => by omega, fun _ => c⟩
    · rw [if_neg c]
      obtain ⟨a1, a2, a3, a4⟩ := ih (i + 1)
      refine ⟨by omega, by omega, fun j h1 h2 => ?_, fun q => a4 (by omega)⟩
      by_cases e : j = i
      · rw [e]; exact Bool.eq_false_iff.mpr c
      · exact a3 j (by omega) h2
theorem fnd_eq {p : Nat → Bool} {n i v : Nat} (h1 : i ≤ v) (h2 : v ≤ i + n) (h3 : ∀ j, i ≤ j → j < v → p j = false) (h4 : v < i + n → p v = true) : fnd p n i = v := by
  obtain ⟨a1, a2, a3, a4⟩ := fnd_spec (p := p) n i
  rcases Nat.lt_trichotomy (fnd p n i) v with c | c | c
  · have := h3 _ a1 c
    rw [a4 (by omega)] at this; cases this
  · exact c
  · have := a3 v h1 c
    rw [h4 (by omega)] at this; cases this
theorem fnd_step {p : Nat → Bool} {n i : Nat} (h : p i = false) : fnd p (n + 1) i = fnd p n (i + 1) := by
  show (if p i = true then i else fnd p n (i + 1)) = _
  rw [h, if_neg (by decide)]
theorem fnd_here {p : Nat → Bool} {n i : Nat} (h : p i = true) : fnd p (n + 1) i = i := by
  show (if p i = true then i else fnd p n (i + 1)) = _
  rw [h, if_pos rfl]
/-- by way of others -/
abbrev RT (nl : Nat → List Nat) : Nat → Nat → Prop := Relation.TransGen (fun x y => y ∈ nl x)
theorem RT_one {nl : Nat → List Nat} {x y : Nat} (h : y ∈ nl x) : RT nl x y := Relation.TransGen.single h
theorem RT_trans {nl : Nat → List Nat} {x y z : Nat} (h : RT nl x y) (h2 : RT nl y z) : RT nl x z := Relation.TransGen.trans h h2
theorem RT_head {nl : Nat → List Nat} {x y : Nat} (h : RT nl x y) : ∃ z, z ∈ nl x := by
  induction h with
  | single h => exact ⟨_, h⟩
  | tail _ _ ih => exact ih
theorem RT_lt {nl : Nat → List Nat} (hl : ∀ x y, y ∈ nl x → y < 256) {x y : Nat} (h : RT nl x y) : y < 256 := by
  cases h with
  | single h => exact hl _ _ h
  | tail _ h => exact hl _ _ h
theorem RT_back {nl : Nat → List Nat} {S : Nat → Prop} (hS : ∀ x y, y ∈ nl x → S y → S x) {x y : Nat} (h : RT nl x y) : S y → S x := by
  induction h with
  | single h => exact fun q => hS _ _ h q
  | tail _ h ih => exact fun q => ih (hS _ _ h q)
theorem RT_fwd {nl : Nat → List Nat} {S : Nat → Prop} {x : Nat} (h0 : ∀ y, y ∈ nl x → S y) (hS : ∀ y z, S y → z ∈ nl y → S z) {y : Nat} (h : RT nl x y) : S y := by
  induction h with
  | single h => exact h0 _ h
  | tail _ h ih => exact hS _ _ ih h
theorem rt_ex (nl : Nat → List Nat) : ∃ rt : Nat → Nat → Bool, ∀ x y, rt x y = true ↔ RT nl x y := ⟨fun x y => @decide (RT nl x y) (Classical.propDecidable _), fun x y => @decide_eq_true_iff (RT nl x y) (Classical.propDecidable _)⟩
/-- Warshall's table -/
def wS (lk : Nat → Nat → Bool) : Nat → Nat → Nat → Bool
  | 0, i, j => lk i j
  | k + 1, i, j => wS lk k i j || (wS lk k i k && wS lk k k j)
section WAR
variable {lk : Nat → Nat → Bool}
theorem wS_up {k i j : Nat} (h : wS lk k i j = true) : ∀ n, wS lk (k + n) i j = true := by
  intro n
  induction n with
  | zero => exact h
  | succ n ih => show (wS lk (k + n) i j || _) = true; rw [ih]; rfl
theorem wS_succ {k i j : Nat} : wS lk (k + 1) i j = true ↔ wS lk k i j = true ∨ (wS lk k i k = true ∧ wS lk k k j = true) := by
  show (wS lk k i j || (wS lk k i k && wS lk k k j)) = true ↔ _
  rw [Bool.or_eq_true, Bool.and_eq_true]
theorem wS_tr : ∀ k a i j, a < k → wS lk k i a = true → wS lk k a j = true → wS lk k i j = true := by
  intro k
  induction k with
  | zero => intro a i j h; omega
  | succ k ih =>
    intro a i j ha h1 h2
    rw [wS_succ] at h1 h2 ⊢
    by_cases e : a = k
    · subst e
      have h1 : wS lk a i a = true := h1.elim id (fun q => q.1)
      have h2 : wS lk a a j = true := h2.elim id (fun q => q.2)
      exact Or.inr ⟨h1, h2⟩
    · have ha : a < k := by omega
      rcases h1 with h1 | ⟨h1, h1'⟩
      · rcases h2 with h2 | ⟨h2, h2'⟩
        · exact Or.inl (ih a i j ha h1 h2)
        · exact Or.inr ⟨ih a i k ha h1 h2, h2'⟩
      · rcases h2 with h2 | ⟨h2, h2'⟩
        · exact Or.inr ⟨h1, ih a k j ha h1' h2⟩
        · exact Or.inr ⟨h1, h2'⟩
theorem wS_RT {nl : Nat → List Nat} {m : Nat → Nat} {n : Nat} (hl : ∀ i j, i < n → j < n → (lk i j = true ↔ m j ∈ nl (m i))) (hm : ∀ x y, y ∈ nl x → ∃ i, i < n ∧ m i = x) (hi : ∀ i j, i < n → j < n → m i = m j → i = j) {i j : Nat} (h1 : i < n) (h2 : j < n) : wS lk n i j = true ↔ RT nl (m i) (m j) := by
  constructor
  · have H : ∀ k, k ≤ n → ∀ i j, i < n → j < n → wS lk k i j = true → RT nl (m i) (m j) := by
      intro k
      induction k with
      | zero => intro _ i j h1 h2 h; exact RT_one ((hl i j h1 h2).mp h)
      | succ k ih =>
        intro hk i j h1 h2 h
        rcases wS_succ.mp h with h | ⟨h, h'⟩
        · exact ih (by omega) i j h1 h2 h
        · exact RT_trans (ih (by omega) i k h1 (by omega) h) (ih (by omega) k j (by omega) h2 h')
    exact H n (Nat.le_refl _) i j h1 h2
  · have H : ∀ x y, RT nl x y → ∀ i j, i < n → j < n → m i = x → m j = y → wS lk n i j = true := by
      intro x y h
      induction h with
      | single h =>
        intro i j h1 h2 e1 e2
        have := wS_up (lk := lk) (k := 0) (i := i) (j := j) ((hl i j h1 h2).mpr (by rw [e1, e2]; exact h)) n
        rwa [Nat.zero_add] at this
      | tail h h' ih =>
        intro i j h1 h2 e1 e2
        obtain ⟨k, k1, k2⟩ := hm _ _ h'
        have a1 := ih i k h1 k1 e1 k2
        have := wS_up (lk := lk) (k := 0) (i := k) (j := j) ((hl k j k1 h2).mpr (by rw [k2, e2]; exact h')) n
        rw [Nat.zero_add] at this
        exact wS_tr n k i j k1 a1 this
    exact fun h => H _ _ h i j h1 h2 rfl rfl
end WAR
/-- may it be done next? -/
def rdy (nl : Nat → List Nat) (ch dn oc : Nat → Bool) (x : Nat) : Bool := ch x && !dn x && (oc x || (nl x).all fun y => !ch y || dn y)
theorem rdy_iff {nl : Nat → List Nat} {ch dn oc : Nat → Bool} {x : Nat} : rdy nl ch dn oc x = true ↔ ch x = true ∧ dn x = false ∧ (oc x = true ∨ ∀ y, y ∈ nl x → ch y = true → dn y = true) := by
  unfold rdy
  rw [Bool.and_eq_true, Bool.and_eq_true, Bool.or_eq_true, List.all_eq_true, Bool.not_eq_true']
  constructor
  · rintro ⟨⟨h1, h2⟩, h3⟩
    refine ⟨h1, h2, h3.imp id (fun q y hy hc => ?_)⟩
    have := q y hy
    rw [hc] at this
    simpa using this
  · rintro ⟨h1, h2, h3⟩
    refine ⟨⟨h1, h2⟩, h3.imp id (fun q y hy => ?_)⟩
    cases hc : ch y
    · rfl
    · rw [q y hy hc]; rfl
/-- when none is ready, all is done -/
theorem all_done {nl : Nat → List Nat} {ch dn oc : Nat → Bool} (hl : ∀ x y, y ∈ nl x → y < 256) (hoc : ∀ x, oc x = true ↔ RT nl x x) (hno : ∀ x, x < 256 → rdy nl ch dn oc x = false) : ∀ x, x < 256 → ch x = true → dn x = true := by
  obtain ⟨rt, hrt⟩ := rt_ex nl
  have H : ∀ k x, cnB (fun y => rt x y) 256 = k → x < 256 → ch x = true → dn x = false → False := by
    intro k
    induction k using Nat.strongRecOn with
    | _ k ih =>
      intro x hk hx hc hd
      have nr := hno x hx
      have n1 : oc x = false := by
        cases h : oc x
        · rfl
        · have := (rdy_iff (nl := nl) (oc := oc)).mpr ⟨hc, hd, Or.inl h⟩
          rw [nr] at this; cases this
      obtain ⟨y, y1, y2, y3⟩ : ∃ y, y ∈ nl x ∧ ch y = true ∧ dn y = false := by
        apply Classical.byContradiction
        intro q
        have := (rdy_iff (nl := nl) (oc := oc)).mpr ⟨hc, hd, Or.inr (fun y hy hy2 => by
          cases h : dn y
          · exact absurd ⟨y, hy, hy2, h⟩ q
          · rfl)⟩
        rw [nr] at this; cases this
      have hy := hl x y y1
      have n2 : oc y = false := by
        cases h : oc y
        · rfl
        · have := (rdy_iff (nl := nl) (oc := oc)).mpr ⟨y2, y3, Or.inl h⟩
          rw [hno y hy] at this; cases this
      have lt : cnB (fun z => rt y z) 256 < cnB (fun z => rt x z) 256 := by
        refine cnB_lt (i := y) (fun z hz => ?_) ?_ ?_ 256 hy
        · exact (hrt x z).mpr (RT_trans (RT_one y1) ((hrt y z).mp hz))
        · rw [Bool.eq_false_iff]
          intro q
          rw [(hoc y).mpr ((hrt y y).mp q)] at n2; cases n2
        · exact (hrt x y).mpr (RT_one y1)
      exact ih _ (by omega) y rfl hy y2 y3
  intro x hx hc
  cases h : dn x
  · exact (H _ x rfl hx hc h).elim
  · rfl
/-- CHANGED, by its roots -/
def CHG (nl : Nat → List Nat) (mb ro td : Nat → Bool) (x : Nat) : Prop := mb x = true ∧ ((ro x = true ∨ ∃ y, y ∈ nl x ∧ td y = true) ∨ ∃ y, RT nl x y ∧ mb y = true ∧ (ro y = true ∨ ∃ z, z ∈ nl y ∧ td z = true))
section CHS
variable {nl : Nat → List Nat} {mb ro td ch : Nat → Bool}
theorem CHG_ro {x : Nat} (h1 : mb x = true) (h2 : ro x = true) : CHG nl mb ro td x := ⟨h1, Or.inl (Or.inl h2)⟩
theorem CHG_need {x y : Nat} (h1 : mb x = true) (h2 : y ∈ nl x) (h3 : td y = true ∨ CHG nl mb ro td y) : CHG nl mb ro td x := by
  rcases h3 with h3 | ⟨h3, h4⟩
  · exact ⟨h1, Or.inl (Or.inr ⟨y, h2, h3⟩)⟩
  · refine ⟨h1, Or.inr ?_⟩
    rcases h4 with h4 | ⟨z, z1, z2, z3⟩
    · exact ⟨y, RT_one h2, h3, h4⟩
    · exact ⟨z, RT_trans (RT_one h2) z1, z2, z3⟩
theorem CHG_min (hm : ∀ x y, y ∈ nl x → mb x = true) (h1 : ∀ x, mb x = true → ro x = true → ch x = true) (h2 : ∀ x y, mb x = true → y ∈ nl x → td y = true ∨ ch y = true → ch x = true) {x : Nat} (h : CHG nl mb ro td x) : ch x = true := by
  have rt : ∀ x, mb x = true → (ro x = true ∨ ∃ y, y ∈ nl x ∧ td y = true) → ch x = true := fun x hx h => by
    rcases h with h | ⟨y, y1, y2⟩
    · exact h1 x hx h
    · exact h2 x y hx y1 (Or.inl y2)
  obtain ⟨a1, a2⟩ := h
  rcases a2 with a2 | ⟨y, y1, y2, y3⟩
  · exact rt x a1 a2
  · exact RT_back (S := fun x => ch x = true) (fun x y hy hc => h2 x y (hm x y hy) hy (Or.inr hc)) y1 (rt y y2 y3)
end CHS

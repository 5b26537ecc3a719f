/-! THE WORK never hangs where no cell is broken -/
def nrO (o : OC) : Prop := ∀ c, o ≠ .inr (.inr c)
section ENR
variable {tt : Nat → ntT} {rt : Nat → Nat} {cs : Nat → Nat → VL}
abbrev cvN : Nat → Option (Option VL) := fun _ => none
theorem nr_l {v : VL} : nrO (.inl v) := fun c q => by cases q
theorem nr_f {k : Nat} : nrO (oF k) := fun c q => by cases q
theorem nr_oL {x : Int64} : nrO (oL x) := fun c q => by cases q
theorem nr_bL {b : Bool} : nrO (bL b) := fun c q => by cases q
theorem nr_gv {x : UInt64} : nrO (gv x) := by
  unfold gv
  split
  · exact nr_l
  · exact nr_f
theorem nr_opL {s : Nat} {a b : Int64} : nrO (opL s a b) := by
  unfold opL
  repeat' split
  all_goals first | exact nr_bL | exact nr_f | exact nr_oL
theorem nr_opD {s : Nat} {a b : UInt64} : nrO (opD s a b) := by
  unfold opD
  by_cases h1 : s = 60
  · rw [if_pos h1]; exact nr_bL
  · rw [if_neg h1]
    by_cases h2 : s = 76
    · rw [if_pos h2]; exact nr_bL
    · rw [if_neg h2]
      by_cases h3 : s = 61
      · rw [if_pos h3]; exact nr_bL
      · rw [if_neg h3]
        by_cases h4 : s = 78
        · rw [if_pos h4]; exact nr_bL
        · rw [if_neg h4]
          split
          · exact nr_f
          · exact nr_gv
theorem nr_op2 {s : Nat} {u v : VL} : nrO (op2 s u v) := by
  unfold op2
  split
  · exact nr_opL
  · exact nr_opD
theorem nr_mid {l h : UInt64} : nrO (mid l h) := by
  unfold mid
  split
  · exact nr_gv
  · exact nr_f
theorem nr_lnV {x : UInt64} {a b : List UInt64} : nrO (lnV x a b) := by
  unfold lnV
  repeat' split
  all_goals first | exact nr_l | exact nr_f | exact nr_gv
theorem nr_arV {a b : List UInt64} : ∀ n i s, nrO (arV a b n i s) := by
  intro n
  induction n with
  | zero => intro i s; exact nr_l
  | succ n ih =>
    intro i s
    unfold arV
    repeat' split
    all_goals first | exact ih _ _ | exact nr_f
theorem nr_tabV {w : Nat} {x : UInt64} {a b : List UInt64} : nrO (tabV w x a b) := by
  unfold tabV
  split
  · split
    · exact nr_lnV
    · exact nr_arV _ _ _
  · exact nr_f
theorem nr_fold {w : Nat} : ∀ l m u σ, nrO (evFold cvN w l m u σ).1 := by
  intro l
  induction l with
  | nil =>
    intro m u σ
    unfold evFold
    show nrO (if w = 5 then oL (lN m) else if m = 0 then (if w = 2 then oL (lN 0) else oF 3) else .inl u)
    repeat' split
    all_goals first | exact nr_oL | exact nr_f | exact nr_l
  | cons c l ih =>
    intro m u σ
    unfold evFold
    by_cases h : σ.1 = 0
    · rw [if_pos h]; exact nr_f
    · rw [if_neg h]; exact ih _ _ _
theorem nr_tab : ∀ l a σ f, (evTab cvN l a σ).1 = .inr f → ∃ k, f = .inl k := by
  intro l
  cases l with
  | nil => intro a σ f h; cases h
  | cons c l =>
    intro a σ f h
    unfold evTab at h
    by_cases h0 : σ.1 = 0
    · rw [if_pos h0] at h; cases h; exact ⟨_, rfl⟩
    · rw [if_neg h0] at h; cases h; exact ⟨_, rfl⟩
theorem nr_rows {w : Nat} {x : UInt64} {l m : List Nat} {σ : SR} : nrO (evRows cvN w x l m σ).1 := by
  unfold evRows
  have h1 := nr_tab l [] σ
  generalize evTab cvN l [] σ = r at h1 ⊢
  obtain ⟨o, σ1⟩ := r
  match o, h1 with
  | .inr f, h1 =>
    obtain ⟨k, rfl⟩ := h1 f rfl
    exact nr_f
  | .inl a, _ =>
    have h2 := nr_tab m [] σ1
    show nrO (match evTab cvN m [] σ1 with
      | (.inr f, σ) => (.inr f, σ)
      | (.inl b, σ) => (tabV w x a b, σ) : FO).1
    generalize evTab cvN m [] σ1 = r at h2 ⊢
    obtain ⟨o, σ2⟩ := r
    match o, h2 with
    | .inr f, h2 =>
      obtain ⟨k, rfl⟩ := h2 f rfl
      exact nr_f
    | .inl b, _ => exact nr_tabV
theorem nr_at {l : List Nat} {v : VL} {σ : SR} : nrO (evAt cvN l v σ).1 := by
  unfold evAt
  cases v with
  | inr x => exact nr_f
  | inl i =>
    show nrO (if i < 0 ∨ lN l.length ≤ i then (oF 2, σ) else if σ.1 = 0 then (oF 8, σ) else _ : FO).1
    split
    · exact nr_f
    · split
      · exact nr_f
      · exact nr_f
theorem nr_then {r : FO} {k : VL → SR → FO} (h : nrO r.1) (hk : ∀ v σ, nrO (k v σ).1) : nrO (andThen r k).1 := by
  obtain ⟨o, σ⟩ := r
  match o, h with
  | .inr f, h => exact h
  | .inl v, _ => exact hk v σ
theorem nr_args {go : Nat → SR → FO} (hg : ∀ n σ, nrO (go n σ).1) : ∀ l a σ f, (evArgs go l a σ).1 = .inr f → ∃ k, f = .inl k := by
  intro l
  induction l with
  | nil => intro a σ f h; cases h
  | cons n l ih =>
    intro a σ f h
    unfold evArgs at h
    have h1 := hg n σ
    generalize go n σ = r at h1 h
    obtain ⟨o, σ1⟩ := r
    match o, h1, h with
    | .inr (.inl k), _, h => cases h; exact ⟨k, rfl⟩
    | .inr (.inr c), h1, _ => exact absurd rfl (h1 c)
    | .inl v, _, h => exact ih _ _ _ h
theorem nr_wo {ap : List VL → SR → FO} (ha : ∀ as σ, nrO (ap as σ).1) {x : UInt64} {σ : SR} : nrO (wo ap x σ).1 := by
  unfold wo
  split
  · exact nr_f
  · exact ha _ _
theorem nr_rootL {ap : List VL → SR → FO} (ha : ∀ as σ, nrO (ap as σ).1) {bl : Bool} : ∀ k l h σ, nrO (evRootL ap bl k l h σ).1 := by
  intro k
  induction k with
  | zero => intro l h σ; exact nr_mid
  | succ k ih =>
    intro l h σ
    unfold evRootL
    have h1 := nr_mid (l := l) (h := h)
    generalize mid l h = r at h1 ⊢
    match r, h1 with
    | .inr f, h1 => exact h1
    | .inl m, _ =>
      have h2 := nr_wo ha (x := vD m) (σ := σ)
      show nrO (match wo ap (vD m) σ with
        | (.inr f, σ) => (.inr f, σ)
        | (.inl r, σ) => if lt0 r = bl then evRootL ap bl k (vD m) h σ else evRootL ap bl k l (vD m) σ : FO).1
      generalize wo ap (vD m) σ = r at h2 ⊢
      obtain ⟨o, σ2⟩ := r
      match o, h2 with
      | .inr f, h2 => exact h2
      | .inl r, _ =>
        show nrO (if lt0 r = bl then evRootL ap bl k (vD m) h σ2 else evRootL ap bl k l (vD m) σ2 : FO).1
        split
        · exact ih _ _ _
        · exact ih _ _ _
theorem nr_root {ap : List VL → SR → FO} (ha : ∀ as σ, nrO (ap as σ).1) {l h : UInt64} {σ : SR} : nrO (evRoot ap l h σ).1 := by
  unfold evRoot
  have h1 := nr_wo ha (x := l) (σ := σ)
  generalize wo ap l σ = r at h1 ⊢
  obtain ⟨o, σ1⟩ := r
  match o, h1 with
  | .inr f, h1 => exact h1
  | .inl r, _ =>
    have h2 := nr_wo ha (x := h) (σ := σ1)
    show nrO (match wo ap h σ1 with
      | (.inr f, σ) => (.inr f, σ)
      | (.inl t, σ) => if lt0 t = lt0 r then (oF 6, σ) else evRootL ap (lt0 r) 60 l h σ : FO).1
    generalize wo ap h σ1 = r2 at h2 ⊢
    obtain ⟨o, σ2⟩ := r2
    match o, h2 with
    | .inr f, h2 => exact h2
    | .inl t, _ =>
      show nrO (if lt0 t = lt0 r then (oF 6, σ2) else evRootL ap (lt0 r) 60 l h σ2 : FO).1
      split
      · exact nr_f
      · exact nr_rootL ha _ _ _ _
theorem nr_call {T : ntT} {w a : Nat} {b c : Int32} {go : Nat → SR → FO} (hg : ∀ n σ, nrO (go n σ).1) {σ : SR} : nrO (evCall cvN T w a b c go σ).1 := by
  unfold evCall
  split
  · exact nr_fold _ _ _ _
  · split
    · exact nr_then (hg _ _) (fun v σ => nr_at)
    · split
      · exact nr_then (hg _ _) (fun v σ => nr_rows)
      · split
        · exact nr_rows
        · split
          · have h1 := hg a σ
            generalize go a σ = r at h1 ⊢
            obtain ⟨o, σ1⟩ := r
            match o, h1 with
            | .inl v, _ => exact nr_l
            | .inr (.inr c), h1 => exact absurd rfl (h1 c)
            | .inr (.inl k), _ =>
              split
              · exact nr_f
              · exact hg _ _
              · exact nr_l
          · refine nr_then (hg _ _) (fun v σ => ?_)
            split
            · exact hg _ _
            · split
              · exact nr_l
              · exact nr_l
theorem nr_N {nm : Nat → VL} {T : ntT} {n : Nat} {go : Nat → SR → FO} {ap : Nat → List VL → SR → FO} (hg : ∀ n σ, nrO (go n σ).1) (ha : ∀ g as σ, nrO (ap g as σ).1) {σ : SR} : nrO (evN cvN nm T n go ap σ).1 := by
  unfold evN
  split
  · exact nr_l
  · split
    · exact nr_l
    · split
      · exact nr_f
      · split
        · exact nr_l
        · split
          · exact nr_then (hg _ _) (fun v σ => nr_l)
          · split
            · exact nr_then (hg _ _) (fun u σ => nr_then (hg _ _) (fun v σ => nr_op2))
            · split
              · have h1 := nr_args hg (xN (T n).2.1 :: chL (T n).2.2.1 (T n).2.2.2.1) [] σ
                generalize evArgs go (xN (T n).2.1 :: chL (T n).2.2.1 (T n).2.2.2.1) [] σ = r at h1 ⊢
                obtain ⟨o, σ1⟩ := r
                match o, h1 with
                | .inr f, h1 =>
                  obtain ⟨k, rfl⟩ := h1 f rfl
                  exact nr_f
                | .inl as, _ => exact ha _ _ _
              · split
                · exact nr_then (hg _ _) (fun u σ => nr_then (hg _ _) (fun v σ => nr_root (ha _)))
                · exact nr_call hg
theorem ev_nr : ∀ f s as sh dp n σ, nrO (ev tt rt cvN cs f s as sh dp n σ).1 := by
  intro f
  induction f with
  | zero => intro s as sh dp n σ; exact nr_f
  | succ f ih =>
    intro s as sh dp n σ
    unfold ev
    split
    · exact nr_f
    · refine nr_N (fun n σ => ih _ _ _ _ _ _) (fun g as σ => ?_)
      split
      · exact nr_f
      · exact ih _ _ _ _ _ _
end ENR

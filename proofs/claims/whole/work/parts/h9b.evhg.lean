/-! THE WORK hangs on a broken cell alone -/
def hgO (cv : Nat → Option (Option VL)) (o : OC) : Prop := ∀ c, o = .inr (.inr c) → cv c = some none
section EHG
variable {cv : Nat → Option (Option VL)} {tt : Nat → ntT} {rt : Nat → Nat} {cs : Nat → Nat → VL}
theorem hg_l {v : VL} : hgO cv (.inl v) := fun c q => (by cases q)
theorem hg_f {k : Nat} : hgO cv (oF k) := fun c q => (by cases q)
theorem hg_oL {x : Int64} : hgO cv (oL x) := fun c q => (by cases q)
theorem hg_bL {b : Bool} : hgO cv (bL b) := fun c q => (by cases q)
theorem hg_gv {x : UInt64} : hgO cv (gv x) := by
  unfold gv
  split
  · exact hg_l
  · exact hg_f
theorem hg_opL {s : Nat} {a b : Int64} : hgO cv (opL s a b) := by
  unfold opL
  repeat' split
  all_goals first | exact hg_bL | exact hg_f | exact hg_oL
theorem hg_opD {s : Nat} {a b : UInt64} : hgO cv (opD s a b) := by
  unfold opD
  by_cases h1 : s = 60
  · rw [if_pos h1]; exact hg_bL
  · rw [if_neg h1]
    by_cases h2 : s = 76
    · rw [if_pos h2]; exact hg_bL
    · rw [if_neg h2]
      by_cases h3 : s = 61
      · rw [if_pos h3]; exact hg_bL
      · rw [if_neg h3]
        by_cases h4 : s = 78
        · rw [if_pos h4]; exact hg_bL
        · rw [if_neg h4]
          split
          · exact hg_f
          · exact hg_gv
theorem hg_op2 {s : Nat} {u v : VL} : hgO cv (op2 s u v) := by
  unfold op2
  split
  · exact hg_opL
  · exact hg_opD
theorem hg_mid {l h : UInt64} : hgO cv (mid l h) := by
  unfold mid
  split
  · exact hg_gv
  · exact hg_f
theorem hg_lnV {x : UInt64} {a b : List UInt64} : hgO cv (lnV x a b) := by
  unfold lnV
  repeat' split
  all_goals first | exact hg_l | exact hg_f | exact hg_gv
theorem hg_arV {a b : List UInt64} : ∀ n i s, hgO cv (arV a b n i s) := by
  intro n
  induction n with
  | zero => intro i s; exact hg_l
  | succ n ih =>
    intro i s
    unfold arV
    repeat' split
    all_goals first | exact ih _ _ | exact hg_f
theorem hg_tabV {w : Nat} {x : UInt64} {a b : List UInt64} : hgO cv (tabV w x a b) := by
  unfold tabV
  split
  · split
    · exact hg_lnV
    · exact hg_arV _ _ _
  · exact hg_f
theorem hg_rd {c : Nat} {ps : Bool} {o : OC} (h : rdR cv c ps = some o) : hgO cv o := by
  unfold rdR at h
  match hc : cv c, h with
  | none, h =>
    have h : (if ps = true then none else some (oF 3)) = some o := h
    by_cases z : ps = true
    · rw [if_pos z] at h; cases h
    · rw [if_neg z] at h; cases h; exact hg_f
  | some none, h =>
    cases h
    intro c' q
    cases q; exact hc
  | some (some v), h =>
    cases h; exact hg_l
theorem hg_fold {w : Nat} : ∀ l m u σ, hgO cv (evFold cv w l m u σ).1 := by
  intro l
  induction l with
  | nil =>
    intro m u σ
    unfold evFold
    show hgO cv (if w = 5 then oL (lN m) else if m = 0 then (if w = 2 then oL (lN 0) else oF 3) else .inl u)
    repeat' split
    all_goals first | exact hg_oL | exact hg_f | exact hg_l
  | cons c l ih =>
    intro m u σ
    unfold evFold
    by_cases h : σ.1 = 0
    · rw [if_pos h]; exact hg_f
    · rw [if_neg h]
      match hr : rdR cv c true with
      | none => exact ih _ _ _
      | some (.inr f) => exact hg_rd hr
      | some (.inl v) =>
        show hgO cv (if m = 0 then evFold cv w l 1 v (σ.1 - 1, σ.2 ++ [c]) else
          if w = 2 then (match op2 43 u v with
            | .inr f => (.inr f, (σ.1 - 1, σ.2 ++ [c]))
            | .inl r => evFold cv w l (m + 1) r (σ.1 - 1, σ.2 ++ [c])) else
          if w = 3 then evFold cv w l (m + 1) (if below v u = true then v else u) (σ.1 - 1, σ.2 ++ [c]) else
          if w = 4 then evFold cv w l (m + 1) (if below u v = true then v else u) (σ.1 - 1, σ.2 ++ [c]) else
          evFold cv w l (m + 1) v (σ.1 - 1, σ.2 ++ [c]) : FO).1
        split
        · exact ih _ _ _
        · split
          · have h2 := hg_op2 (cv := cv) (s := 43) (u := u) (v := v)
            match ho : op2 43 u v with
            | .inr f => rw [ho] at h2; exact h2
            | .inl r => exact ih _ _ _
          · split
            · exact ih _ _ _
            · split
              · exact ih _ _ _
              · exact ih _ _ _
theorem hg_tab : ∀ l a σ f, (evTab cv l a σ).1 = .inr f → hgO cv (.inr f) := by
  intro l
  induction l with
  | nil => intro a σ f h; cases h
  | cons c l ih =>
    intro a σ f h
    unfold evTab at h
    by_cases h0 : σ.1 = 0
    · rw [if_pos h0] at h; cases h; exact hg_f
    · rw [if_neg h0] at h
      match hr : rdR cv c false, h with
      | none, h => cases h; exact hg_f
      | some (.inr f'), h => cases h; exact hg_rd hr
      | some (.inl v), h => exact ih _ _ _ h
theorem hg_rows {w : Nat} {x : UInt64} {l m : List Nat} {σ : SR} : hgO cv (evRows cv w x l m σ).1 := by
  unfold evRows
  have h1 := hg_tab (cv := cv) l [] σ
  generalize evTab cv l [] σ = r at h1 ⊢
  obtain ⟨o, σ1⟩ := r
  match o, h1 with
  | .inr f, h1 =>
    exact h1 f rfl
  | .inl a, _ =>
    have h2 := hg_tab (cv := cv) m [] σ1
    show hgO cv (match evTab cv m [] σ1 with
      | (.inr f, σ) => (.inr f, σ)
      | (.inl b, σ) => (tabV w x a b, σ) : FO).1
    generalize evTab cv m [] σ1 = r at h2 ⊢
    obtain ⟨o, σ2⟩ := r
    match o, h2 with
    | .inr f, h2 =>
      exact h2 f rfl
    | .inl b, _ => exact hg_tabV
theorem hg_at {l : List Nat} {v : VL} {σ : SR} : hgO cv (evAt cv l v σ).1 := by
  unfold evAt
  cases v with
  | inr x => exact hg_f
  | inl i =>
    show hgO cv (if i < 0 ∨ lN l.length ≤ i then (oF 2, σ) else if σ.1 = 0 then (oF 8, σ) else match rdR cv (l.getD i.toInt.toNat 0) false with
      | none => (oF 0, σ)
      | some o => (o, (σ.1 - 1, σ.2 ++ [l.getD i.toInt.toNat 0])) : FO).1
    split
    · exact hg_f
    · split
      · exact hg_f
      · match hr : rdR cv (l.getD i.toInt.toNat 0) false with
        | none => exact hg_f
        | some o => exact hg_rd hr
theorem hg_then {r : FO} {k : VL → SR → FO} (h : hgO cv r.1) (hk : ∀ v σ, hgO cv (k v σ).1) : hgO cv (andThen r k).1 := by
  obtain ⟨o, σ⟩ := r
  match o, h with
  | .inr f, h => exact h
  | .inl v, _ => exact hk v σ
theorem hg_args {go : Nat → SR → FO} (hg : ∀ n σ, hgO cv (go n σ).1) : ∀ l a σ f, (evArgs go l a σ).1 = .inr f → hgO cv (.inr f) := by
  intro l
  induction l with
  | nil => intro a σ f h; cases h
  | cons n l ih =>
    intro a σ f h
    unfold evArgs at h
    have h1 := hg n σ
    generalize go n σ = r at h1 h
    obtain ⟨o, σ1⟩ := r
    match o, h1, h with
    | .inr f', h1, h => cases h; exact h1
    | .inl v, _, h => exact ih _ _ _ h
theorem hg_wo {ap : List VL → SR → FO} (ha : ∀ as σ, hgO cv (ap as σ).1) {x : UInt64} {σ : SR} : hgO cv (wo ap x σ).1 := by
  unfold wo
  split
  · exact hg_f
  · exact ha _ _
theorem hg_rootL {ap : List VL → SR → FO} (ha : ∀ as σ, hgO cv (ap as σ).1) {bl : Bool} : ∀ k l h σ, hgO cv (evRootL ap bl k l h σ).1 := by
  intro k
  induction k with
  | zero => intro l h σ; exact hg_mid
  | succ k ih =>
    intro l h σ
    unfold evRootL
    have h1 := hg_mid (cv := cv) (l := l) (h := h)
    generalize mid l h = r at h1 ⊢
    match r, h1 with
    | .inr f, h1 => exact h1
    | .inl m, _ =>
      have h2 := hg_wo (cv := cv) ha (x := vD m) (σ := σ)
      show hgO cv (match wo ap (vD m) σ with
        | (.inr f, σ) => (.inr f, σ)
        | (.inl r, σ) => if lt0 r = bl then evRootL ap bl k (vD m) h σ else evRootL ap bl k l (vD m) σ : FO).1
      generalize wo ap (vD m) σ = r at h2 ⊢
      obtain ⟨o, σ2⟩ := r
      match o, h2 with
      | .inr f, h2 => exact h2
      | .inl r, _ =>
        show hgO cv (if lt0 r = bl then evRootL ap bl k (vD m) h σ2 else evRootL ap bl k l (vD m) σ2 : FO).1
        split
        · exact ih _ _ _
        · exact ih _ _ _
theorem hg_root {ap : List VL → SR → FO} (ha : ∀ as σ, hgO cv (ap as σ).1) {l h : UInt64} {σ : SR} : hgO cv (evRoot ap l h σ).1 := by
  unfold evRoot
  have h1 := hg_wo (cv := cv) ha (x := l) (σ := σ)
  generalize wo ap l σ = r at h1 ⊢
  obtain ⟨o, σ1⟩ := r
  match o, h1 with
  | .inr f, h1 => exact h1
  | .inl r, _ =>
    have h2 := hg_wo (cv := cv) ha (x := h) (σ := σ1)
    show hgO cv (match wo ap h σ1 with
      | (.inr f, σ) => (.inr f, σ)
      | (.inl t, σ) => if lt0 t = lt0 r then (oF 6, σ) else evRootL ap (lt0 r) 60 l h σ : FO).1
    generalize wo ap h σ1 = r2 at h2 ⊢
    obtain ⟨o, σ2⟩ := r2
    match o, h2 with
    | .inr f, h2 => exact h2
    | .inl t, _ =>
      show hgO cv (if lt0 t = lt0 r then (oF 6, σ2) else evRootL ap (lt0 r) 60 l h σ2 : FO).1
      split
      · exact hg_f
      · exact hg_rootL ha _ _ _ _
theorem hg_call {T : ntT} {w a : Nat} {b c : Int32} {go : Nat → SR → FO} (hg : ∀ n σ, hgO cv (go n σ).1) {σ : SR} : hgO cv (evCall cv T w a b c go σ).1 := by
  unfold evCall
  split
  · exact hg_fold _ _ _ _
  · split
    · exact hg_then (hg _ _) (fun v σ => hg_at)
    · split
      · exact hg_then (hg _ _) (fun v σ => hg_rows)
      · split
        · exact hg_rows
        · split
          · have h1 := hg a σ
            generalize go a σ = r at h1 ⊢
            obtain ⟨o, σ1⟩ := r
            match o, h1 with
            | .inl v, _ => exact hg_l
            | .inr (.inr c), _ =>
              split
              · exact hg_f
              · exact hg _ _
              · exact hg_l
            | .inr (.inl k), _ =>
              split
              · exact hg_f
              · exact hg _ _
              · exact hg_l
          · refine hg_then (hg _ _) (fun v σ => ?_)
            split
            · exact hg _ _
            · split
              · exact hg_l
              · exact hg_l
theorem hg_N {nm : Nat → VL} {T : ntT} {n : Nat} {go : Nat → SR → FO} {ap : Nat → List VL → SR → FO} (hg : ∀ n σ, hgO cv (go n σ).1) (ha : ∀ g as σ, hgO cv (ap g as σ).1) {σ : SR} : hgO cv (evN cv nm T n go ap σ).1 := by
  unfold evN
  split
  · exact hg_l
  · split
    · exact hg_l
    · split
      · match hr : rdR cv (xN (T n).2.1) false with
        | none => exact hg_f
        | some o => exact hg_rd hr
      · split
        · exact hg_l
        · split
          · exact hg_then (hg _ _) (fun v σ => hg_l)
          · split
            · exact hg_then (hg _ _) (fun u σ => hg_then (hg _ _) (fun v σ => hg_op2))
            · split
              · have h1 := hg_args hg (xN (T n).2.1 :: chL (T n).2.2.1 (T n).2.2.2.1) [] σ
                generalize evArgs go (xN (T n).2.1 :: chL (T n).2.2.1 (T n).2.2.2.1) [] σ = r at h1 ⊢
                obtain ⟨o, σ1⟩ := r
                match o, h1 with
                | .inr f, h1 => exact h1 f rfl
                | .inl as, _ => exact ha _ _ _
              · split
                · exact hg_then (hg _ _) (fun u σ => hg_then (hg _ _) (fun v σ => hg_root (ha _)))
                · exact hg_call hg
theorem ev_hg : ∀ f s as sh dp n σ, hgO cv (ev tt rt cv cs f s as sh dp n σ).1 := by
  intro f
  induction f with
  | zero => intro s as sh dp n σ; exact hg_f
  | succ f ih =>
    intro s as sh dp n σ
    unfold ev
    split
    · exact hg_f
    · refine hg_N (fun n σ => ih _ _ _ _ _ _) (fun g as σ => ?_)
      split
      · exact hg_f
      · exact ih _ _ _ _ _ _
end EHG

/-! THE WORK never has more steps left than before -/
section EVL
variable {tt : Nat → ntT} {rt : Nat → Nat} {cv : Nat → Option (Option VL)} {cs : Nat → Nat → VL}
theorem at_le {r : FO} {k : VL → SR → FO} {m : Nat} (h : r.2.1 ≤ m) (hk : ∀ v σ, σ.1 ≤ m → (k v σ).2.1 ≤ m) : (andThen r k).2.1 ≤ m := by
  match r, h with
  | (.inr f, σ), h => exact h
  | (.inl v, σ), h => exact hk v σ h
theorem evFold_le {w : Nat} : ∀ l m u σ, (evFold cv w l m u σ).2.1 ≤ σ.1 := by
  intro l
  induction l with
  | nil => intro m u σ; exact Nat.le_refl _
  | cons c l ih =>
    intro m u σ
    rw [evFold]
    split
    · exact Nat.le_refl _
    · split
      · exact Nat.le_trans (ih _ _ _) (Nat.sub_le _ _)
      · exact Nat.sub_le _ _
      · split
        · exact Nat.le_trans (ih _ _ _) (Nat.sub_le _ _)
        · split
          · split
            · exact Nat.sub_le _ _
            · exact Nat.le_trans (ih _ _ _) (Nat.sub_le _ _)
          · split
            · exact Nat.le_trans (ih _ _ _) (Nat.sub_le _ _)
            · split
              · exact Nat.le_trans (ih _ _ _) (Nat.sub_le _ _)
              · exact Nat.le_trans (ih _ _ _) (Nat.sub_le _ _)
theorem evRows_le {w : Nat} {x : UInt64} {l m : List Nat} {σ : SR} : (evRows cv w x l m σ).2.1 ≤ σ.1 := by
  have h1 := evTab_le (cv := cv) l [] σ
  unfold evRows
  generalize evTab cv l [] σ = r at h1 ⊢
  obtain ⟨r, σ1⟩ := r
  cases r with
  | inr q => exact h1
  | inl a =>
    have h2 := evTab_le (cv := cv) m [] σ1
    dsimp only
    generalize evTab cv m [] σ1 = r2 at h2 ⊢
    obtain ⟨r2, σ2⟩ := r2
    cases r2 with
    | inr q => exact Nat.le_trans h2 h1
    | inl b => exact Nat.le_trans h2 h1
theorem evAt_le {l : List Nat} {v : VL} {σ : SR} : (evAt cv l v σ).2.1 ≤ σ.1 := by
  unfold evAt
  split
  · exact Nat.le_refl _
  · split
    · exact Nat.le_refl _
    · split
      · exact Nat.le_refl _
      · split
        · exact Nat.le_refl _
        · exact Nat.sub_le _ _
theorem evArgs_le {go : Nat → SR → FO} (hg : ∀ n σ, (go n σ).2.1 ≤ σ.1) : ∀ l a σ, (evArgs go l a σ).2.1 ≤ σ.1 := by
  intro l
  induction l with
  | nil => intro a σ; exact Nat.le_refl _
  | cons n l ih =>
    intro a σ
    have h1 := hg n σ
    rw [evArgs]
    generalize go n σ = r at h1 ⊢
    obtain ⟨r, σ1⟩ := r
    cases r with
    | inr q => exact h1
    | inl v => exact Nat.le_trans (ih _ _) h1
theorem wo_le {ap : List VL → SR → FO} (ha : ∀ as σ, (ap as σ).2.1 ≤ σ.1) {x : UInt64} {σ : SR} : (wo ap x σ).2.1 ≤ σ.1 := by
  unfold wo
  split
  · exact Nat.le_refl _
  · exact Nat.le_trans (ha _ _) (Nat.sub_le _ _)
theorem evRootL_le {ap : List VL → SR → FO} (ha : ∀ as σ, (ap as σ).2.1 ≤ σ.1) {bl : Bool} : ∀ k l h σ, (evRootL ap bl k l h σ).2.1 ≤ σ.1 := by
  intro k
  induction k with
  | zero => intro l h σ; exact Nat.le_refl _
  | succ k ih =>
    intro l h σ
    rw [evRootL]
    split
    · exact Nat.le_refl _
    · rename_i m _
      have h1 := wo_le ha (x := vD m) (σ := σ)
      generalize wo ap (vD m) σ = r at h1 ⊢
      obtain ⟨r, σ1⟩ := r
      cases r with
      | inr q => exact h1
      | inl v =>
        dsimp only
        split
        · exact Nat.le_trans (ih _ _ _) h1
        · exact Nat.le_trans (ih _ _ _) h1
theorem evRoot_le {ap : List VL → SR → FO} (ha : ∀ as σ, (ap as σ).2.1 ≤ σ.1) {l h : UInt64} {σ : SR} : (evRoot ap l h σ).2.1 ≤ σ.1 := by
  have h1 := wo_le ha (x := l) (σ := σ)
  unfold evRoot
  generalize wo ap l σ = r at h1 ⊢
  obtain ⟨r, σ1⟩ := r
  cases r with
  | inr q => exact h1
  | inl v =>
    have h2 := wo_le ha (x := h) (σ := σ1)
    dsimp only
    generalize wo ap h σ1 = r2 at h2 ⊢
    obtain ⟨r2, σ2⟩ := r2
    cases r2 with
    | inr q => exact Nat.le_trans h2 h1
    | inl v2 =>
      dsimp only
      split
      · exact Nat.le_trans h2 h1
      · exact Nat.le_trans (evRootL_le ha _ _ _ _) (Nat.le_trans h2 h1)
theorem evCall_le {T : ntT} {w a : Nat} {b c : Int32} {go : Nat → SR → FO} (hg : ∀ n σ, (go n σ).2.1 ≤ σ.1) {σ : SR} : (evCall cv T w a b c go σ).2.1 ≤ σ.1 := by
  unfold evCall
  split
  · exact evFold_le _ _ _ _
  · split
    · exact at_le (hg _ _) (fun v σ' h => Nat.le_trans evAt_le h)
    · split
      · exact at_le (hg _ _) (fun v σ' h => Nat.le_trans evRows_le h)
      · split
        · exact evRows_le
        · split
          · have h1 := hg a σ
            generalize go a σ = r at h1 ⊢
            obtain ⟨r, σ1⟩ := r
            split
            · rename_i heq
              injection heq with e1 e2
              rw [← e2]; exact h1
            · rename_i heq
              injection heq with e1 e2
              rw [← e2]; exact Nat.le_trans (hg _ _) h1
            · rename_i heq
              injection heq with e1 e2
              rw [← e2]; exact h1
          · refine at_le (hg _ _) (fun v σ' h => ?_)
            split
            · exact Nat.le_trans (hg _ _) h
            · split
              · exact h
              · exact h
theorem evN_le {nm : Nat → VL} {T : ntT} {n : Nat} {go : Nat → SR → FO} {ap : Nat → List VL → SR → FO} (hg : ∀ n σ, (go n σ).2.1 ≤ σ.1) (ha : ∀ g as σ, (ap g as σ).2.1 ≤ σ.1) {σ : SR} : (evN cv nm T n go ap σ).2.1 ≤ σ.1 := by
  unfold evN
  split
  · exact Nat.le_refl _
  · split
    · exact Nat.le_refl _
    · split
      · split
        · exact Nat.le_refl _
        · exact Nat.le_refl _
      · split
        · exact Nat.le_refl _
        · split
          · exact at_le (hg _ _) (fun v σ' h => h)
          · split
            · exact at_le (hg _ _) (fun u σ' h => at_le (Nat.le_trans (hg _ _) h) (fun v σ'' h' => h'))
            · split
              · have h1 := evArgs_le hg (xN (T n).2.1 :: chL (T n).2.2.1 (T n).2.2.2.1) [] σ
                generalize evArgs go (xN (T n).2.1 :: chL (T n).2.2.1 (T n).2.2.2.1) [] σ = r at h1 ⊢
                obtain ⟨r, σ1⟩ := r
                cases r with
                | inr q => exact h1
                | inl as => exact Nat.le_trans (ha _ _ _) h1
              · split
                · exact at_le (hg _ _) (fun u σ' h => at_le (Nat.le_trans (hg _ _) h) (fun v σ'' h' => Nat.le_trans (evRoot_le (ha _)) h'))
                · exact evCall_le hg
theorem ev_le : ∀ f s as sh dp n σ, (ev tt rt cv cs f s as sh dp n σ).2.1 ≤ σ.1 := by
  intro f
  induction f with
  | zero => intro s as sh dp n σ; exact Nat.le_refl _
  | succ f ih =>
    intro s as sh dp n σ
    rw [ev]
    split
    · exact Nat.le_refl _
    · refine Nat.le_trans (evN_le (fun n σ => ih s as sh dp n σ) (fun g as σ => ?_)) (Nat.sub_le _ _)
      split
      · exact Nat.le_refl _
      · exact ih _ _ _ _ _ _
theorem ev_lt {f s : Nat} {as : List VL} {sh dp n : Nat} {σ σ' : SR} {v : VL} (h : ev tt rt cv cs f s as sh dp n σ = (.inl v, σ')) : σ'.1 < σ.1 := by
  cases f with
  | zero => cases h
  | succ f =>
    rw [ev] at h
    split at h
    · cases h
    · rename_i c
      have h1 := evN_le (cv := cv) (nm := fun k => if 48 ≤ s ∧ s < 56 then as.getD k (.inl 0) else cs sh k) (T := tt s) (n := n) (go := fun n σ => ev tt rt cv cs f s as sh dp n σ) (ap := fun g as σ => if dp = 20 then (oF 4, σ) else ev tt rt cv cs f (48 + g) as 0 (dp + 1) (rt (48 + g)) σ) (fun n σ => ev_le f s as sh dp n σ) (fun g as σ => by
        split
        · exact Nat.le_refl _
        · exact ev_le _ _ _ _ _ _ _) (σ := (σ.1 - 1, σ.2))
      rw [h] at h1
      have h1 : σ'.1 ≤ σ.1 - 1 := h1
      omega
end EVL

/-! THE START'S HEAP, both constructors done -/
def hA : am_H := am_new (am_h0 0 (fun _ => 0)) (11, 0) 14
def hB : am_H := am_new (c_book hA) (12, 0) 89
def hS : am_H := c_model hB
theorem hS_1 : hS.1 = 402 := by decide +kernel
theorem hS_21 : hS.2.1 ≤ 80000 := by decide +kernel
theorem hS_tg : ∀ a, a < 402 → 4 ≤ a → am_tg hS a = am_tgs a := by decide +kernel
theorem hS_rf : ∀ q ∈ am_rfL, am_R hS q.1 q.2.1 = some q.2.2 := by decide +kernel
theorem hS_10 : ∀ c, c < 256 → am_R hS 10 c = some (22 + c) := by decide +kernel
theorem hS_16 : ∀ i, i < 22 → am_R hS 16 i = some (278 + i) := by decide +kernel
theorem hS_sh : ∀ s, s < 4 → am_R hS 300 s = some (321 + 7 * s) ∧ am_R hS (321 + 7 * s) 0 = some (322 + 7 * s) ∧ ∀ i, i < 5 → am_R hS (322 + 7 * s) i = some (323 + 7 * s + i) := by decide +kernel
theorem hS_S : am_S hS := ⟨by rw [hS_1]; decide, fun a h1 h2 => hS_tg a h2 h1, hS_rf, hS_10, hS_16, hS_sh⟩
theorem hS_c : ∀ c, c < 256 → am_I hS (22 + c) 0 = nI 0 ∧ am_I hS (22 + c) 7 = nI 0 ∧ am_I hS (22 + c) 9 = nI 0 ∧ am_I hS 365 c = nI 0 ∧ am_I hS 375 c = nI 0 ∧ am_I hS 373 c = nI 0 ∧ am_I hS 376 c = nI 0 ∧ am_I hS 369 c = -1 ∧ am_I hS 395 c = -1 ∧ am_R hS (22 + c) 3 = none ∧ am_R hS (22 + c) 8 = none := by decide +kernel
theorem hS_s : ∀ s, s < 4 → am_I hS (321 + 7 * s) 1 = nI 0 ∧ am_I hS (321 + 7 * s) 2 = nI 0 ∧ am_I hS (321 + 7 * s) 3 = nI 0 ∧ am_I hS (321 + 7 * s) 4 = nI 0 ∧ am_I hS 362 s = nI 0 ∧ am_I hS 378 s = nI 0 ∧ am_I hS 381 s = nI 0 ∧ am_I hS 382 s = nI 0 ∧ ∀ i, i < 5 → am_R hS (323 + 7 * s + i) 8 = none := by decide +kernel
theorem hS_z : (∀ q ∈ [(5, 1), (349, 2), (7, 1), (349, 3), (302, 7), (4, 10), (349, 16), (4, 11), (349, 49), (4, 12), (349, 86), (311, 11), (349, 81), (311, 10), (349, 82), (317, 0)], am_I hS q.1 q.2 = nI 0) ∧ am_I hS 4 13 = am_I hS 349 4 := by decide +kernel
theorem hS_f : (∀ i, i < 8 → am_R hS 11 i = none) ∧ ∀ s, s < 48 → am_I hS 374 s = nI 0 := by decide +kernel
theorem hS_g : am_tg hS 1 = (111, 12) ∧ (∀ j, j < 12 → am_L hS 1 j = am_wdl.getD j 0) ∧ am_tg hS 2 = (14, 0) ∧ am_R hS 2 0 = some 3 ∧ am_I hS 2 1 = 0 ∧ am_tg hS 3 = (113, 72) ∧ ∀ j, j < 72 → am_I hS 3 j = am_txb.getD j 0 := by decide +kernel
section KST
variable {L : Nat} {xs : Nat → Int32} {d : Nat} {Q : Option Value → am_H → Prop}
theorem cntF_0 : ∀ n, cntF (fun _ => none) n = 0
  | 0 => rfl
  | n + 1 => by
    show cntF _ n + 0 = 0
    rw [cntF_0 n]
theorem rp_I {h : am_H} {a k : Nat} (ha : a ≠ 0) : am_I (am_rp L xs h) a k = am_I h a k := if_neg ha
theorem rp_S {h : am_H} (S : am_S h) : am_S (am_rp L xs h) := ⟨S.1, fun a h1 h2 => (am_rp_tg (by omega)).trans (S.2.1 a h1 h2), S.2.2⟩
theorem rp_Gv {h : am_H} (G : am_Gv h) : am_Gv (am_rp L xs h) := by
  obtain ⟨g1, g2, g3, g4, g5, g6, g7⟩ := G
  exact ⟨(am_rp_tg (by decide)).trans g1, g2, (am_rp_tg (by decide)).trans g3, g4, (rp_I (by decide)).trans g5, (am_rp_tg (by decide)).trans g6, fun j hj => (rp_I (by decide)).trans (g7 j hj)⟩
theorem rp_M {h : am_H} {m : Nat} (H : h.2.1 ≤ m) : (am_rp L xs h).2.1 ≤ m := H
theorem rp_R {h : am_H} {a k : Nat} : am_R (am_rp L xs h) a k = am_R h a k := rfl
theorem am_h0_rp : am_h0 L xs = am_rp L xs (am_h0 0 (fun _ => 0)) := by
  have e1 : am_tg (am_h0 L xs) = am_tg (am_rp L xs (am_h0 0 (fun _ => 0))) := funext fun k => by
    rcases k with _ | k
    · rfl
    · exact (show am_tg (am_h0 L xs) (k + 1) = am_tg (am_h0 0 (fun _ => 0)) (k + 1) from by rcases k with _ | _ | k <;> rfl).trans (am_rp_tg (Nat.succ_ne_zero k)).symm
  have e2 : am_I (am_h0 L xs) = am_I (am_rp L xs (am_h0 0 (fun _ => 0))) := funext fun a => funext fun j => by
    rcases a with _ | a
    · rfl
    · exact (show am_I (am_h0 L xs) (a + 1) j = am_I (am_h0 0 (fun _ => 0)) (a + 1) j from by rcases a with _ | _ | a <;> rfl).trans (rp_I (Nat.succ_ne_zero a)).symm
  unfold am_rp
  exact congr (congrArg (fun x y => ((4, 0, x, y, (fun _ j => am_wdl.getD j 0), (fun _ _ => 0), (fun _ _ => some 3)) : am_H)) e1) e2
theorem hA_z : am_Rz hA := am_new_Rz ⟨by decide, fun a k => by
  show some 3 ≠ some 0
  decide⟩
theorem rp_run {mi : Nat} {ls : am_Lo} {h h' : am_H} {r : Option Value} (hl : am_lz ls) (hz : am_Rz h) (J : ∀ Q, am_J d mi 0 ls [] h Q ↔ Q r h') : (∀ Q, am_J d mi 0 ls [] (am_rp L xs h) Q ↔ Q r (am_rp L xs h')) ∧ am_Rz h' := by
  obtain ⟨n, r1, h1, ha, rfl, rfl⟩ := (J (fun r1 h1 => r1 = r ∧ h1 = h')).mpr ⟨rfl, rfl⟩
  obtain ⟨w1, -, w3⟩ := am_rp_run L xs n d mi 0 ls [] h _ _ (fun v hv => absurd hv List.not_mem_nil) hl hz ha
  exact ⟨am_run_of ⟨n, _, _, w1, rfl, rfl⟩, w3⟩
theorem lw_start (hd : 4 ≤ d) : am_J (d + 1) 284 0 [some (.ref 0), none, none, none] [] (am_h0 L xs) Q ↔ am_J (d + 1) 284 18 [some (.ref 0), some (.ref 4), some (.ref 349), some (.int (nI 0))] [] (am_rp L xs hS) Q := by
  obtain ⟨e, rfl⟩ : ∃ e, d = e + 4 := ⟨d - 4, by omega⟩
  have lz : am_lz [some (.ref 4), none] := fun v hv => by
    rcases List.mem_cons.mp hv with q | q
    · cases q; exact am_nz_of (by decide)
    · rcases List.mem_cons.mp q with q | q
      · cases q
      · cases q
  have lz2 : am_lz [some (.ref 349)] := fun v hv => by
    rcases List.mem_cons.mp hv with q | q
    · cases q; exact am_nz_of (by decide)
    · cases q
  obtain ⟨J1, z1⟩ := rp_run (L := L) (xs := xs) (d := e + 4) lz hA_z (fun Q => x_book (d := e) (h := hA) (Q := Q) rfl ⟨by decide, by decide⟩)
  have b1 : (c_book hA).1 = 349 := by decide +kernel
  obtain ⟨J2, -⟩ := rp_run (L := L) (xs := xs) (d := e + 3 + 1) (h := hB) lz2 (am_new_Rz z1) (fun Q => x_model (d := e + 3) (h := hB) (Q := Q) (by decide +kernel) ⟨by decide +kernel, by decide +kernel⟩)
  have e1 : am_new (am_h0 L xs) (11, 0) 14 = am_rp L xs hA := by
    rw [am_h0_rp]; exact am_rp_new (by decide)
  have e2 : am_new (am_rp L xs (c_book hA)) (12, 0) 89 = am_rp L xs hB := am_rp_new (by rw [b1]; decide)
  have k1 : (am_h0 L xs).1 = 4 := rfl
  have k2 : (am_rp L xs (c_book hA)).1 = 349 := am_rp_1.trans b1
  rw [g284_0, e1, k1, g284_3 rfl, g284_4, J1]
  show am_J _ 284 7 [some (.ref 0), none, none, none] [.ref 4] _ Q ↔ _
  rw [g284_7 rfl, g284_8, e2, k2, g284_11 rfl, g284_12, J2]
  show am_J _ 284 15 [some (.ref 0), some (.ref 4), none, none] [.ref 349] _ Q ↔ _
  rw [g284_15 rfl, g284_16, g284_17]
  exact Iff.rfl
theorem Inv_start : Inv 0 (am_rp L xs hS) := by
  have z := fun a k (hm : (a, k) ∈ _) (ha : a ≠ 0) => (rp_I (L := L) (xs := xs) (h := hS) (k := k) ha).trans (hS_z.1 (a, k) hm)
  have no : ∀ j : Nat, ¬ j < 0 := fun j => Nat.not_lt_zero j
  refine ⟨rp_S hS_S, rp_Gv hS_g, ⟨fun _ => 0, 0, ⟨z 5 1 (by decide) (by decide), by decide, fun j hj => absurd hj (no j)⟩, z 349 2 (by decide) (by decide), fun j hj => absurd hj (no j)⟩, ⟨[], by decide, fun c hc => absurd hc List.not_mem_nil, z 7 1 (by decide) (by decide), z 349 3 (by decide) (by decide), fun i x hx => (by cases hx)⟩, ⟨?_, 0, by decide, z 302 7 (by decide) (by decide)⟩, ⟨fun s i hs hi => rp_R.trans ((hS_s s hs).2.2.2.2.2.2.2.2 i hi), 0, Nat.le_refl _, by decide, z 4 12 (by decide) (by decide), z 349 86 (by decide) (by decide), fun e c h1 h2 => by omega⟩, ⟨0, by decide, z 311 11 (by decide) (by decide), z 349 81 (by decide) (by decide), fun i hi => absurd hi (no i)⟩, ⟨0, fun _ => 0, fun _ => 0, fun _ => 999, by decide, z 311 10 (by decide) (by decide), z 349 82 (by decide) (by decide), fun i hi => ?_, rfl, fun i hi => absurd hi (no i), by decide, fun j hj => absurd hj (no j), fun x hx => ?_, fun i j hi => absurd hi (no i), fun i hi => absurd hi (no _), fun i x hi => absurd hi (no i), fun x hx hn => absurd rfl hn⟩, ⟨Nat.le_of_eq (am_rp_1.trans hS_1), rp_M hS_21⟩, 0, fun _ => 0, fun _ => 0, fun _ => 0, fun _ => 0, fun _ => 0, fun _ _ => 0, fun _ _ => 0, fun _ _ => 0, fun _ => none, fun _ => none, ⟨by decide, z 4 10 (by decide) (by decide), z 349 16 (by decide) (by decide), fun i _ hi => rp_R.trans (hS_f.1 i hi), fun i j hi => absurd hi (no i), fun i hi => absurd hi (no i)⟩, fun s hs => ?_, fun c hc => ?_, ⟨?_, ?_, ?_, fun c c' e e' s _ _ hcd => (by cases hcd), fun s hs => Or.inl ((rp_I (by decide)).trans (hS_f.2 s hs)), fun s hs h1 => ?_⟩, fun a c hl => (by cases hl)⟩
  · rw [rp_I (by decide), rp_I (by decide)]; exact hS_z.2
  · rw [show i = 0 by omega]; exact z 317 0 (by decide) (by decide)
  · rw [rp_I (by decide), (hS_c x hx).2.2.2.2.2.2.2.2.1]; rfl
  · obtain ⟨b1, b2, b3, b4, b5, b6, b7, b8, -⟩ := hS_s s hs
    have E : ∀ {a k : Nat}, a ≠ 0 → am_I hS a k = nI 0 → am_I (am_rp L xs hS) a k = nI 0 := fun ha h => (rp_I ha).trans h
    have m378 := E (show 378 ≠ 0 by decide) b6
    have m381 := E (show 381 ≠ 0 by decide) b7
    have m382 := E (show 382 ≠ 0 by decide) b8
    exact ⟨Nat.zero_le _, E (by omega) b1, E (by decide) b5, (E (by omega) b2).trans m378.symm, Or.inl m378, (E (by omega) b3).trans m381.symm, ⟨0, by decide, m381⟩, (E (by omega) b4).trans m382.symm, fun _ _ i hi => absurd hi (no i), fun i hi => absurd hi (no i)⟩
  · obtain ⟨b1, b2, b3, b4, b5, b6, b7, b8, b9, b10, b11⟩ := hS_c c hc
    have E : ∀ {a k : Nat} {x : Int32}, a ≠ 0 → am_I hS a k = x → am_I (am_rp L xs hS) a k = x := fun ha h => (rp_I ha).trans h
    have m375 := E (show 375 ≠ 0 by decide) b5
    refine ⟨0, by decide, ⟨E (by omega) b1, E (by decide) b4, fun q => absurd q (by decide), fun q => absurd q (by decide), fun q => absurd q (by decide)⟩, fun q => absurd q (by decide), (E (by omega) b2).trans m375.symm, Or.inl m375, ⟨0, by decide, E (by omega) b3, E (by decide) b6, fun rr hr i hi => absurd hi (no i)⟩, fun rr hr => ?_, fun _ => E (by decide) b6, fun _ => ⟨rp_R.trans b10, E (by decide) b8, E (by decide) b7, by decide⟩, fun e s hcd => (by cases hcd)⟩
    rw [rp_R, b11] at hr; cases hr
  · rw [cntF_0]; exact z 4 11 (by decide) (by decide)
  · rw [cntF_0]; exact z 349 49 (by decide) (by decide)
  · rw [cntF_0]; decide
  · rw [rp_I (by decide), hS_f.2 s hs] at h1
    exact absurd h1 (by decide)
end KST

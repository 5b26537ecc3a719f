/-! THE CLASS: the machine's state and its turns -/
/-- the code at e is D -/
def cdK (g : am_H) (e : Nat) (D : List (Int32 × Int64)) : Prop := 402 ≤ e ∧ e + 7 ≤ g.1 ∧ am_tg g e = (1, 0) ∧ am_tg g (e + 2) = (103, D.length) ∧ am_tg g (e + 3) = (101, D.length) ∧ am_R g e 0 = some (e + 2) ∧ am_R g e 1 = some (e + 3) ∧ am_I g e 5 = nI D.length ∧ (∀ i x, D[i]? = some x → am_I g (e + 2) i = x.1 ∧ am_L g (e + 3) i = x.2) ∧ D.length ≤ 160
theorem cd_of {h : am_H} {e : Nat} {D : List (Int32 × Int64)} {P : List Int32} {N : List Nat} {F k : Int32} (C : CO h e D P N F k) : cdK h e D := by
  obtain ⟨c1, c2, t0, t1, t2, t3, t4, t5, t6, r4, r0, r1, r2, r5, r3, i5, i1, i6, i7, i8, v1, v2, v3, v4, b1, b2, b3⟩ := C
  exact ⟨c1, c2, t0, t2, t3, r0, r1, i5, v1, b1⟩
/-- what the machine changes: owner o, its list of reads rr -/
def xmP (o : Nat) (rr : Option Nat) (a k : Nat) : Prop := (a = 9 ∧ 9 ≤ k) ∨ (12 ≤ a ∧ a ≤ 15) ∨ (17 ≤ a ∧ a ≤ 21) ∨ (278 ≤ a ∧ a ≤ 299) ∨ (a = o ∧ k = 9) ∨ rr = some a
theorem cd_kp {h g : am_H} {o e : Nat} {rr : Option Nat} {D : List (Int32 × Int64)} (K : kp (xmP o rr) h g) (ho : o < 402) (hr : ∀ a, rr = some a → a < e ∨ e + 7 ≤ a) (C : cdK h e D) : cdK g e D := by
  obtain ⟨c1, c2, t0, t2, t3, r0, r1, i5, v1, b1⟩ := C
  have np : ∀ a k, e ≤ a → a < e + 7 → ¬ xmP o rr a k := fun a k h1 h2 q => by
    rcases q with q | q | q | q | q | q
    · omega
    · omega
    · omega
    · omega
    · omega
    · have := hr a q; omega
  have R := fun a k (h1 : e ≤ a) (h2 : a < e + 7) => K.2.2 a k (by omega) (np a k h1 h2)
  have h1 := K.1
  refine ⟨c1, by omega, (K.2.1 e (by omega)).trans t0, (K.2.1 (e + 2) (by omega)).trans t2, (K.2.1 (e + 3) (by omega)).trans t3, (R e 0 (by omega) (by omega)).2.2.2.trans r0, (R e 1 (by omega) (by omega)).2.2.2.trans r1, (R e 5 (by omega) (by omega)).1.trans i5, fun i x hx => ⟨(R (e + 2) i (by omega) (by omega)).1.trans (v1 i x hx).1, ((R (e + 3) i (by omega) (by omega)).2.1 (by omega)).trans (v1 i x hx).2⟩, b1⟩
/-- the tries that are open: place, top, depth -/
def TS (g : am_H) (ts : List (Nat × Nat × Nat)) : Prop := am_I g 9 9 = nI ts.length ∧ ∀ i q, ts[i]? = some q → am_I g 17 i = nI q.1 ∧ am_I g 18 i = nI q.2.1 ∧ am_I g 19 i = nI q.2.2
/-- what was read -/
def RDx (g : am_H) (o : Nat) (rr : Option Nat) (rd : List Nat) : Prop := am_R g o 8 = rr ∧ am_ob g o 0 ∧ 22 ≤ o ∧ o < 349 ∧ ∀ a, rr = some a → 402 ≤ a ∧ a < g.1 ∧ am_tg g a = (100, 24) ∧ am_I g o 9 = nI (min 24 rd.length) ∧ ∀ i, i < 24 → i < rd.length → am_I g a i = nI (rd.getD i 0)
/-- the state: owner, its reads, sheet, depth, tries, stack, steps left and what was read -/
def XS (h g : am_H) (o : Nat) (rr : Option Nat) (sa dp : Nat) (ts : List (Nat × Nat × Nat)) (σ : SR) : Prop :=
  kp (xmP o rr) h g ∧ am_S g ∧ TS g ts ∧ am_I g 9 10 = nI dp ∧ am_I g 9 11 = nI σ.1 ∧ σ.1 ≤ 1000 ∧ am_I g 9 12 = nI 1 ∧ am_R g 9 15 = some o ∧ am_R g 9 16 = some sa ∧ RDx g o rr σ.2
/-- no failure -/
def KZ (g : am_H) : Prop := am_I g 9 13 = nI 0 ∧ am_R g 9 14 = none
/-- a frame -/
def FRx (g : am_H) (j e p b : Nat) : Prop := am_R g (278 + j) 0 = some e ∧ am_I g (278 + j) 1 = nI p ∧ am_I g (278 + j) 2 = nI b
/-- frames below dp stand, dp's too but for its place -/
def FK (g g' : am_H) (dp : Nat) : Prop := (∀ j, j < dp → ∀ k, am_I g' (278 + j) k = am_I g (278 + j) k ∧ am_D g' (278 + j) k = am_D g (278 + j) k ∧ am_R g' (278 + j) k = am_R g (278 + j) k) ∧ ∀ k, (k ≠ 1 → am_I g' (278 + dp) k = am_I g (278 + dp) k) ∧ am_D g' (278 + dp) k = am_D g (278 + dp) k ∧ am_R g' (278 + dp) k = am_R g (278 + dp) k
section XMA
variable {h g g' g2 : am_H} {o sa dp d : Nat} {rr : Option Nat} {ts : List (Nat × Nat × Nat)} {σ : SR} {st st' : List VL}
theorem FK_refl : FK g g dp := ⟨fun _ _ _ => ⟨rfl, rfl, rfl⟩, fun _ => ⟨fun _ => rfl, rfl, rfl⟩⟩
theorem FK_trans (A : FK g g' dp) (B : FK g' g2 dp) : FK g g2 dp := ⟨fun j hj k => ⟨(B.1 j hj k).1.trans (A.1 j hj k).1, (B.1 j hj k).2.1.trans (A.1 j hj k).2.1, (B.1 j hj k).2.2.trans (A.1 j hj k).2.2⟩, fun k => ⟨fun hk => ((B.2 k).1 hk).trans ((A.2 k).1 hk), (B.2 k).2.1.trans (A.2 k).2.1, (B.2 k).2.2.trans (A.2 k).2.2⟩⟩
theorem FK_fr {P : Nat → Prop} (F : am_fr P g g') (hP : ∀ a, P a → a < 278 ∨ 299 < a) (hd : dp < 22) : FK g g' dp := ⟨fun j hj k => ⟨fr_rdI F (fun q => by have := hP _ q; omega), fr_rdD F (fun q => by have := hP _ q; omega), fr_rdR F⟩, fun k => ⟨fun _ => fr_rdI F (fun q => by have := hP _ q; omega), fr_rdD F (fun q => by have := hP _ q; omega), fr_rdR F⟩⟩
theorem FK_at {x : Int32} : FK g (am_setI g (278 + dp) 1 x) dp := ⟨fun j hj k => ⟨rI_a (by omega), rfl, rfl⟩, fun k => ⟨fun hk => rI_k hk, rfl, rfl⟩⟩
theorem FK_le {dp' : Nat} (A : FK g g' dp') (h : dp < dp') : FK g g' dp := ⟨fun j hj k => A.1 j (by omega) k, fun k => ⟨fun _ => (A.1 dp h k).1, (A.1 dp h k).2.1, (A.1 dp h k).2.2⟩⟩
theorem FK_F {e p b : Nat} (A : FK g g' dp) (hp : am_I g' (278 + dp) 1 = nI p) {q : Nat} (F : FRx g dp e q b) : FRx g' dp e p b := ⟨(A.2 0).2.2.trans F.1, hp, ((A.2 2).1 (by decide)).trans F.2.2⟩
theorem XS_S (A : XS h g o rr sa dp ts σ) : am_S g := A.2.1
theorem RDx_keep {rd : List Nat} (R : RDx g o rr rd) (h0 : ∀ k, k ≠ 8 → am_I g' o k = am_I g o k) (hR : am_R g' o 8 = am_R g o 8) (ht : ∀ a, a < g.1 → am_tg g' a = am_tg g a) (hs : g.1 ≤ g'.1) (ha : ∀ a, rr = some a → ∀ k, am_I g' a k = am_I g a k) : RDx g' o rr rd := by
  obtain ⟨a1, a2, a3, a4, a5⟩ := R
  refine ⟨hR.trans a1, ⟨Nat.lt_of_lt_of_le a2.1 hs, by rw [ht o a2.1]; exact a2.2⟩, a3, a4, fun a q => ?_⟩
  obtain ⟨b1, b2, b3, b4, b5⟩ := a5 a q
  exact ⟨b1, by omega, (ht a b2).trans b3, (h0 9 (by decide)).trans b4, fun i h1 h2 => (ha a q i).trans (b5 i h1 h2)⟩
/-- the stack alone has changed -/
theorem XS_num (A : XS h g o rr sa dp ts σ) (F : am_fr nsP g g') : XS h g' o rr sa dp ts σ := by
  obtain ⟨a1, a2, a3, a4, a5, a6, a7, a8, a9, a10⟩ := A
  have hr := a10.2.2
  refine ⟨kp_trans a1 (kp_fr F (fun a k ha => Or.inr (Or.inl (by omega)))), fr_S F a2, ⟨(fr_rdI F (by decide)).trans a3.1, fun i q hq => ⟨(fr_rdI F (by decide)).trans (a3.2 i q hq).1, (fr_rdI F (by decide)).trans (a3.2 i q hq).2.1, (fr_rdI F (by decide)).trans (a3.2 i q hq).2.2⟩⟩, (fr_rdI F (by decide)).trans a4, (fr_rdI F (by decide)).trans a5, a6, (fr_rdI F (by decide)).trans a7, (fr_rdR F).trans a8, (fr_rdR F).trans a9, RDx_keep a10 (fun k _ => fr_rdI F (by omega)) (fr_rdR F) (fun a _ => fr_tg F) (by rw [F.1]; exact Nat.le_refl _) (fun a q k => fr_rdI F (by have := (hr.2.2 a q).1; omega))⟩
theorem KZ_fr {P : Nat → Prop} (F : am_fr P g g') (h9 : ¬ P 9) (Z : KZ g) : KZ g' := ⟨(fr_rdI F h9).trans Z.1, (fr_rdR F).trans Z.2⟩
/-- one int of the machine or of a frame has changed -/
theorem XS_I {a k : Nat} {x : Int32} (A : XS h g o rr sa dp ts σ) (hak : (a = 9 ∧ k = 13) ∨ (278 ≤ a ∧ a ≤ 299)) (ho : o < 278 ∨ 299 < o) : XS h (am_setI g a k x) o rr sa dp ts σ := by
  obtain ⟨a1, a2, a3, a4, a5, a6, a7, a8, a9, a10⟩ := A
  have hr := a10.2.2
  have n9 : ∀ j, j ≠ 13 → am_I (am_setI g a k x) 9 j = am_I g 9 j := fun j hj => by
    rcases hak with ⟨rfl, rfl⟩ | hh
    · exact rI_k hj
    · exact rI_a (by omega)
  have nn : ∀ b j, b ≠ 9 → (b < 278 ∨ 299 < b) → am_I (am_setI g a k x) b j = am_I g b j := fun b j h1 h2 => rI_a (by omega)
  refine ⟨kp_I a1 (by rcases hak with ⟨rfl, rfl⟩ | hh
                      · exact Or.inl ⟨rfl, by decide⟩
                      · exact Or.inr (Or.inr (Or.inr (Or.inl hh)))), a2, ⟨(n9 9 (by decide)).trans a3.1, fun i q hq => ⟨(nn 17 i (by decide) (by decide)).trans (a3.2 i q hq).1, (nn 18 i (by decide) (by decide)).trans (a3.2 i q hq).2.1, (nn 19 i (by decide) (by decide)).trans (a3.2 i q hq).2.2⟩⟩, (n9 10 (by decide)).trans a4, (n9 11 (by decide)).trans a5, a6, (n9 12 (by decide)).trans a7, a8, a9, RDx_keep a10 (fun j _ => nn o j (by omega) ho) rfl (fun _ _ => rfl) (Nat.le_refl _) (fun b q j => nn b j (by have := (hr.2.2 b q).1; omega) (by have := (hr.2.2 b q).1; omega))⟩
/-- the locals of workOut -/
abbrev LL (v1 v2 v3 : Option Value) (turn : Nat) (v5 v6 : Option Value) : am_Lo := [some (.ref 9), v1, v2, v3, some (.int (nI turn)), v5, v6]
/-- turns that go well -/
def GR (d : Nat) (v1 v2 v3 : Option Value) (g : am_H) (n : Nat) (g' : am_H) (n' : Nat) : Prop := ∀ v5 v6, ∃ w5 w6, ∀ Q, am_J d 32 9 (LL v1 v2 v3 n v5 v6) [] g Q ↔ am_J d 32 9 (LL v1 v2 v3 n' w5 w6) [] g' Q
/-- turns that end in a failure -/
def BR (d : Nat) (v1 v2 v3 : Option Value) (g : am_H) (n : Nat) (g' : am_H) (n' : Nat) : Prop := ∀ v5 v6, ∃ w5 w6, ∀ Q, am_J d 32 9 (LL v1 v2 v3 n v5 v6) [] g Q ↔ am_J d 32 121 (LL v1 v2 v3 n' w5 w6) [] g' Q
variable {v1 v2 v3 : Option Value} {n n' n2 : Nat}
theorem GR_refl : GR d v1 v2 v3 g n g n := fun v5 v6 => ⟨v5, v6, fun _ => Iff.rfl⟩
theorem GR_trans (A : GR d v1 v2 v3 g n g' n') (B : GR d v1 v2 v3 g' n' g2 n2) : GR d v1 v2 v3 g n g2 n2 := fun v5 v6 => by
  obtain ⟨w5, w6, h1⟩ := A v5 v6
  obtain ⟨x5, x6, h2⟩ := B w5 w6
  exact ⟨x5, x6, fun Q => (h1 Q).trans (h2 Q)⟩
theorem GR_bad (A : GR d v1 v2 v3 g n g' n') (B : BR d v1 v2 v3 g' n' g2 n2) : BR d v1 v2 v3 g n g2 n2 := fun v5 v6 => by
  obtain ⟨w5, w6, h1⟩ := A v5 v6
  obtain ⟨x5, x6, h2⟩ := B w5 w6
  exact ⟨x5, x6, fun Q => (h1 Q).trans (h2 Q)⟩
theorem o278 (S : am_S g) {j : Nat} (hj : j < 22) : am_ob g (278 + j) 2 := by
  have : ∀ j, j < 22 → (Nat.ble 4 (278 + j) && Nat.blt (278 + j) 402 && Nat.beq (am_tgs (278 + j)).1 2) = true := by decide +kernel
  exact am_S_ob S (this j hj)
/-- one turn: the order at p is obeyed -/
theorem x_iter {e p b : Nat} {D : List (Int32 × Int64)} {x : Int32 × Int64} (A : XS h g o rr sa dp ts σ) (hd : dp < 22) (C : cdK g e D) (F : FRx g dp e p b) (hx : D[p]? = some x) (hn : n < 1000000) {v5 v6 : Option Value} {Q : Option Value → am_H → Prop} : am_J (d + 1) 32 9 (LL v1 v2 v3 n v5 v6) [] g Q ↔ am_J d 40 0 [some (.ref 9), some (.ref (278 + dp)), some (.int x.1), some (.long x.2), none] [] (am_setI g (278 + dp) 1 (nI (p + 1))) (fun r h' => am_J (d + 1) 32 121 (LL v1 v2 v3 n (some (.ref (278 + dp))) (some (.int (nI p)))) (r.toList ++ []) h' Q) := by
  have S := A.2.1
  obtain ⟨-, -, -, a4, -, -, a7, -⟩ := A
  obtain ⟨c1, c2, t0, t2, t3, r0, r1, i5, vv, b1⟩ := C
  obtain ⟨f1, f2, f3⟩ := F
  have hp := (List.getElem?_eq_some_iff.mp hx).1
  obtain ⟨x1, x2⟩ := vv p x hx
  have O := o278 S hd
  have Oe : am_ob g e 1 := ⟨by omega, by rw [t0]⟩
  have X2 : am_ax g (e + 2) 103 p := ax_of (by omega) t2 hp (by omega)
  have X3 : am_ax g (e + 3) 101 p := ax_of (by omega) t3 hp (by omega)
  have h4 : 4 ≤ 278 + dp := by omega
  have q1 : am_I (am_setI g (278 + dp) 1 (nI (p + 1))) (e + 2) p = x.1 := by rw [rI_a (by omega)]; exact x1
  have q5 : am_I (am_setI g (278 + dp) 1 (nI (p + 1))) e 5 = nI D.length := by rw [rI_a (by omega)]; exact i5
  rw [g32_9]
  simp (disch := first | with_reducible assumption | omega | exact Or.inl rfl | exact Or.inr rfl | exact bI_01 | exact c_cat | exact vt_ref | exact vt_null | rfl | with_reducible repeat (first | assumption | omega | apply S_I | apply S_L | apply S_D | apply ob_I | apply ob_L | apply ob_D | apply ob_R | apply ax_I | apply ax_L | apply ax_D | apply ax_R | apply o303 | apply o307 | apply o302 | apply o301 | apply ax304 | apply ax305 | apply ax306 | apply ax308 | apply ax309 | apply ax310 | apply lt_S | apply ar305 | apply ar308 | apply ar309)) only [g32_11, g32_13, g32_16, g32_17, g32_20, g32_23, g32_24, g32_27, g32_28, g32_31, g32_32, g32_34, g32_36, g32_39, g32_39r, g32_39n, g32_42, g32_44, g32_47, g32_50, g32_52, g32_55, g32_57, g32_60, g32_63, g32_66, g32_67, g32_69, g32_72, g32_75, g32_77, g32_80, g32_82, g32_84, g32_85, g32_88, g32_89, g32_90, g32_93, g32_94, g32_96, g32_98, g32_101, g32_104, g32_106, g32_107, g32_109, g32_112, g32_115, g32_117, g32_118, Option.toList, List.nil_append, List.cons_append, va_rf, nI_ltI, nI_leI, nI_eq, nI_add, nI_sub, nI_lt0, nI_e0, nI_m1, m1_nI, Nat.reduceEqDiff, Nat.reduceLT, Nat.reduceLeDiff, Nat.reduceAdd, Nat.reduceSub, Nat.reduceMul, ↓reduceIte, eq_self, show ¬ 1000000 ≤ n by omega, a7, a4, f1, f2, i5, hp, hR_I, hL_I, r0, r1, q1, x2, reduceCtorEq]
theorem x_nextTurn (S : am_S g) (Z : am_I g 9 13 = nI 0) {v5 v6 : Option Value} {Q : Option Value → am_H → Prop} : am_J (d + 1) 32 121 (LL v1 v2 v3 n v5 v6) [] g Q ↔ am_J (d + 1) 32 9 (LL v1 v2 v3 (n + 1) v5 v6) [] g Q := by
  simp (disch := first | with_reducible assumption | omega | exact Or.inl rfl | exact Or.inr rfl | exact bI_01 | exact c_cat | exact vt_ref | exact vt_null | rfl | with_reducible repeat (first | assumption | omega | apply S_I | apply S_L | apply S_D | apply ob_I | apply ob_L | apply ob_D | apply ob_R | apply ax_I | apply ax_L | apply ax_D | apply ax_R | apply o303 | apply o307 | apply o302 | apply o301 | apply ax304 | apply ax305 | apply ax306 | apply ax308 | apply ax309 | apply ax310 | apply lt_S | apply ar305 | apply ar308 | apply ar309)) only [g32_121, g32_122, g32_125, g32_128, g32_129, g32_132, g32_135, Option.toList, List.nil_append, List.cons_append, va_rf, nI_ltI, nI_leI, nI_eq, nI_add, nI_sub, nI_lt0, nI_e0, nI_m1, m1_nI, Nat.reduceEqDiff, Nat.reduceLT, Nat.reduceLeDiff, Nat.reduceAdd, Nat.reduceSub, Nat.reduceMul, ↓reduceIte, eq_self, Z]
/-- an order that is obeyed well -/
theorem x_good {e p b : Nat} {D : List (Int32 × Int64)} {x : Int32 × Int64} (A : XS h g o rr sa dp ts σ) (hd : dp < 22) (C : cdK g e D) (F : FRx g dp e p b) (hx : D[p]? = some x) (hn : n < 1000000) (R : am_run d 40 [some (.ref 9), some (.ref (278 + dp)), some (.int x.1), some (.long x.2), none] (am_setI g (278 + dp) 1 (nI (p + 1))) none g') (S' : am_S g') (Z : am_I g' 9 13 = nI 0) : GR (d + 1) v1 v2 v3 g n g' (n + 1) := fun v5 v6 => ⟨some (.ref (278 + dp)), some (.int (nI p)), fun Q => by
  rw [x_iter A hd C F hx hn, R, ← x_nextTurn S' Z]
  rfl⟩
theorem x_bad {e p b : Nat} {D : List (Int32 × Int64)} {x : Int32 × Int64} (A : XS h g o rr sa dp ts σ) (hd : dp < 22) (C : cdK g e D) (F : FRx g dp e p b) (hx : D[p]? = some x) (hn : n < 1000000) (R : am_run d 40 [some (.ref 9), some (.ref (278 + dp)), some (.int x.1), some (.long x.2), none] (am_setI g (278 + dp) 1 (nI (p + 1))) none g') : BR (d + 1) v1 v2 v3 g n g' n := fun v5 v6 => ⟨some (.ref (278 + dp)), some (.int (nI p)), fun Q => by
  rw [x_iter A hd C F hx hn, R]
  rfl⟩
end XMA

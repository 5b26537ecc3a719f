/-! THE WORK on an E as a function: nodes of the tables, steps left, what was read -/
abbrev VL : Type := Int64 ⊕ UInt64
abbrev OC : Type := VL ⊕ (Nat ⊕ Nat)
abbrev SR : Type := Nat × List Nat
abbrev FO : Type := OC × SR
/-- a number as a double -/
def vD (v : VL) : UInt64 := match v with
  | .inl x => Jvm.FP.l2d x
  | .inr x => x
/-- it failed with kind k, by itself -/
def oF (k : Nat) : OC := .inr (.inl k)
def oL (x : Int64) : OC := .inl (.inl x)
def finB (x : UInt64) : Bool := decide (x &&& 0x7fffffffffffffff < 0x7ff0000000000000)
/-- a double, or BEYOND -/
def gv (x : UInt64) : OC := if finB x = true then .inl (.inr x) else oF 5
def bL (b : Bool) : OC := oL (if b = true then lN 1 else lN 0)
def dlt (x y : UInt64) : Bool := decide (Jvm.FP.dcmp x y = some .lt)
def dle (x y : UInt64) : Bool := dlt x y || decide (Jvm.FP.dcmp x y = some .eq)
def deq (x y : UInt64) : Bool := decide (Jvm.FP.dcmp x y = some .eq)
/-- a sign between longs -/
def opL (s : Nat) (a b : Int64) : OC :=
  if s = 60 then bL (decide (a < b)) else if s = 76 then bL (decide (a ≤ b)) else if s = 61 then bL (decide (a = b)) else if s = 78 then bL (!decide (a = b)) else
  if (s = 47 ∨ s = 37) ∧ b = 0 then oF 1 else oL (if s = 43 then a + b else if s = 45 then a - b else if s = 42 then a * b else if s = 47 then a / b else a - a / b * b)
/-- a sign between doubles -/
def opD (s : Nat) (x y : UInt64) : OC :=
  if s = 60 then bL (dlt x y) else if s = 76 then bL (dle x y) else if s = 61 then bL (deq x y) else if s = 78 then bL (!deq x y) else
  if (s = 47 ∨ s = 37) ∧ deq y Jvm.FP.dconst0 = true then oF 1 else gv (if s = 43 then Jvm.FP.dadd x y else if s = 45 then Jvm.FP.dsub x y else if s = 42 then Jvm.FP.dmul x y else if s = 47 then Jvm.FP.ddiv x y else Jvm.FP.drem x y)
def op2 (s : Nat) (u v : VL) : OC := match u, v with
  | .inl a, .inl b => opL s a b
  | u, v => opD s (vD u) (vD v)
def below (u v : VL) : Bool := match u, v with
  | .inl a, .inl b => decide (a < b)
  | u, v => dlt (vD u) (vD v)
/-- a cell that is read: nothing (an empty one that is passed), or what it comes to -/
def rdR (cv : Nat → Option (Option VL)) (c : Nat) (ps : Bool) : Option OC := match cv c with
  | none => if ps = true then none else some (oF 3)
  | some none => some (.inr (.inr c))
  | some (some v) => some (.inl v)
/-- over the cells of rows: w is the word -/
def evFold (cv : Nat → Option (Option VL)) (w : Nat) : List Nat → Nat → VL → SR → FO
  | [], m, u, σ => (if w = 5 then oL (lN m) else if m = 0 then (if w = 2 then oL (lN 0) else oF 3) else .inl u, σ)
  | c :: l, m, u, σ => if σ.1 = 0 then (oF 8, σ) else match rdR cv c true with
    | none => evFold cv w l m u (σ.1 - 1, σ.2 ++ [c])
    | some (.inr f) => (.inr f, (σ.1 - 1, σ.2 ++ [c]))
    | some (.inl v) => if m = 0 then evFold cv w l 1 v (σ.1 - 1, σ.2 ++ [c]) else
      if w = 2 then (match op2 43 u v with
        | .inr f => (.inr f, (σ.1 - 1, σ.2 ++ [c]))
        | .inl r => evFold cv w l (m + 1) r (σ.1 - 1, σ.2 ++ [c])) else
      if w = 3 then evFold cv w l (m + 1) (if below v u = true then v else u) (σ.1 - 1, σ.2 ++ [c]) else
      if w = 4 then evFold cv w l (m + 1) (if below u v = true then v else u) (σ.1 - 1, σ.2 ++ [c]) else
      evFold cv w l (m + 1) v (σ.1 - 1, σ.2 ++ [c])
/-- rows as doubles -/
def evTab (cv : Nat → Option (Option VL)) : List Nat → List UInt64 → SR → (List UInt64 ⊕ (Nat ⊕ Nat)) × SR
  | [], a, σ => (.inl a, σ)
  | c :: l, a, σ => if σ.1 = 0 then (.inr (.inl 8), σ) else match rdR cv c false with
    | none => (.inr (.inl 0), σ)
    | some (.inr f) => (.inr f, (σ.1 - 1, σ.2 ++ [c]))
    | some (.inl v) => evTab cv l (a ++ [vD v]) (σ.1 - 1, σ.2 ++ [c])
/-- is it rising? -/
def rising (a : List UInt64) : Nat → Bool
  | 0 => true
  | n + 1 => rising a n && (decide (n = 0) || dlt (a.getD (n - 1) 0) (a.getD n 0))
def lnAt (a : List UInt64) (x : UInt64) : Nat → Nat → Nat
  | 0, i => i
  | f + 1, i => if dle (a.getD (i + 1) 0) x = true then lnAt a x f (i + 1) else i
def lnV (x : UInt64) (a b : List UInt64) : OC :=
  if dle x (a.getD 0 0) = true then .inl (.inr (b.getD 0 0)) else
  if dle (a.getD (a.length - 1) 0) x = true then .inl (.inr (b.getD (a.length - 1) 0)) else
  if finB (Jvm.FP.dsub (a.getD (lnAt a x a.length 0 + 1) 0) (a.getD (lnAt a x a.length 0) 0)) = true ∧ finB (Jvm.FP.dsub (b.getD (lnAt a x a.length 0 + 1) 0) (b.getD (lnAt a x a.length 0) 0)) = true then
    (if finB (Jvm.FP.dmul (Jvm.FP.dsub (b.getD (lnAt a x a.length 0 + 1) 0) (b.getD (lnAt a x a.length 0) 0)) (Jvm.FP.ddiv (Jvm.FP.dsub x (a.getD (lnAt a x a.length 0) 0)) (Jvm.FP.dsub (a.getD (lnAt a x a.length 0 + 1) 0) (a.getD (lnAt a x a.length 0) 0)))) = true then
      gv (Jvm.FP.dadd (b.getD (lnAt a x a.length 0) 0) (Jvm.FP.dmul (Jvm.FP.dsub (b.getD (lnAt a x a.length 0 + 1) 0) (b.getD (lnAt a x a.length 0) 0)) (Jvm.FP.ddiv (Jvm.FP.dsub x (a.getD (lnAt a x a.length 0) 0)) (Jvm.FP.dsub (a.getD (lnAt a x a.length 0 + 1) 0) (a.getD (lnAt a x a.length 0) 0))))) else oF 5)
  else oF 5
/-- the area, from place i on; n places more -/
def arV (a b : List UInt64) : Nat → Nat → UInt64 → OC
  | 0, _, s => .inl (.inr s)
  | n + 1, i, s =>
    if finB (Jvm.FP.dsub (a.getD i 0) (a.getD (i - 1) 0)) = true ∧ finB (Jvm.FP.dadd (b.getD (i - 1) 0) (b.getD i 0)) = true then
      (if finB (Jvm.FP.dmul (Jvm.FP.dsub (a.getD i 0) (a.getD (i - 1) 0)) (Jvm.FP.dadd (b.getD (i - 1) 0) (b.getD i 0))) = true then
        (if finB (Jvm.FP.dadd s (Jvm.FP.ddiv (Jvm.FP.dmul (Jvm.FP.dsub (a.getD i 0) (a.getD (i - 1) 0)) (Jvm.FP.dadd (b.getD (i - 1) 0) (b.getD i 0))) 4611686018427387904)) = true then
          arV a b n (i + 1) (Jvm.FP.dadd s (Jvm.FP.ddiv (Jvm.FP.dmul (Jvm.FP.dsub (a.getD i 0) (a.getD (i - 1) 0)) (Jvm.FP.dadd (b.getD (i - 1) 0) (b.getD i 0))) 4611686018427387904))
        else oF 5) else oF 5) else oF 5
/-- the two rows of a line or an area: word w, x the place on the line -/
def tabV (w : Nat) (x : UInt64) (a b : List UInt64) : OC :=
  if a.length = b.length ∧ 1 < a.length ∧ (w = 7 → rising a a.length = true) then (if w = 7 then lnV x a b else arV a b (a.length - 1) 1 Jvm.FP.dconst0) else oF 7
def evRows (cv : Nat → Option (Option VL)) (w : Nat) (x : UInt64) (l m : List Nat) (σ : SR) : FO := match evTab cv l [] σ with
  | (.inr f, σ) => (.inr f, σ)
  | (.inl a, σ) => match evTab cv m [] σ with
    | (.inr f, σ) => (.inr f, σ)
    | (.inl b, σ) => (tabV w x a b, σ)
/-- the middle -/
def mid (l h : UInt64) : OC := if finB (Jvm.FP.dsub h l) = true then gv (Jvm.FP.dadd l (Jvm.FP.dmul (Jvm.FP.dsub h l) 4602678819172646912)) else oF 5
def lt0 (v : VL) : Bool := dlt (vD v) Jvm.FP.dconst0
/-- one more asking of a root -/
def wo (ap : List VL → SR → FO) (x : UInt64) (σ : SR) : FO := if σ.1 = 0 then (oF 8, σ) else ap [.inr x] (σ.1 - 1, σ.2)
def evRootL (ap : List VL → SR → FO) (bl : Bool) : Nat → UInt64 → UInt64 → SR → FO
  | 0, l, h, σ => (mid l h, σ)
  | k + 1, l, h, σ => match mid l h with
    | .inr f => (.inr f, σ)
    | .inl m => match wo ap (vD m) σ with
      | (.inr f, σ) => (.inr f, σ)
      | (.inl r, σ) => if lt0 r = bl then evRootL ap bl k (vD m) h σ else evRootL ap bl k l (vD m) σ
def evRoot (ap : List VL → SR → FO) (l h : UInt64) (σ : SR) : FO := match wo ap l σ with
  | (.inr f, σ) => (.inr f, σ)
  | (.inl r, σ) => match wo ap h σ with
    | (.inr f, σ) => (.inr f, σ)
    | (.inl t, σ) => if lt0 t = lt0 r then (oF 6, σ) else evRootL ap (lt0 r) 60 l h σ
def xN (x : Int32) : Nat := x.toInt.toNat
theorem xN_n {n : Nat} (h : n < 2 ^ 31) : xN (nI n) = n := by unfold xN; rw [nI_toInt h]; exact Int.toNat_natCast n
/-- then: go on if it went well -/
def andThen (r : FO) (k : VL → SR → FO) : FO := match r with
  | (.inr f, σ) => (.inr f, σ)
  | (.inl v, σ) => k v σ
/-- the arguments one by one -/
def evArgs (go : Nat → SR → FO) : List Nat → List VL → SR → (List VL ⊕ (Nat ⊕ Nat)) × SR
  | [], a, σ => (.inl a, σ)
  | n :: l, a, σ => match go n σ with
    | (.inr f, σ) => (.inr f, σ)
    | (.inl v, σ) => evArgs go l (a ++ [v]) σ
def nz (v : VL) : Bool := match v with
  | .inl x => !decide (x = 0)
  | .inr x => !deq x Jvm.FP.dconst0
def cutV (v : VL) : VL := match v with
  | .inl x => .inl x
  | .inr x => .inl (Jvm.FP.d2l x)
def negV (v : VL) : VL := match v with
  | .inl x => .inl (-x)
  | .inr x => .inr (Jvm.FP.dneg x)
def rwL (T : ntT) (i : Nat) : List Nat := rgL (xN (T i).2.1) (xN (T i).2.2.1)
def chL (b c : Int32) : List Nat := if b = -1 then [] else if c = -1 then [xN b] else [xN b, xN c]
/-- a cell at a place of rows -/
def evAt (cv : Nat → Option (Option VL)) (l : List Nat) (v : VL) (σ : SR) : FO := match v with
  | .inr _ => (oF 11, σ)
  | .inl i => if i < 0 ∨ lN l.length ≤ i then (oF 2, σ) else if σ.1 = 0 then (oF 8, σ) else match rdR cv (l.getD i.toInt.toNat 0) false with
    | none => (oF 0, σ)
    | some o => (o, (σ.1 - 1, σ.2 ++ [l.getD i.toInt.toNat 0]))
/-- a word's call -/
def evCall (cv : Nat → Option (Option VL)) (T : ntT) (w a : Nat) (b c : Int32) (go : Nat → SR → FO) (σ : SR) : FO :=
  if 2 ≤ w ∧ w ≤ 5 then evFold cv w (rwL T a) 0 (.inl 0) σ
  else if w = 6 then andThen (go (xN b) σ) (evAt cv (rwL T a))
  else if w = 7 then andThen (go a σ) (fun v σ => evRows cv 7 (vD v) (rwL T (xN b)) (rwL T (xN c)) σ)
  else if w = 8 then evRows cv 8 Jvm.FP.dconst0 (rwL T a) (rwL T (xN b)) σ
  else if w = 1 then (match go a σ with
    | (.inr (.inl 8), σ) => (oF 8, σ)
    | (.inr _, σ) => go (xN b) σ
    | (.inl v, σ) => (.inl v, σ))
  else andThen (go a σ) (fun v σ => if w = 0 then go (if nz v = true then xN b else xN c) σ else if w = 11 then (.inl (.inr (vD v)), σ) else (.inl (cutV v), σ))
/-- one node -/
def evN (cv : Nat → Option (Option VL)) (nm : Nat → VL) (T : ntT) (n : Nat) (go : Nat → SR → FO) (ap : Nat → List VL → SR → FO) (σ : SR) : FO :=
  if (T n).1 = nI 1 then (.inl (.inl (T n).2.2.2.2), σ)
  else if (T n).1 = nI 2 then (.inl (.inr (Jvm.FP.ddiv (Jvm.FP.l2d (T n).2.2.2.2) (tp (xN (T n).2.1)))), σ)
  else if (T n).1 = nI 3 then (match rdR cv (xN (T n).2.1) false with
    | none => (oF 0, σ)
    | some o => (o, (σ.1, σ.2 ++ [xN (T n).2.1])))
  else if (T n).1 = nI 4 then (.inl (nm (xN (T n).2.1)), σ)
  else if (T n).1 = nI 5 then andThen (go (xN (T n).2.1) σ) (fun v σ => (.inl (negV v), σ))
  else if (T n).1 = nI 6 then andThen (go (xN (T n).2.2.1) σ) (fun u σ => andThen (go (xN (T n).2.2.2.1) σ) (fun v σ => (op2 (xN (T n).2.1) u v, σ)))
  else if (T n).1 = nI 8 then (match evArgs go (xN (T n).2.1 :: chL (T n).2.2.1 (T n).2.2.2.1) [] σ with
    | (.inr f, σ) => (.inr f, σ)
    | (.inl as, σ) => ap (xN (T n).2.2.2.2.toInt32) as σ)
  else if (T n).1 = nI 9 then andThen (go (xN (T n).2.1) σ) (fun u σ => andThen (go (xN (T n).2.2.1) σ) (fun v σ => evRoot (ap (xN (T n).2.2.2.2.toInt32)) (vD u) (vD v) σ))
  else evCall cv T (xN (T n).2.2.2.2.toInt32) (xN (T n).2.1) (T n).2.2.1 (T n).2.2.2.1 go σ
/-- the work: fuel, slot, arguments, sheet, depth, node -/
def ev (tt : Nat → ntT) (rt : Nat → Nat) (cv : Nat → Option (Option VL)) (cs : Nat → Nat → VL) : Nat → Nat → List VL → Nat → Nat → Nat → SR → FO
  | 0, _, _, _, _, _, σ => (oF 0, σ)
  | f + 1, s, as, sh, dp, n, σ => if σ.1 = 0 then (oF 8, σ) else
    evN cv (fun k => if 48 ≤ s ∧ s < 56 then as.getD k (.inl 0) else cs sh k) (tt s) n (fun n σ => ev tt rt cv cs f s as sh dp n σ)
      (fun g as σ => if dp = 20 then (oF 4, σ) else ev tt rt cv cs f (48 + g) as 0 (dp + 1) (rt (48 + g)) σ) (σ.1 - 1, σ.2)

/-! AM: a functional machine over a heap of its own. Addresses count from 0: 0 the script, 1 Parser.WORDS, 2 the model's text of words, 3 its bytes; from 4 on what the law makes. -/
abbrev am_H : Type := Nat × Nat × (Nat → Nat × Nat) × (Nat → Nat → Int32) × (Nat → Nat → Int64) × (Nat → Nat → UInt64) × (Nat → Nat → Option Nat)
abbrev am_Lo : Type := List (Option Value)
abbrev am_sz (h : am_H) : Nat := h.1
abbrev am_su (h : am_H) : Nat := h.2.1
abbrev am_tg (h : am_H) : Nat → Nat × Nat := h.2.2.1
abbrev am_I (h : am_H) : Nat → Nat → Int32 := h.2.2.2.1
abbrev am_L (h : am_H) : Nat → Nat → Int64 := h.2.2.2.2.1
abbrev am_D (h : am_H) : Nat → Nat → UInt64 := h.2.2.2.2.2.1
abbrev am_R (h : am_H) : Nat → Nat → Option Nat := h.2.2.2.2.2.2
def am_u {α : Type} (f : Nat → Nat → α) (a k : Nat) (v : α) : Nat → Nat → α := fun b j => if b = a then (if j = k then v else f b j) else f b j
def am_z {α : Type} (f : Nat → Nat → α) (a : Nat) (v : α) : Nat → Nat → α := fun b j => if b = a then v else f b j
def am_t (f : Nat → Nat × Nat) (a : Nat) (v : Nat × Nat) : Nat → Nat × Nat := fun b => if b = a then v else f b
/-- what a field or place of this type holds -/
def am_val (ty : FieldType) (h : am_H) (a k : Nat) : Value := match ty with
  | .long => .long (am_L h a k)
  | .double => .double (am_D h a k)
  | .object _ => va_rf (am_R h a k)
  | .array _ => va_rf (am_R h a k)
  | _ => .int (am_I h a k)
/-- the type of an array's places, by its kind -/
def am_aT (kd : Nat) : FieldType := match kd with
  | 100 => .int
  | 101 => .long
  | 102 => .double
  | 103 => .byte
  | 104 => .boolean
  | 110 => .int
  | 111 => .long
  | 113 => .byte
  | k => .object (am_cn (k - 200))
def am_rfo (v : Value) : Option (Option Nat) := match v with
  | .null => some none
  | .ref a => some (some a)
  | _ => none
def am_setI (h : am_H) (a k : Nat) (x : Int32) : am_H := (h.1, h.2.1, h.2.2.1, am_u h.2.2.2.1 a k x, h.2.2.2.2.1, h.2.2.2.2.2.1, h.2.2.2.2.2.2)
def am_setL (h : am_H) (a k : Nat) (x : Int64) : am_H := (h.1, h.2.1, h.2.2.1, h.2.2.2.1, am_u h.2.2.2.2.1 a k x, h.2.2.2.2.2.1, h.2.2.2.2.2.2)
def am_setD (h : am_H) (a k : Nat) (x : UInt64) : am_H := (h.1, h.2.1, h.2.2.1, h.2.2.2.1, h.2.2.2.2.1, am_u h.2.2.2.2.2.1 a k x, h.2.2.2.2.2.2)
def am_setR (h : am_H) (a k : Nat) (x : Option Nat) : am_H := (h.1, h.2.1, h.2.2.1, h.2.2.2.1, h.2.2.2.2.1, h.2.2.2.2.2.1, am_u h.2.2.2.2.2.2 a k x)
/-- a store by type; what is stored must be of the type as it is (a byte is narrowed before) -/
def am_put (ty : FieldType) (h : am_H) (a k : Nat) (v : Value) : Option am_H := match ty with
  | .int => (match v with | .int x => some (am_setI h a k x) | _ => none)
  | .boolean => (match v with | .int x => if x = 0 ∨ x = 1 then some (am_setI h a k x) else none | _ => none)
  | .long => (match v with | .long x => some (am_setL h a k x) | _ => none)
  | .double => (match v with | .double x => some (am_setD h a k x) | _ => none)
  | .object _ => (am_rfo v).map (am_setR h a k)
  | .array _ => (am_rfo v).map (am_setR h a k)
  | _ => none
def am_new (h : am_H) (tag : Nat × Nat) (n : Nat) : am_H := (h.1 + 1, h.2.1 + n, am_t h.2.2.1 h.1 tag, am_z h.2.2.2.1 h.1 0, am_z h.2.2.2.2.1 h.1 0, am_z h.2.2.2.2.2.1 h.1 0, am_z h.2.2.2.2.2.2 h.1 none)
def am_ld (ls : am_Lo) (i : Nat) : Option Value := match ls[i]? with
  | some (some v) => if v.category = 2 then (match ls[i + 1]? with | some none => some v | _ => none) else some v
  | _ => none
def am_st (ls : am_Lo) (i : Nat) (v : Value) : Option am_Lo :=
  if v.category = 2 then (if i + 1 < ls.length then some ((ls.set i (some v)).set (i + 1) none) else none)
  else (if i < ls.length then some (ls.set i (some v)) else none)
def am_fl (args : List Value) : am_Lo := args.flatMap fun v => if v.category = 2 then [some v, none] else [some v]
def am_en (n : Nat) (args : List Value) : am_Lo := am_fl args ++ List.replicate (n - (am_fl args).length) none
/-! instructions of the stack alone: length, new stack -/
def am_i2 (f : Int32 → Int32 → Option Int32) (st : List Value) : Option (Nat × List Value) := match st with
  | .int y :: .int x :: r => (f x y).map fun z => (1, .int z :: r)
  | _ => none
def am_l2 (f : Int64 → Int64 → Option Int64) (st : List Value) : Option (Nat × List Value) := match st with
  | .long y :: .long x :: r => (f x y).map fun z => (1, .long z :: r)
  | _ => none
def am_ls (f : Int64 → Int32 → Int64) (st : List Value) : Option (Nat × List Value) := match st with
  | .int y :: .long x :: r => some (1, .long (f x y) :: r)
  | _ => none
def am_d2 (f : UInt64 → UInt64 → UInt64) (st : List Value) : Option (Nat × List Value) := match st with
  | .double y :: .double x :: r => if (f x y) &&& 0x7fffffffffffffff ≤ 0x7ff0000000000000 then some (1, .double (f x y) :: r) else none
  | _ => none
def am_ps (i : Instr) (st : List Value) : Option (Nat × List Value) := match i with
  | .iconst n => some (1, .int (Int32.ofInt n) :: st)
  | .bipush n => some (2, .int (Int8.ofInt n).toInt32 :: st)
  | .sipush n => some (3, .int (Int16.ofInt n).toInt32 :: st)
  | .lconst n => some (1, .long (Int64.ofNat (n : Nat)) :: st)
  | .dconst n => if n = 0 then some (1, .double FP.dconst0 :: st) else if n = 1 then some (1, .double FP.dconst1 :: st) else none
  | .aconst_null => some (1, .null :: st)
  | .iadd => am_i2 (fun x y => some (x + y)) st
  | .isub => am_i2 (fun x y => some (x - y)) st
  | .imul => am_i2 (fun x y => some (x * y)) st
  | .iand => am_i2 (fun x y => some (x &&& y)) st
  | .ior => am_i2 (fun x y => some (x ||| y)) st
  | .idiv => am_i2 (fun x y => if y = 0 then none else some (x / y)) st
  | .irem => am_i2 (fun x y => if y = 0 then none else some (x - x / y * y)) st
  | .ishl => am_i2 (fun x y => some (x <<< (y &&& 31))) st
  | .ishr => am_i2 (fun x y => some (x >>> (y &&& 31))) st
  | .ladd => am_l2 (fun x y => some (x + y)) st
  | .lsub => am_l2 (fun x y => some (x - y)) st
  | .lmul => am_l2 (fun x y => some (x * y)) st
  | .land => am_l2 (fun x y => some (x &&& y)) st
  | .lor => am_l2 (fun x y => some (x ||| y)) st
  | .lxor => am_l2 (fun x y => some (x ^^^ y)) st
  | .ldiv => am_l2 (fun x y => if y = 0 then none else some (x / y)) st
  | .lrem => am_l2 (fun x y => if y = 0 then none else some (x - x / y * y)) st
  | .lneg => (match st with | .long x :: r => some (1, .long (-x) :: r) | _ => none)
  | .lshl => am_ls (fun x y => x <<< (y.toInt64 &&& 63)) st
  | .lshr => am_ls (fun x y => x >>> (y.toInt64 &&& 63)) st
  | .lushr => am_ls (fun x y => (x.toUInt64 >>> (y.toInt64.toUInt64 &&& Int64.toUInt64 63)).toInt64) st
  | .dadd => am_d2 FP.dadd st
  | .dsub => am_d2 FP.dsub st
  | .dmul => am_d2 FP.dmul st
  | .ddiv => am_d2 FP.ddiv st
  | .drem => am_d2 FP.drem st
  | .dneg => (match st with | .double x :: r => some (1, .double (FP.dneg x) :: r) | _ => none)
  | .i2l => (match st with | .int x :: r => some (1, .long x.toInt64 :: r) | _ => none)
  | .l2i => (match st with | .long x :: r => some (1, .int x.toInt32 :: r) | _ => none)
  | .i2b => (match st with | .int x :: r => some (1, .int x.toInt8.toInt32 :: r) | _ => none)
  | .i2c => (match st with | .int x :: r => some (1, .int (x.toUInt32 % 65536).toInt32 :: r) | _ => none)
  | .l2d => (match st with | .long x :: r => some (1, .double (FP.l2d x) :: r) | _ => none)
  | .d2l => (match st with | .double x :: r => some (1, .long (FP.d2l x) :: r) | _ => none)
  | .lcmp => (match st with | .long y :: .long x :: r => some (1, .int (lg_cmp x y) :: r) | _ => none)
  | .dcmp op => (match st with | .double y :: .double x :: r => some (1, .int (Op.cmpValue (FP.dcmp x y) op) :: r) | _ => none)
  | .dup => (match st with | v :: r => if v.category = 1 then some (1, v :: v :: r) else none | _ => none)
  | .dup2 => (match st with | v :: w :: r => if v.category = 1 ∧ w.category = 1 then some (1, v :: w :: v :: w :: r) else none | _ => none)
  | .pop => (match st with | v :: r => if v.category = 1 then some (1, r) else none | _ => none)
  | .pop2 => (match st with | v :: r => if v.category = 2 then some (1, r) else none | _ => none)
  | _ => none
/-! branches: target, new stack -/
def am_tg? (pc : Nat) (off : Int) : Option Nat := if 0 ≤ (pc : Int) + off then some ((pc : Int) + off).toNat else none
def am_cx (c : Jvm.ClassFile.Cond) (x y : Int32) : Bool := match c with
  | .eq => decide (x = y)
  | .ne => decide (¬ x = y)
  | .lt => decide (x < y)
  | .ge => decide (y ≤ x)
  | .gt => decide (y < x)
  | .le => decide (x ≤ y)
def am_br (i : Instr) (pc len : Nat) (st : List Value) : Option (Nat × List Value) := match i with
  | .goto off => if len = 3 then (am_tg? pc off).map fun t => (t, st) else none
  | .ifCond c off => (match st with | .int x :: r => if len = 3 then (am_tg? pc off).map fun t => (if am_cx c x 0 = true then t else pc + 3, r) else none | _ => none)
  | .if_icmp c off => (match st with | .int y :: .int x :: r => if len = 3 then (am_tg? pc off).map fun t => (if am_cx c x y = true then t else pc + 3, r) else none | _ => none)
  | .ifnull off => (match st with | .null :: r => if len = 3 then (am_tg? pc off).map fun t => (t, r) else none | .ref _ :: r => if len = 3 then some (pc + 3, r) else none | _ => none)
  | .ifnonnull off => (match st with | .ref _ :: r => if len = 3 then (am_tg? pc off).map fun t => (t, r) else none | .null :: r => if len = 3 then some (pc + 3, r) else none | _ => none)
  | .tableswitch dflt lo hi offs => (match st with | .int x :: r => if x.toInt < lo ∨ hi < x.toInt then (am_tg? pc dflt).map fun t => (t, r) else (offs[(x.toInt - lo).toNat]?).bind fun off => (am_tg? pc off).map fun t => (t, r) | _ => none)
  | .lookupswitch dflt ps => (match st with | .int x :: r => if (ps.toList.zip (ps.toList.drop 1)).all (fun (a, next) => a.1 < next.1) = true then (am_tg? pc (Op.lookupswitch.offset ps.toList dflt x.toInt)).map fun t => (t, r) else none | _ => none)
  | _ => none
/-! locals: length, new locals, new stack -/
def am_vt (v : Value) : Nat := match v with
  | .int _ => 0
  | .long _ => 1
  | .double _ => 2
  | .null => 3
  | .ref _ => 3
  | _ => 4
def am_lo (ty : Nat) (ls : am_Lo) (i n : Nat) (st : List Value) : Option (Nat × am_Lo × List Value) := match am_ld ls i with
  | some v => if am_vt v = ty then some (n, ls, v :: st) else none
  | none => none
def am_so (ty : Nat) (ls : am_Lo) (i n : Nat) (st : List Value) : Option (Nat × am_Lo × List Value) := match st with
  | v :: r => if am_vt v = ty then (am_st ls i v).map fun ls' => (n, ls', r) else none
  | _ => none
def am_lc (i : Instr) (ls : am_Lo) (st : List Value) : Option (Nat × am_Lo × List Value) := match i with
  | .iload_n k => am_lo 0 ls k 1 st
  | .iload k => am_lo 0 ls k 2 st
  | .lload_n k => am_lo 1 ls k 1 st
  | .lload k => am_lo 1 ls k 2 st
  | .dload_n k => am_lo 2 ls k 1 st
  | .dload k => am_lo 2 ls k 2 st
  | .aload_n k => am_lo 3 ls k 1 st
  | .aload k => am_lo 3 ls k 2 st
  | .istore_n k => am_so 0 ls k 1 st
  | .istore k => am_so 0 ls k 2 st
  | .lstore_n k => am_so 1 ls k 1 st
  | .lstore k => am_so 1 ls k 2 st
  | .dstore_n k => am_so 2 ls k 1 st
  | .dstore k => am_so 2 ls k 2 st
  | .astore_n k => am_so 3 ls k 1 st
  | .astore k => am_so 3 ls k 2 st
  | .iinc k n => (match am_ld ls k with | some (.int x) => (am_st ls k (.int (x + Int32.ofInt n))).map fun ls' => (3, ls', st) | _ => none)
  | _ => none
/-! heap: length, new stack, new heap -/
def am_fkf (own idx : Nat) : Option (Nat × Nat) := (am_fk.find? fun e => e.1 == own && e.2.1 == idx).map fun e => e.2.2
def am_mkf (own idx : Nat) : Option (Nat × Nat × Nat) := (am_mk.find? fun e => e.1 == own && e.2.1 == idx).map fun e => e.2.2
def am_ckf (own idx : Nat) : Option Nat := (am_ck.find? fun e => e.1 == own && e.2.1 == idx).map fun e => e.2.2
def am_kcf (own idx : Nat) : Option Value := (am_kc.find? fun e => e.1 == own && e.2.1 == idx).map fun e => e.2.2
def am_skf (own idx : Nat) : Option Value := (am_sk.find? fun e => e.1 == own && e.2.1 == idx).map fun e => e.2.2
/-- an array's place: the array is there, of a kind with this type; the place is in it -/
def am_ok (h : am_H) (a : Nat) (j : Int32) : Bool := decide (a < h.1) && decide (100 ≤ (am_tg h a).1) && decide (¬ j < 0) && decide (j.toNatClampNeg < (am_tg h a).2)
def am_al (tys : List FieldType) (st : List Value) (h : am_H) : Option (Nat × List Value × am_H) := match st with
  | .int j :: .ref a :: r => if am_ok h a j = true ∧ am_aT (am_tg h a).1 ∈ tys then some (1, am_val (am_aT (am_tg h a).1) h a j.toNatClampNeg :: r, h) else none
  | _ => none
def am_nb (ty : FieldType) (v : Value) : Value := match ty with
  | .byte => (match v with | .int x => .int x.toInt8.toInt32 | v => v)
  | _ => v
def am_pu (ty : FieldType) (h : am_H) (a k : Nat) (v : Value) : Option am_H := match ty with
  | .byte => (match v with | .int x => some (am_setI h a k x.toInt8.toInt32) | _ => none)
  | ty => am_put ty h a k v
def am_as (tys : List FieldType) (st : List Value) (h : am_H) : Option (Nat × List Value × am_H) := match st with
  | v :: .int j :: .ref a :: r => if am_ok h a j = true ∧ 4 ≤ a ∧ am_aT (am_tg h a).1 ∈ tys then (am_pu (am_aT (am_tg h a).1) h a j.toNatClampNeg v).map fun h' => (1, r, h') else none
  | _ => none
def am_kds : List Nat := [100, 101, 102, 103, 104, 110, 111, 113, 200, 201, 202, 209]
def am_ak (t : ArrayType) : Option Nat := match t with
  | .int => some 100
  | .long => some 101
  | .double => some 102
  | .byte => some 103
  | .boolean => some 104
  | _ => none
def am_cpy {α : Type} (f : Nat → Nat → α) (a0 sp a dp n : Nat) : Nat → Nat → α := fun b k => if b = a then (if dp ≤ k ∧ k < dp + n then f a0 (sp + (k - dp)) else f b k) else f b k
def am_cpI (h : am_H) (a0 sp a dp n : Nat) : am_H := (h.1, h.2.1, h.2.2.1, am_cpy h.2.2.2.1 a0 sp a dp n, h.2.2.2.2.1, h.2.2.2.2.2.1, h.2.2.2.2.2.2)
def am_cpL (h : am_H) (a0 sp a dp n : Nat) : am_H := (h.1, h.2.1, h.2.2.1, h.2.2.2.1, am_cpy h.2.2.2.2.1 a0 sp a dp n, h.2.2.2.2.2.1, h.2.2.2.2.2.2)
def am_hp (own : Nat) (ini : Bool) (d : Nat) (i : Instr) (st : List Value) (h : am_H) : Option (Nat × List Value × am_H) := match i with
  | .ldc idx => (match am_kcf own idx with | some (.int x) => some (2, .int x :: st, h) | some _ => none | none => if own = 12 ∧ idx = 242 then some (2, .ref 2 :: st, h) else none)
  | .ldc2_w idx => (match am_kcf own idx with | some (.long x) => some (3, .long x :: st, h) | some (.double x) => some (3, .double x :: st, h) | _ => none)
  | .getstatic idx => (match am_skf own idx with | some v => some (3, v :: st, h) | none => none)
  | .getfield idx => (match am_fkf own idx, st with
    | some (c, k), .ref a :: r => if a < h.1 ∧ (am_tg h a).1 = c ∧ c < 100 ∧ k < am_nF c then some (3, am_val (am_fT c k) h a k :: r, h) else none
    | _, _ => none)
  | .putfield idx => (match am_fkf own idx, st with
    | some (c, k), v :: .ref a :: r => if a < h.1 ∧ 4 ≤ a ∧ (am_tg h a).1 = c ∧ c < 100 ∧ k < am_nF c ∧ ((am_T c k).2.2.2 = false ∨ (ini = true ∧ own = c)) then (am_put (am_fT c k) h a k v).map fun h' => (3, r, h') else none
    | _, _ => none)
  | .iaload => am_al [.int] st h
  | .laload => am_al [.long] st h
  | .daload => am_al [.double] st h
  | .baload => am_al [.byte, .boolean] st h
  | .aaload => (match st with | .int j :: .ref a :: r => if am_ok h a j = true ∧ 200 ≤ (am_tg h a).1 then some (1, va_rf (am_R h a j.toNatClampNeg) :: r, h) else none | _ => none)
  | .iastore => am_as [.int] st h
  | .lastore => am_as [.long] st h
  | .dastore => am_as [.double] st h
  | .bastore => am_as [.byte, .boolean] st h
  | .aastore => (match st with | .ref v :: .int j :: .ref a :: r => if am_ok h a j = true ∧ 4 ≤ a ∧ 4 ≤ v ∧ v < h.1 ∧ (am_tg h v).1 < 13 ∧ (am_tg h a).1 = 200 + (am_tg h v).1 then some (1, r, am_setR h a j.toNatClampNeg (some v)) else none | _ => none)
  | .arraylength => (match st with | .ref a :: r => if a < h.1 ∧ 100 ≤ (am_tg h a).1 then some (1, .int (Int32.ofNat (am_tg h a).2) :: r, h) else none | _ => none)
  | .new idx => (match am_ckf own idx with | some c => if c < 13 then some (3, .ref h.1 :: st, am_new h (c, 0) (am_nF c)) else none | none => none)
  | .newarray t => (match am_ak t, st with | some kd, .int n :: r => if ¬ n < 0 ∧ n.toNatClampNeg ≤ 65536 then some (2, .ref h.1 :: r, am_new h (kd, n.toNatClampNeg) n.toNatClampNeg) else none | _, _ => none)
  | .anewarray idx => (match am_ckf own idx, st with | some c, .int n :: r => if ¬ n < 0 ∧ n.toNatClampNeg ≤ 65536 ∧ 200 + c ∈ am_kds then some (3, .ref h.1 :: r, am_new h (200 + c, n.toNatClampNeg) n.toNatClampNeg) else none | _, _ => none)
  | .invokespecial idx => (match am_mkf own idx, st with | some (9, _, _), .ref _ :: r => if 1 ≤ d ∧ (r.map fun v => v.category).sum ≤ 8 then some (3, r, h) else none | _, _ => none)
  | .invokestatic idx => (match am_mkf own idx, st with
    | some (4, _, _), .int y :: .int x :: r => if 1 ≤ d ∧ (r.map fun v => v.category).sum ≤ 8 then some (3, .int (if x < y then y else x) :: r, h) else none
    | some (5, _, _), .int y :: .int x :: r => if 1 ≤ d ∧ (r.map fun v => v.category).sum ≤ 8 then some (3, .int (if y < x then y else x) :: r, h) else none
    | some (6, _, _), .int n :: .int k :: r => if 2 ≤ d ∧ (r.map fun v => v.category).sum ≤ 8 ∧ ¬ k < 0 ∧ k < n then some (3, r, h) else none
    | some (7, _, _), .double x :: r => if 1 ≤ d ∧ (r.map fun v => v.category).sum ≤ 8 then some (3, .long x.toInt64 :: r, h) else none
    | some (8, _, _), .int n :: .int dp :: .ref a :: .int sp :: .ref a0 :: r =>
      if 1 ≤ d ∧ (r.map fun v => v.category).sum ≤ 8 ∧ 4 ≤ a ∧ 4 ≤ a0 ∧ a < h.1 ∧ a0 < h.1 ∧ a0 ≠ a ∧ 100 ≤ (am_tg h a).1 ∧ (am_tg h a).1 = (am_tg h a0).1 ∧ ¬ sp < 0 ∧ ¬ dp < 0 ∧ ¬ n < 0 ∧ sp.toNatClampNeg + n.toNatClampNeg ≤ (am_tg h a0).2 ∧ dp.toNatClampNeg + n.toNatClampNeg ≤ (am_tg h a).2 then
        (if (am_tg h a).1 = 100 ∨ (am_tg h a).1 = 103 then some (3, r, am_cpI h a0 sp.toNatClampNeg a dp.toNatClampNeg n.toNatClampNeg)
         else if (am_tg h a).1 = 101 then some (3, r, am_cpL h a0 sp.toNatClampNeg a dp.toNatClampNeg n.toNatClampNeg) else none) else none
    | _, _ => none)
  | _ => none
/-! calls: kind, the callee, its arguments, the rest of the stack -/
def am_cl (own d : Nat) (i : Instr) (st : List Value) (h : am_H) : Option (Nat × List Value × List Value) := match i with
  | .invokevirtual idx => (match am_mkf own idx with
    | some (kd, mj, n) => (match st[n]?, am_mt[mj]? with
      | some (.ref b), some e => if (kd = 0 ∨ kd = 10) ∧ b < h.1 ∧ (am_tg h b).1 = e.1 ∧ 1 ≤ d ∧ ((st.drop (n + 1)).map fun v => v.category).sum ≤ 8 ∧ (am_fl (.ref b :: (st.take n).reverse)).length ≤ e.2.2.2.2.1 ∧ e.2.2.2.2.1 ≤ 41 then some (mj, .ref b :: (st.take n).reverse, st.drop (n + 1)) else none
      | _, _ => none)
    | none => none)
  | .invokespecial idx => (match am_mkf own idx with
    | some (kd, mj, n) => (match st[n]?, am_mt[mj]? with
      | some (.ref b), some e => if (kd = 1 ∨ kd = 11) ∧ 1 ≤ d ∧ ((st.drop (n + 1)).map fun v => v.category).sum ≤ 8 ∧ (am_fl (.ref b :: (st.take n).reverse)).length ≤ e.2.2.2.2.1 ∧ e.2.2.2.2.1 ≤ 41 then some (mj, .ref b :: (st.take n).reverse, st.drop (n + 1)) else none
      | _, _ => none)
    | none => none)
  | .invokestatic idx => (match am_mkf own idx with
    | some (kd, mj, n) => (match am_mt[mj]? with
      | some e => if (kd = 2 ∨ kd = 12) ∧ n ≤ st.length ∧ 1 ≤ d ∧ ((st.drop n).map fun v => v.category).sum ≤ 8 ∧ (am_fl (st.take n).reverse).length ≤ e.2.2.2.2.1 ∧ e.2.2.2.2.1 ≤ 41 then some (mj, (st.take n).reverse, st.drop n) else none
      | none => none)
    | none => none)
  | _ => none
/-! returns -/
def am_rt (ret : Option FieldType) (i : Instr) (st : List Value) : Option (Option Value) := match i with
  | .ireturn => (match ret, st with | some ty, [.int v] => if narrow ty (.int v) = .int v ∧ (ty = .int ∨ ty = .boolean ∨ ty = .char) then some (some (.int v)) else none | _, _ => none)
  | .lreturn => (match ret, st with | some .long, [.long v] => some (some (.long v)) | _, _ => none)
  | .dreturn => (match ret, st with | some .double, [.double v] => some (some (.double v)) | _, _ => none)
  | .areturn => (match ret, st with | some (.object _), [v] => (am_rfo v).map fun _ => some v | some (.array _), [v] => (am_rfo v).map fun _ => some v | _, _ => none)
  | .return_ => (match ret, st with | none, [] => some none | _, _ => none)
  | _ => none
def am : Nat → Nat → Nat → Nat → am_Lo → List Value → am_H → Option (Option Value × am_H)
  | 0, _, _, _, _, _, _ => none
  | n + 1, d, mi, pc, ls, st, h => match am_mt[mi]? with
    | none => none
    | some e => match decode e.2.2.2.1 pc with
      | .error _ => none
      | .ok (i, len) => match am_rt e.2.2.2.2.2 i st with
        | some r => if len = 1 then some (r, h) else none
        | none => match am_ps i st with
          | some (k, st') => if len = k then am n d mi (pc + k) ls st' h else none
          | none => match am_br i pc len st with
            | some (t, st') => am n d mi t ls st' h
            | none => match am_lc i ls st with
              | some (k, ls', st') => if len = k then am n d mi (pc + k) ls' st' h else none
              | none => match am_hp e.1 (e.2.1 == "<init>") d i st h with
                | some (k, st', h') => if len = k then am n d mi (pc + k) ls st' h' else none
                | none => match am_cl e.1 d i st h with
                  | some (mj, as, rest) => (match am_mt[mj]? with
                    | none => none
                    | some e' => match am n (d - 1) mj 0 (am_en e'.2.2.2.2.1 as) [] h with
                      | some (r, h') => if len = 3 then am n d mi (pc + 3) ls (r.toList ++ rest) h' else none
                      | none => none)
                  | none => none

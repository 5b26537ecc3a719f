/-! rows that store a reference: with a reference (r), with null (n) on the stack (by wip/whole/gen_refs.py) -/
section GR
variable {d : Nat} {ls : am_Lo} {st : List Value} {h : am_H} {Q : Option Value → am_H → Prop}
theorem g4_17r {a : Nat} {b : Nat}  (O : am_ob h a 0) (h4 : 4 ≤ a) : am_J d 4 17 ls (.ref b :: .ref a :: st) h Q ↔ am_J d 4 20 ls st (am_setR h a 8 (some b)) Q := g4_17 (x := some b) O h4
theorem g4_17n {a : Nat}   (O : am_ob h a 0) (h4 : 4 ≤ a) : am_J d 4 17 ls (.null :: .ref a :: st) h Q ↔ am_J d 4 20 ls st (am_setR h a 8 none) Q := g4_17 (x := none) O h4
theorem g9_8r {a : Nat} {b : Nat}  (O : am_ob h a 1) (h4 : 4 ≤ a) : am_J d 9 8 ls (.ref b :: .ref a :: st) h Q ↔ am_J d 9 11 ls st (am_setR h a 4 (some b)) Q := g9_8 (x := some b) O h4
theorem g9_8n {a : Nat}   (O : am_ob h a 1) (h4 : 4 ≤ a) : am_J d 9 8 ls (.null :: .ref a :: st) h Q ↔ am_J d 9 11 ls st (am_setR h a 4 none) Q := g9_8 (x := none) O h4
theorem g9_19r {a : Nat} {b : Nat}  (O : am_ob h a 1) (h4 : 4 ≤ a) : am_J d 9 19 ls (.ref b :: .ref a :: st) h Q ↔ am_J d 9 22 ls st (am_setR h a 0 (some b)) Q := g9_19 (x := some b) O h4
theorem g9_19n {a : Nat}   (O : am_ob h a 1) (h4 : 4 ≤ a) : am_J d 9 19 ls (.null :: .ref a :: st) h Q ↔ am_J d 9 22 ls st (am_setR h a 0 none) Q := g9_19 (x := none) O h4
theorem g9_30r {a : Nat} {b : Nat}  (O : am_ob h a 1) (h4 : 4 ≤ a) : am_J d 9 30 ls (.ref b :: .ref a :: st) h Q ↔ am_J d 9 33 ls st (am_setR h a 1 (some b)) Q := g9_30 (x := some b) O h4
theorem g9_30n {a : Nat}   (O : am_ob h a 1) (h4 : 4 ≤ a) : am_J d 9 30 ls (.null :: .ref a :: st) h Q ↔ am_J d 9 33 ls st (am_setR h a 1 none) Q := g9_30 (x := none) O h4
theorem g9_42r {a : Nat} {b : Nat}  (O : am_ob h a 1) (h4 : 4 ≤ a) : am_J d 9 42 ls (.ref b :: .ref a :: st) h Q ↔ am_J d 9 45 ls st (am_setR h a 2 (some b)) Q := g9_42 (x := some b) O h4
theorem g9_42n {a : Nat}   (O : am_ob h a 1) (h4 : 4 ≤ a) : am_J d 9 42 ls (.null :: .ref a :: st) h Q ↔ am_J d 9 45 ls st (am_setR h a 2 none) Q := g9_42 (x := none) O h4
theorem g9_53r {a : Nat} {b : Nat}  (O : am_ob h a 1) (h4 : 4 ≤ a) : am_J d 9 53 ls (.ref b :: .ref a :: st) h Q ↔ am_J d 9 56 ls st (am_setR h a 3 (some b)) Q := g9_53 (x := some b) O h4
theorem g9_53n {a : Nat}   (O : am_ob h a 1) (h4 : 4 ≤ a) : am_J d 9 53 ls (.null :: .ref a :: st) h Q ↔ am_J d 9 56 ls st (am_setR h a 3 none) Q := g9_53 (x := none) O h4
theorem g21_2r {b : Nat}  (S : am_S h) : am_J d 21 2 ls (.ref b :: .ref 302 :: st) h Q ↔ am_J d 21 5 ls st (am_setR h 302 0 (some b)) Q := g21_2 (x := some b) S
theorem g21_2n   (S : am_S h) : am_J d 21 2 ls (.null :: .ref 302 :: st) h Q ↔ am_J d 21 5 ls st (am_setR h 302 0 none) Q := g21_2 (x := none) S
theorem g31_11r {a : Nat} {b : Nat}  (O : am_ob h a 4) (h4 : 4 ≤ a) : am_J d 31 11 ls (.ref b :: .ref a :: st) h Q ↔ am_J d 31 14 ls st (am_setR h a 0 (some b)) Q := g31_11 (x := some b) O h4
theorem g31_11n {a : Nat}   (O : am_ob h a 4) (h4 : 4 ≤ a) : am_J d 31 11 ls (.null :: .ref a :: st) h Q ↔ am_J d 31 14 ls st (am_setR h a 0 none) Q := g31_11 (x := none) O h4
theorem g31_20r {a : Nat} {b : Nat}  (O : am_ob h a 4) (h4 : 4 ≤ a) : am_J d 31 20 ls (.ref b :: .ref a :: st) h Q ↔ am_J d 31 23 ls st (am_setR h a 1 (some b)) Q := g31_20 (x := some b) O h4
theorem g31_20n {a : Nat}   (O : am_ob h a 4) (h4 : 4 ≤ a) : am_J d 31 20 ls (.null :: .ref a :: st) h Q ↔ am_J d 31 23 ls st (am_setR h a 1 none) Q := g31_20 (x := none) O h4
theorem g31_31r {a : Nat} {b : Nat}  (O : am_ob h a 4) (h4 : 4 ≤ a) : am_J d 31 31 ls (.ref b :: .ref a :: st) h Q ↔ am_J d 31 34 ls st (am_setR h a 2 (some b)) Q := g31_31 (x := some b) O h4
theorem g31_31n {a : Nat}   (O : am_ob h a 4) (h4 : 4 ≤ a) : am_J d 31 31 ls (.null :: .ref a :: st) h Q ↔ am_J d 31 34 ls st (am_setR h a 2 none) Q := g31_31 (x := none) O h4
theorem g31_40r {a : Nat} {b : Nat}  (O : am_ob h a 4) (h4 : 4 ≤ a) : am_J d 31 40 ls (.ref b :: .ref a :: st) h Q ↔ am_J d 31 43 ls st (am_setR h a 3 (some b)) Q := g31_40 (x := some b) O h4
theorem g31_40n {a : Nat}   (O : am_ob h a 4) (h4 : 4 ≤ a) : am_J d 31 40 ls (.null :: .ref a :: st) h Q ↔ am_J d 31 43 ls st (am_setR h a 3 none) Q := g31_40 (x := none) O h4
theorem g31_49r {a : Nat} {b : Nat}  (O : am_ob h a 4) (h4 : 4 ≤ a) : am_J d 31 49 ls (.ref b :: .ref a :: st) h Q ↔ am_J d 31 52 ls st (am_setR h a 4 (some b)) Q := g31_49 (x := some b) O h4
theorem g31_49n {a : Nat}   (O : am_ob h a 4) (h4 : 4 ≤ a) : am_J d 31 49 ls (.null :: .ref a :: st) h Q ↔ am_J d 31 52 ls st (am_setR h a 4 none) Q := g31_49 (x := none) O h4
theorem g31_58r {a : Nat} {b : Nat}  (O : am_ob h a 4) (h4 : 4 ≤ a) : am_J d 31 58 ls (.ref b :: .ref a :: st) h Q ↔ am_J d 31 61 ls st (am_setR h a 5 (some b)) Q := g31_58 (x := some b) O h4
theorem g31_58n {a : Nat}   (O : am_ob h a 4) (h4 : 4 ≤ a) : am_J d 31 58 ls (.null :: .ref a :: st) h Q ↔ am_J d 31 61 ls st (am_setR h a 5 none) Q := g31_58 (x := none) O h4
theorem g31_67r {a : Nat} {b : Nat}  (O : am_ob h a 4) (h4 : 4 ≤ a) : am_J d 31 67 ls (.ref b :: .ref a :: st) h Q ↔ am_J d 31 70 ls st (am_setR h a 6 (some b)) Q := g31_67 (x := some b) O h4
theorem g31_67n {a : Nat}   (O : am_ob h a 4) (h4 : 4 ≤ a) : am_J d 31 67 ls (.null :: .ref a :: st) h Q ↔ am_J d 31 70 ls st (am_setR h a 6 none) Q := g31_67 (x := none) O h4
theorem g31_75r {a : Nat} {b : Nat}  (O : am_ob h a 4) (h4 : 4 ≤ a) : am_J d 31 75 ls (.ref b :: .ref a :: st) h Q ↔ am_J d 31 78 ls st (am_setR h a 7 (some b)) Q := g31_75 (x := some b) O h4
theorem g31_75n {a : Nat}   (O : am_ob h a 4) (h4 : 4 ≤ a) : am_J d 31 75 ls (.null :: .ref a :: st) h Q ↔ am_J d 31 78 ls st (am_setR h a 7 none) Q := g31_75 (x := none) O h4
theorem g31_83r {a : Nat} {b : Nat}  (O : am_ob h a 4) (h4 : 4 ≤ a) : am_J d 31 83 ls (.ref b :: .ref a :: st) h Q ↔ am_J d 31 86 ls st (am_setR h a 8 (some b)) Q := g31_83 (x := some b) O h4
theorem g31_83n {a : Nat}   (O : am_ob h a 4) (h4 : 4 ≤ a) : am_J d 31 83 ls (.null :: .ref a :: st) h Q ↔ am_J d 31 86 ls st (am_setR h a 8 none) Q := g31_83 (x := none) O h4
theorem g33_2r {b : Nat}  (S : am_S h) : am_J d 33 2 ls (.ref b :: .ref 9 :: st) h Q ↔ am_J d 33 5 ls st (am_setR h 9 15 (some b)) Q := g33_2 (x := some b) S
theorem g33_2n   (S : am_S h) : am_J d 33 2 ls (.null :: .ref 9 :: st) h Q ↔ am_J d 33 5 ls st (am_setR h 9 15 none) Q := g33_2 (x := none) S
theorem g33_15r {b : Nat}  (S : am_S h) : am_J d 33 15 ls (.ref b :: .ref 9 :: st) h Q ↔ am_J d 33 18 ls st (am_setR h 9 16 (some b)) Q := g33_15 (x := some b) S
theorem g33_15n   (S : am_S h) : am_J d 33 15 ls (.null :: .ref 9 :: st) h Q ↔ am_J d 33 18 ls st (am_setR h 9 16 none) Q := g33_15 (x := none) S
theorem g33_50r {b : Nat}  (S : am_S h) : am_J d 33 50 ls (.ref b :: .ref 9 :: st) h Q ↔ am_J d 33 53 ls st (am_setR h 9 14 (some b)) Q := g33_50 (x := some b) S
theorem g33_50n   (S : am_S h) : am_J d 33 50 ls (.null :: .ref 9 :: st) h Q ↔ am_J d 33 53 ls st (am_setR h 9 14 none) Q := g33_50 (x := none) S
theorem g33_68r {a : Nat} {b : Nat}  (O : am_ob h a 2) (h4 : 4 ≤ a) : am_J d 33 68 ls (.ref b :: .ref a :: st) h Q ↔ am_J d 33 71 ls st (am_setR h a 0 (some b)) Q := g33_68 (x := some b) O h4
theorem g33_68n {a : Nat}   (O : am_ob h a 2) (h4 : 4 ≤ a) : am_J d 33 68 ls (.null :: .ref a :: st) h Q ↔ am_J d 33 71 ls st (am_setR h a 0 none) Q := g33_68 (x := none) O h4
theorem g42_75r {b : Nat}  (S : am_S h) : am_J d 42 75 ls (.ref b :: .ref 9 :: st) h Q ↔ am_J d 42 78 ls st (am_setR h 9 14 (some b)) Q := g42_75 (x := some b) S
theorem g42_75n   (S : am_S h) : am_J d 42 75 ls (.null :: .ref 9 :: st) h Q ↔ am_J d 42 78 ls st (am_setR h 9 14 none) Q := g42_75 (x := none) S
theorem g44_48r {a : Nat} {b : Nat}  (O : am_ob h a 2) (h4 : 4 ≤ a) : am_J d 44 48 ls (.ref b :: .ref a :: st) h Q ↔ am_J d 44 51 ls st (am_setR h a 0 (some b)) Q := g44_48 (x := some b) O h4
theorem g44_48n {a : Nat}   (O : am_ob h a 2) (h4 : 4 ≤ a) : am_J d 44 48 ls (.null :: .ref a :: st) h Q ↔ am_J d 44 51 ls st (am_setR h a 0 none) Q := g44_48 (x := none) O h4
theorem g45_33r {a : Nat} {b : Nat}  (O : am_ob h a 2) (h4 : 4 ≤ a) : am_J d 45 33 ls (.ref b :: .ref a :: st) h Q ↔ am_J d 45 36 ls st (am_setR h a 0 (some b)) Q := g45_33 (x := some b) O h4
theorem g45_33n {a : Nat}   (O : am_ob h a 2) (h4 : 4 ≤ a) : am_J d 45 33 ls (.null :: .ref a :: st) h Q ↔ am_J d 45 36 ls st (am_setR h a 0 none) Q := g45_33 (x := none) O h4
theorem g54_97r {b : Nat}  (S : am_S h) : am_J d 54 97 ls (.ref b :: .ref 9 :: st) h Q ↔ am_J d 54 100 ls st (am_setR h 9 14 (some b)) Q := g54_97 (x := some b) S
theorem g54_97n   (S : am_S h) : am_J d 54 97 ls (.null :: .ref 9 :: st) h Q ↔ am_J d 54 100 ls st (am_setR h 9 14 none) Q := g54_97 (x := none) S
theorem g56_10r {a : Nat} {b : Nat}  (O : am_ob h a 5) (h4 : 4 ≤ a) : am_J d 56 10 ls (.ref b :: .ref a :: st) h Q ↔ am_J d 56 13 ls st (am_setR h a 0 (some b)) Q := g56_10 (x := some b) O h4
theorem g56_10n {a : Nat}   (O : am_ob h a 5) (h4 : 4 ≤ a) : am_J d 56 10 ls (.null :: .ref a :: st) h Q ↔ am_J d 56 13 ls st (am_setR h a 0 none) Q := g56_10 (x := none) O h4
theorem g56_19r {a : Nat} {b : Nat}  (O : am_ob h a 5) (h4 : 4 ≤ a) : am_J d 56 19 ls (.ref b :: .ref a :: st) h Q ↔ am_J d 56 22 ls st (am_setR h a 1 (some b)) Q := g56_19 (x := some b) O h4
theorem g56_19n {a : Nat}   (O : am_ob h a 5) (h4 : 4 ≤ a) : am_J d 56 19 ls (.null :: .ref a :: st) h Q ↔ am_J d 56 22 ls st (am_setR h a 1 none) Q := g56_19 (x := none) O h4
theorem g56_28r {a : Nat} {b : Nat}  (O : am_ob h a 5) (h4 : 4 ≤ a) : am_J d 56 28 ls (.ref b :: .ref a :: st) h Q ↔ am_J d 56 31 ls st (am_setR h a 2 (some b)) Q := g56_28 (x := some b) O h4
theorem g56_28n {a : Nat}   (O : am_ob h a 5) (h4 : 4 ≤ a) : am_J d 56 28 ls (.null :: .ref a :: st) h Q ↔ am_J d 56 31 ls st (am_setR h a 2 none) Q := g56_28 (x := none) O h4
theorem g74_12r {a : Nat} {b : Nat}  (O : am_ob h a 6) (h4 : 4 ≤ a) : am_J d 74 12 ls (.ref b :: .ref a :: st) h Q ↔ am_J d 74 15 ls st (am_setR h a 0 (some b)) Q := g74_12 (x := some b) O h4
theorem g74_12n {a : Nat}   (O : am_ob h a 6) (h4 : 4 ≤ a) : am_J d 74 12 ls (.null :: .ref a :: st) h Q ↔ am_J d 74 15 ls st (am_setR h a 0 none) Q := g74_12 (x := none) O h4
theorem g74_32r {a : Nat} {b : Nat}  (O : am_ob h a 6) (h4 : 4 ≤ a) : am_J d 74 32 ls (.ref b :: .ref a :: st) h Q ↔ am_J d 74 35 ls st (am_setR h a 1 (some b)) Q := g74_32 (x := some b) O h4
theorem g74_32n {a : Nat}   (O : am_ob h a 6) (h4 : 4 ≤ a) : am_J d 74 32 ls (.null :: .ref a :: st) h Q ↔ am_J d 74 35 ls st (am_setR h a 1 none) Q := g74_32 (x := none) O h4
theorem g74_39r {a : Nat} {b : Nat}  (O : am_ob h a 6) (h4 : 4 ≤ a) : am_J d 74 39 ls (.ref b :: .ref a :: st) h Q ↔ am_J d 74 42 ls st (am_setR h a 3 (some b)) Q := g74_39 (x := some b) O h4
theorem g74_39n {a : Nat}   (O : am_ob h a 6) (h4 : 4 ≤ a) : am_J d 74 39 ls (.null :: .ref a :: st) h Q ↔ am_J d 74 42 ls st (am_setR h a 3 none) Q := g74_39 (x := none) O h4
theorem g74_44r {a : Nat} {b : Nat}  (O : am_ob h a 6) (h4 : 4 ≤ a) : am_J d 74 44 ls (.ref b :: .ref a :: st) h Q ↔ am_J d 74 47 ls st (am_setR h a 2 (some b)) Q := g74_44 (x := some b) O h4
theorem g74_44n {a : Nat}   (O : am_ob h a 6) (h4 : 4 ≤ a) : am_J d 74 44 ls (.null :: .ref a :: st) h Q ↔ am_J d 74 47 ls st (am_setR h a 2 none) Q := g74_44 (x := none) O h4
theorem g75_8r {b : Nat}  (S : am_S h) : am_J d 75 8 ls (.ref b :: .ref 301 :: st) h Q ↔ am_J d 75 11 ls st (am_setR h 301 6 (some b)) Q := g75_8 (x := some b) S
theorem g75_8n   (S : am_S h) : am_J d 75 8 ls (.null :: .ref 301 :: st) h Q ↔ am_J d 75 11 ls st (am_setR h 301 6 none) Q := g75_8 (x := none) S
theorem g111_8r {b : Nat}  (S : am_S h) : am_J d 111 8 ls (.ref b :: .ref 301 :: st) h Q ↔ am_J d 111 11 ls st (am_setR h 301 6 (some b)) Q := g111_8 (x := some b) S
theorem g111_8n   (S : am_S h) : am_J d 111 8 ls (.null :: .ref 301 :: st) h Q ↔ am_J d 111 11 ls st (am_setR h 301 6 none) Q := g111_8 (x := none) S
theorem g112_9r {a : Nat} {b : Nat}  (O : am_ob h a 7) (h4 : 4 ≤ a) : am_J d 112 9 ls (.ref b :: .ref a :: st) h Q ↔ am_J d 112 12 ls st (am_setR h a 0 (some b)) Q := g112_9 (x := some b) O h4
theorem g112_9n {a : Nat}   (O : am_ob h a 7) (h4 : 4 ≤ a) : am_J d 112 9 ls (.null :: .ref a :: st) h Q ↔ am_J d 112 12 ls st (am_setR h a 0 none) Q := g112_9 (x := none) O h4
theorem g112_17r {a : Nat} {b : Nat}  (O : am_ob h a 7) (h4 : 4 ≤ a) : am_J d 112 17 ls (.ref b :: .ref a :: st) h Q ↔ am_J d 112 20 ls st (am_setR h a 1 (some b)) Q := g112_17 (x := some b) O h4
theorem g112_17n {a : Nat}   (O : am_ob h a 7) (h4 : 4 ≤ a) : am_J d 112 17 ls (.null :: .ref a :: st) h Q ↔ am_J d 112 20 ls st (am_setR h a 1 none) Q := g112_17 (x := none) O h4
theorem g112_25r {a : Nat} {b : Nat}  (O : am_ob h a 7) (h4 : 4 ≤ a) : am_J d 112 25 ls (.ref b :: .ref a :: st) h Q ↔ am_J d 112 28 ls st (am_setR h a 2 (some b)) Q := g112_25 (x := some b) O h4
theorem g112_25n {a : Nat}   (O : am_ob h a 7) (h4 : 4 ≤ a) : am_J d 112 25 ls (.null :: .ref a :: st) h Q ↔ am_J d 112 28 ls st (am_setR h a 2 none) Q := g112_25 (x := none) O h4
theorem g112_33r {a : Nat} {b : Nat}  (O : am_ob h a 7) (h4 : 4 ≤ a) : am_J d 112 33 ls (.ref b :: .ref a :: st) h Q ↔ am_J d 112 36 ls st (am_setR h a 3 (some b)) Q := g112_33 (x := some b) O h4
theorem g112_33n {a : Nat}   (O : am_ob h a 7) (h4 : 4 ≤ a) : am_J d 112 33 ls (.null :: .ref a :: st) h Q ↔ am_J d 112 36 ls st (am_setR h a 3 none) Q := g112_33 (x := none) O h4
theorem g112_41r {a : Nat} {b : Nat}  (O : am_ob h a 7) (h4 : 4 ≤ a) : am_J d 112 41 ls (.ref b :: .ref a :: st) h Q ↔ am_J d 112 44 ls st (am_setR h a 4 (some b)) Q := g112_41 (x := some b) O h4
theorem g112_41n {a : Nat}   (O : am_ob h a 7) (h4 : 4 ≤ a) : am_J d 112 41 ls (.null :: .ref a :: st) h Q ↔ am_J d 112 44 ls st (am_setR h a 4 none) Q := g112_41 (x := none) O h4
theorem g112_49r {a : Nat} {b : Nat}  (O : am_ob h a 7) (h4 : 4 ≤ a) : am_J d 112 49 ls (.ref b :: .ref a :: st) h Q ↔ am_J d 112 52 ls st (am_setR h a 5 (some b)) Q := g112_49 (x := some b) O h4
theorem g112_49n {a : Nat}   (O : am_ob h a 7) (h4 : 4 ≤ a) : am_J d 112 49 ls (.null :: .ref a :: st) h Q ↔ am_J d 112 52 ls st (am_setR h a 5 none) Q := g112_49 (x := none) O h4
theorem g112_57r {a : Nat} {b : Nat}  (O : am_ob h a 7) (h4 : 4 ≤ a) : am_J d 112 57 ls (.ref b :: .ref a :: st) h Q ↔ am_J d 112 60 ls st (am_setR h a 6 (some b)) Q := g112_57 (x := some b) O h4
theorem g112_57n {a : Nat}   (O : am_ob h a 7) (h4 : 4 ≤ a) : am_J d 112 57 ls (.null :: .ref a :: st) h Q ↔ am_J d 112 60 ls st (am_setR h a 6 none) Q := g112_57 (x := none) O h4
theorem g128_9r {a : Nat} {b : Nat}  (O : am_ob h a 9) (h4 : 4 ≤ a) : am_J d 128 9 ls (.ref b :: .ref a :: st) h Q ↔ am_J d 128 12 ls st (am_setR h a 0 (some b)) Q := g128_9 (x := some b) O h4
theorem g128_9n {a : Nat}   (O : am_ob h a 9) (h4 : 4 ≤ a) : am_J d 128 9 ls (.null :: .ref a :: st) h Q ↔ am_J d 128 12 ls st (am_setR h a 0 none) Q := g128_9 (x := none) O h4
theorem g130_17r {a : Nat} {b : Nat}  (O : am_ob h a 0) (h4 : 4 ≤ a) : am_J d 130 17 ls (.ref b :: .ref a :: st) h Q ↔ am_J d 130 20 ls st (am_setR h a 3 (some b)) Q := g130_17 (x := some b) O h4
theorem g130_17n {a : Nat}   (O : am_ob h a 0) (h4 : 4 ≤ a) : am_J d 130 17 ls (.null :: .ref a :: st) h Q ↔ am_J d 130 20 ls st (am_setR h a 3 none) Q := g130_17 (x := none) O h4
theorem g133_12r {a : Nat} {b : Nat}  (O : am_ob h a 10) (h4 : 4 ≤ a) : am_J d 133 12 ls (.ref b :: .ref a :: st) h Q ↔ am_J d 133 15 ls st (am_setR h a 0 (some b)) Q := g133_12 (x := some b) O h4
theorem g133_12n {a : Nat}   (O : am_ob h a 10) (h4 : 4 ≤ a) : am_J d 133 12 ls (.null :: .ref a :: st) h Q ↔ am_J d 133 15 ls st (am_setR h a 0 none) Q := g133_12 (x := none) O h4
theorem g138_15r {a : Nat} {b : Nat}  (O : am_ob h a 11) (h4 : 4 ≤ a) : am_J d 138 15 ls (.ref b :: .ref a :: st) h Q ↔ am_J d 138 18 ls st (am_setR h a 0 (some b)) Q := g138_15 (x := some b) O h4
theorem g138_15n {a : Nat}   (O : am_ob h a 11) (h4 : 4 ≤ a) : am_J d 138 15 ls (.null :: .ref a :: st) h Q ↔ am_J d 138 18 ls st (am_setR h a 0 none) Q := g138_15 (x := none) O h4
theorem g138_29r {a : Nat} {b : Nat}  (O : am_ob h a 11) (h4 : 4 ≤ a) : am_J d 138 29 ls (.ref b :: .ref a :: st) h Q ↔ am_J d 138 32 ls st (am_setR h a 1 (some b)) Q := g138_29 (x := some b) O h4
theorem g138_29n {a : Nat}   (O : am_ob h a 11) (h4 : 4 ≤ a) : am_J d 138 29 ls (.null :: .ref a :: st) h Q ↔ am_J d 138 32 ls st (am_setR h a 1 none) Q := g138_29 (x := none) O h4
theorem g138_40r {a : Nat} {b : Nat}  (O : am_ob h a 11) (h4 : 4 ≤ a) : am_J d 138 40 ls (.ref b :: .ref a :: st) h Q ↔ am_J d 138 43 ls st (am_setR h a 2 (some b)) Q := g138_40 (x := some b) O h4
theorem g138_40n {a : Nat}   (O : am_ob h a 11) (h4 : 4 ≤ a) : am_J d 138 40 ls (.null :: .ref a :: st) h Q ↔ am_J d 138 43 ls st (am_setR h a 2 none) Q := g138_40 (x := none) O h4
theorem g138_51r {a : Nat} {b : Nat}  (O : am_ob h a 11) (h4 : 4 ≤ a) : am_J d 138 51 ls (.ref b :: .ref a :: st) h Q ↔ am_J d 138 54 ls st (am_setR h a 3 (some b)) Q := g138_51 (x := some b) O h4
theorem g138_51n {a : Nat}   (O : am_ob h a 11) (h4 : 4 ≤ a) : am_J d 138 51 ls (.null :: .ref a :: st) h Q ↔ am_J d 138 54 ls st (am_setR h a 3 none) Q := g138_51 (x := none) O h4
theorem g138_62r {a : Nat} {b : Nat}  (O : am_ob h a 11) (h4 : 4 ≤ a) : am_J d 138 62 ls (.ref b :: .ref a :: st) h Q ↔ am_J d 138 65 ls st (am_setR h a 4 (some b)) Q := g138_62 (x := some b) O h4
theorem g138_62n {a : Nat}   (O : am_ob h a 11) (h4 : 4 ≤ a) : am_J d 138 62 ls (.null :: .ref a :: st) h Q ↔ am_J d 138 65 ls st (am_setR h a 4 none) Q := g138_62 (x := none) O h4
theorem g138_70r {a : Nat} {b : Nat}  (O : am_ob h a 11) (h4 : 4 ≤ a) : am_J d 138 70 ls (.ref b :: .ref a :: st) h Q ↔ am_J d 138 73 ls st (am_setR h a 5 (some b)) Q := g138_70 (x := some b) O h4
theorem g138_70n {a : Nat}   (O : am_ob h a 11) (h4 : 4 ≤ a) : am_J d 138 70 ls (.null :: .ref a :: st) h Q ↔ am_J d 138 73 ls st (am_setR h a 5 none) Q := g138_70 (x := none) O h4
theorem g138_85r {a : Nat} {b : Nat}  (O : am_ob h a 11) (h4 : 4 ≤ a) : am_J d 138 85 ls (.ref b :: .ref a :: st) h Q ↔ am_J d 138 88 ls st (am_setR h a 6 (some b)) Q := g138_85 (x := some b) O h4
theorem g138_85n {a : Nat}   (O : am_ob h a 11) (h4 : 4 ≤ a) : am_J d 138 85 ls (.null :: .ref a :: st) h Q ↔ am_J d 138 88 ls st (am_setR h a 6 none) Q := g138_85 (x := none) O h4
theorem g138_96r {a : Nat} {b : Nat}  (O : am_ob h a 11) (h4 : 4 ≤ a) : am_J d 138 96 ls (.ref b :: .ref a :: st) h Q ↔ am_J d 138 99 ls st (am_setR h a 7 (some b)) Q := g138_96 (x := some b) O h4
theorem g138_96n {a : Nat}   (O : am_ob h a 11) (h4 : 4 ≤ a) : am_J d 138 96 ls (.null :: .ref a :: st) h Q ↔ am_J d 138 99 ls st (am_setR h a 7 none) Q := g138_96 (x := none) O h4
theorem g138_105r {a : Nat} {b : Nat}  (O : am_ob h a 11) (h4 : 4 ≤ a) : am_J d 138 105 ls (.ref b :: .ref a :: st) h Q ↔ am_J d 138 108 ls st (am_setR h a 8 (some b)) Q := g138_105 (x := some b) O h4
theorem g138_105n {a : Nat}   (O : am_ob h a 11) (h4 : 4 ≤ a) : am_J d 138 105 ls (.null :: .ref a :: st) h Q ↔ am_J d 138 108 ls st (am_setR h a 8 none) Q := g138_105 (x := none) O h4
theorem g138_114r {a : Nat} {b : Nat}  (O : am_ob h a 11) (h4 : 4 ≤ a) : am_J d 138 114 ls (.ref b :: .ref a :: st) h Q ↔ am_J d 138 117 ls st (am_setR h a 9 (some b)) Q := g138_114 (x := some b) O h4
theorem g138_114n {a : Nat}   (O : am_ob h a 11) (h4 : 4 ≤ a) : am_J d 138 114 ls (.null :: .ref a :: st) h Q ↔ am_J d 138 117 ls st (am_setR h a 9 none) Q := g138_114 (x := none) O h4
theorem g143_16r {a : Nat} {b : Nat}  (O : am_ob h a 0) (h4 : 4 ≤ a) : am_J d 143 16 ls (.ref b :: .ref a :: st) h Q ↔ am_J d 143 19 ls st (am_setR h a 3 (some b)) Q := g143_16 (x := some b) O h4
theorem g143_16n {a : Nat}   (O : am_ob h a 0) (h4 : 4 ≤ a) : am_J d 143 16 ls (.null :: .ref a :: st) h Q ↔ am_J d 143 19 ls st (am_setR h a 3 none) Q := g143_16 (x := none) O h4
theorem g146_90r {a : Nat} {b : Nat}  (O : am_ob h a 0) (h4 : 4 ≤ a) : am_J d 146 90 ls (.ref b :: .ref a :: st) h Q ↔ am_J d 146 93 ls st (am_setR h a 3 (some b)) Q := g146_90 (x := some b) O h4
theorem g146_90n {a : Nat}   (O : am_ob h a 0) (h4 : 4 ≤ a) : am_J d 146 90 ls (.null :: .ref a :: st) h Q ↔ am_J d 146 93 ls st (am_setR h a 3 none) Q := g146_90 (x := none) O h4
theorem g170_10r {a : Nat} {b : Nat}  (O : am_ob h a 12) (h4 : 4 ≤ a) : am_J d 170 10 ls (.ref b :: .ref a :: st) h Q ↔ am_J d 170 13 ls st (am_setR h a 0 (some b)) Q := g170_10 (x := some b) O h4
theorem g170_10n {a : Nat}   (O : am_ob h a 12) (h4 : 4 ≤ a) : am_J d 170 10 ls (.null :: .ref a :: st) h Q ↔ am_J d 170 13 ls st (am_setR h a 0 none) Q := g170_10 (x := none) O h4
theorem g170_19r {a : Nat} {b : Nat}  (O : am_ob h a 12) (h4 : 4 ≤ a) : am_J d 170 19 ls (.ref b :: .ref a :: st) h Q ↔ am_J d 170 22 ls st (am_setR h a 1 (some b)) Q := g170_19 (x := some b) O h4
theorem g170_19n {a : Nat}   (O : am_ob h a 12) (h4 : 4 ≤ a) : am_J d 170 19 ls (.null :: .ref a :: st) h Q ↔ am_J d 170 22 ls st (am_setR h a 1 none) Q := g170_19 (x := none) O h4
theorem g170_33r {a : Nat} {b : Nat}  (O : am_ob h a 12) (h4 : 4 ≤ a) : am_J d 170 33 ls (.ref b :: .ref a :: st) h Q ↔ am_J d 170 36 ls st (am_setR h a 5 (some b)) Q := g170_33 (x := some b) O h4
theorem g170_33n {a : Nat}   (O : am_ob h a 12) (h4 : 4 ≤ a) : am_J d 170 33 ls (.null :: .ref a :: st) h Q ↔ am_J d 170 36 ls st (am_setR h a 5 none) Q := g170_33 (x := none) O h4
theorem g170_42r {a : Nat} {b : Nat}  (O : am_ob h a 12) (h4 : 4 ≤ a) : am_J d 170 42 ls (.ref b :: .ref a :: st) h Q ↔ am_J d 170 45 ls st (am_setR h a 6 (some b)) Q := g170_42 (x := some b) O h4
theorem g170_42n {a : Nat}   (O : am_ob h a 12) (h4 : 4 ≤ a) : am_J d 170 42 ls (.null :: .ref a :: st) h Q ↔ am_J d 170 45 ls st (am_setR h a 6 none) Q := g170_42 (x := none) O h4
theorem g170_51r {a : Nat} {b : Nat}  (O : am_ob h a 12) (h4 : 4 ≤ a) : am_J d 170 51 ls (.ref b :: .ref a :: st) h Q ↔ am_J d 170 54 ls st (am_setR h a 7 (some b)) Q := g170_51 (x := some b) O h4
theorem g170_51n {a : Nat}   (O : am_ob h a 12) (h4 : 4 ≤ a) : am_J d 170 51 ls (.null :: .ref a :: st) h Q ↔ am_J d 170 54 ls st (am_setR h a 7 none) Q := g170_51 (x := none) O h4
theorem g170_60r {a : Nat} {b : Nat}  (O : am_ob h a 12) (h4 : 4 ≤ a) : am_J d 170 60 ls (.ref b :: .ref a :: st) h Q ↔ am_J d 170 63 ls st (am_setR h a 8 (some b)) Q := g170_60 (x := some b) O h4
theorem g170_60n {a : Nat}   (O : am_ob h a 12) (h4 : 4 ≤ a) : am_J d 170 60 ls (.null :: .ref a :: st) h Q ↔ am_J d 170 63 ls st (am_setR h a 8 none) Q := g170_60 (x := none) O h4
theorem g170_68r {a : Nat} {b : Nat}  (O : am_ob h a 12) (h4 : 4 ≤ a) : am_J d 170 68 ls (.ref b :: .ref a :: st) h Q ↔ am_J d 170 71 ls st (am_setR h a 9 (some b)) Q := g170_68 (x := some b) O h4
theorem g170_68n {a : Nat}   (O : am_ob h a 12) (h4 : 4 ≤ a) : am_J d 170 68 ls (.null :: .ref a :: st) h Q ↔ am_J d 170 71 ls st (am_setR h a 9 none) Q := g170_68 (x := none) O h4
theorem g170_77r {a : Nat} {b : Nat}  (O : am_ob h a 12) (h4 : 4 ≤ a) : am_J d 170 77 ls (.ref b :: .ref a :: st) h Q ↔ am_J d 170 80 ls st (am_setR h a 10 (some b)) Q := g170_77 (x := some b) O h4
theorem g170_77n {a : Nat}   (O : am_ob h a 12) (h4 : 4 ≤ a) : am_J d 170 77 ls (.null :: .ref a :: st) h Q ↔ am_J d 170 80 ls st (am_setR h a 10 none) Q := g170_77 (x := none) O h4
theorem g170_85r {a : Nat} {b : Nat}  (O : am_ob h a 12) (h4 : 4 ≤ a) : am_J d 170 85 ls (.ref b :: .ref a :: st) h Q ↔ am_J d 170 88 ls st (am_setR h a 11 (some b)) Q := g170_85 (x := some b) O h4
theorem g170_85n {a : Nat}   (O : am_ob h a 12) (h4 : 4 ≤ a) : am_J d 170 85 ls (.null :: .ref a :: st) h Q ↔ am_J d 170 88 ls st (am_setR h a 11 none) Q := g170_85 (x := none) O h4
theorem g170_93r {a : Nat} {b : Nat}  (O : am_ob h a 12) (h4 : 4 ≤ a) : am_J d 170 93 ls (.ref b :: .ref a :: st) h Q ↔ am_J d 170 96 ls st (am_setR h a 12 (some b)) Q := g170_93 (x := some b) O h4
theorem g170_93n {a : Nat}   (O : am_ob h a 12) (h4 : 4 ≤ a) : am_J d 170 93 ls (.null :: .ref a :: st) h Q ↔ am_J d 170 96 ls st (am_setR h a 12 none) Q := g170_93 (x := none) O h4
theorem g170_101r {a : Nat} {b : Nat}  (O : am_ob h a 12) (h4 : 4 ≤ a) : am_J d 170 101 ls (.ref b :: .ref a :: st) h Q ↔ am_J d 170 104 ls st (am_setR h a 13 (some b)) Q := g170_101 (x := some b) O h4
theorem g170_101n {a : Nat}   (O : am_ob h a 12) (h4 : 4 ≤ a) : am_J d 170 101 ls (.null :: .ref a :: st) h Q ↔ am_J d 170 104 ls st (am_setR h a 13 none) Q := g170_101 (x := none) O h4
theorem g170_109r {a : Nat} {b : Nat}  (O : am_ob h a 12) (h4 : 4 ≤ a) : am_J d 170 109 ls (.ref b :: .ref a :: st) h Q ↔ am_J d 170 112 ls st (am_setR h a 14 (some b)) Q := g170_109 (x := some b) O h4
theorem g170_109n {a : Nat}   (O : am_ob h a 12) (h4 : 4 ≤ a) : am_J d 170 109 ls (.null :: .ref a :: st) h Q ↔ am_J d 170 112 ls st (am_setR h a 14 none) Q := g170_109 (x := none) O h4
theorem g170_116r {a : Nat} {b : Nat}  (O : am_ob h a 12) (h4 : 4 ≤ a) : am_J d 170 116 ls (.ref b :: .ref a :: st) h Q ↔ am_J d 170 119 ls st (am_setR h a 15 (some b)) Q := g170_116 (x := some b) O h4
theorem g170_116n {a : Nat}   (O : am_ob h a 12) (h4 : 4 ≤ a) : am_J d 170 116 ls (.null :: .ref a :: st) h Q ↔ am_J d 170 119 ls st (am_setR h a 15 none) Q := g170_116 (x := none) O h4
theorem g170_123r {a : Nat} {b : Nat}  (O : am_ob h a 12) (h4 : 4 ≤ a) : am_J d 170 123 ls (.ref b :: .ref a :: st) h Q ↔ am_J d 170 126 ls st (am_setR h a 33 (some b)) Q := g170_123 (x := some b) O h4
theorem g170_123n {a : Nat}   (O : am_ob h a 12) (h4 : 4 ≤ a) : am_J d 170 123 ls (.null :: .ref a :: st) h Q ↔ am_J d 170 126 ls st (am_setR h a 33 none) Q := g170_123 (x := none) O h4
theorem g170_131r {a : Nat} {b : Nat}  (O : am_ob h a 12) (h4 : 4 ≤ a) : am_J d 170 131 ls (.ref b :: .ref a :: st) h Q ↔ am_J d 170 134 ls st (am_setR h a 34 (some b)) Q := g170_131 (x := some b) O h4
theorem g170_131n {a : Nat}   (O : am_ob h a 12) (h4 : 4 ≤ a) : am_J d 170 131 ls (.null :: .ref a :: st) h Q ↔ am_J d 170 134 ls st (am_setR h a 34 none) Q := g170_131 (x := none) O h4
theorem g170_140r {a : Nat} {b : Nat}  (O : am_ob h a 12) (h4 : 4 ≤ a) : am_J d 170 140 ls (.ref b :: .ref a :: st) h Q ↔ am_J d 170 143 ls st (am_setR h a 35 (some b)) Q := g170_140 (x := some b) O h4
theorem g170_140n {a : Nat}   (O : am_ob h a 12) (h4 : 4 ≤ a) : am_J d 170 140 ls (.null :: .ref a :: st) h Q ↔ am_J d 170 143 ls st (am_setR h a 35 none) Q := g170_140 (x := none) O h4
theorem g170_149r {a : Nat} {b : Nat}  (O : am_ob h a 12) (h4 : 4 ≤ a) : am_J d 170 149 ls (.ref b :: .ref a :: st) h Q ↔ am_J d 170 152 ls st (am_setR h a 36 (some b)) Q := g170_149 (x := some b) O h4
theorem g170_149n {a : Nat}   (O : am_ob h a 12) (h4 : 4 ≤ a) : am_J d 170 149 ls (.null :: .ref a :: st) h Q ↔ am_J d 170 152 ls st (am_setR h a 36 none) Q := g170_149 (x := none) O h4
theorem g170_158r {a : Nat} {b : Nat}  (O : am_ob h a 12) (h4 : 4 ≤ a) : am_J d 170 158 ls (.ref b :: .ref a :: st) h Q ↔ am_J d 170 161 ls st (am_setR h a 37 (some b)) Q := g170_158 (x := some b) O h4
theorem g170_158n {a : Nat}   (O : am_ob h a 12) (h4 : 4 ≤ a) : am_J d 170 158 ls (.null :: .ref a :: st) h Q ↔ am_J d 170 161 ls st (am_setR h a 37 none) Q := g170_158 (x := none) O h4
theorem g170_167r {a : Nat} {b : Nat}  (O : am_ob h a 12) (h4 : 4 ≤ a) : am_J d 170 167 ls (.ref b :: .ref a :: st) h Q ↔ am_J d 170 170 ls st (am_setR h a 38 (some b)) Q := g170_167 (x := some b) O h4
theorem g170_167n {a : Nat}   (O : am_ob h a 12) (h4 : 4 ≤ a) : am_J d 170 167 ls (.null :: .ref a :: st) h Q ↔ am_J d 170 170 ls st (am_setR h a 38 none) Q := g170_167 (x := none) O h4
theorem g170_177r {a : Nat} {b : Nat}  (O : am_ob h a 12) (h4 : 4 ≤ a) : am_J d 170 177 ls (.ref b :: .ref a :: st) h Q ↔ am_J d 170 180 ls st (am_setR h a 39 (some b)) Q := g170_177 (x := some b) O h4
theorem g170_177n {a : Nat}   (O : am_ob h a 12) (h4 : 4 ≤ a) : am_J d 170 177 ls (.null :: .ref a :: st) h Q ↔ am_J d 170 180 ls st (am_setR h a 39 none) Q := g170_177 (x := none) O h4
theorem g170_186r {a : Nat} {b : Nat}  (O : am_ob h a 12) (h4 : 4 ≤ a) : am_J d 170 186 ls (.ref b :: .ref a :: st) h Q ↔ am_J d 170 189 ls st (am_setR h a 40 (some b)) Q := g170_186 (x := some b) O h4
theorem g170_186n {a : Nat}   (O : am_ob h a 12) (h4 : 4 ≤ a) : am_J d 170 186 ls (.null :: .ref a :: st) h Q ↔ am_J d 170 189 ls st (am_setR h a 40 none) Q := g170_186 (x := none) O h4
theorem g170_195r {a : Nat} {b : Nat}  (O : am_ob h a 12) (h4 : 4 ≤ a) : am_J d 170 195 ls (.ref b :: .ref a :: st) h Q ↔ am_J d 170 198 ls st (am_setR h a 41 (some b)) Q := g170_195 (x := some b) O h4
theorem g170_195n {a : Nat}   (O : am_ob h a 12) (h4 : 4 ≤ a) : am_J d 170 195 ls (.null :: .ref a :: st) h Q ↔ am_J d 170 198 ls st (am_setR h a 41 none) Q := g170_195 (x := none) O h4
theorem g170_204r {a : Nat} {b : Nat}  (O : am_ob h a 12) (h4 : 4 ≤ a) : am_J d 170 204 ls (.ref b :: .ref a :: st) h Q ↔ am_J d 170 207 ls st (am_setR h a 42 (some b)) Q := g170_204 (x := some b) O h4
theorem g170_204n {a : Nat}   (O : am_ob h a 12) (h4 : 4 ≤ a) : am_J d 170 204 ls (.null :: .ref a :: st) h Q ↔ am_J d 170 207 ls st (am_setR h a 42 none) Q := g170_204 (x := none) O h4
theorem g170_213r {a : Nat} {b : Nat}  (O : am_ob h a 12) (h4 : 4 ≤ a) : am_J d 170 213 ls (.ref b :: .ref a :: st) h Q ↔ am_J d 170 216 ls st (am_setR h a 43 (some b)) Q := g170_213 (x := some b) O h4
theorem g170_213n {a : Nat}   (O : am_ob h a 12) (h4 : 4 ≤ a) : am_J d 170 213 ls (.null :: .ref a :: st) h Q ↔ am_J d 170 216 ls st (am_setR h a 43 none) Q := g170_213 (x := none) O h4
theorem g170_221r {a : Nat} {b : Nat}  (O : am_ob h a 12) (h4 : 4 ≤ a) : am_J d 170 221 ls (.ref b :: .ref a :: st) h Q ↔ am_J d 170 224 ls st (am_setR h a 44 (some b)) Q := g170_221 (x := some b) O h4
theorem g170_221n {a : Nat}   (O : am_ob h a 12) (h4 : 4 ≤ a) : am_J d 170 221 ls (.null :: .ref a :: st) h Q ↔ am_J d 170 224 ls st (am_setR h a 44 none) Q := g170_221 (x := none) O h4
theorem g170_230r {a : Nat} {b : Nat}  (O : am_ob h a 12) (h4 : 4 ≤ a) : am_J d 170 230 ls (.ref b :: .ref a :: st) h Q ↔ am_J d 170 233 ls st (am_setR h a 45 (some b)) Q := g170_230 (x := some b) O h4
theorem g170_230n {a : Nat}   (O : am_ob h a 12) (h4 : 4 ≤ a) : am_J d 170 230 ls (.null :: .ref a :: st) h Q ↔ am_J d 170 233 ls st (am_setR h a 45 none) Q := g170_230 (x := none) O h4
theorem g170_239r {a : Nat} {b : Nat}  (O : am_ob h a 12) (h4 : 4 ≤ a) : am_J d 170 239 ls (.ref b :: .ref a :: st) h Q ↔ am_J d 170 242 ls st (am_setR h a 46 (some b)) Q := g170_239 (x := some b) O h4
theorem g170_239n {a : Nat}   (O : am_ob h a 12) (h4 : 4 ≤ a) : am_J d 170 239 ls (.null :: .ref a :: st) h Q ↔ am_J d 170 242 ls st (am_setR h a 46 none) Q := g170_239 (x := none) O h4
theorem g170_247r {a : Nat} {b : Nat}  (O : am_ob h a 12) (h4 : 4 ≤ a) : am_J d 170 247 ls (.ref b :: .ref a :: st) h Q ↔ am_J d 170 250 ls st (am_setR h a 47 (some b)) Q := g170_247 (x := some b) O h4
theorem g170_247n {a : Nat}   (O : am_ob h a 12) (h4 : 4 ≤ a) : am_J d 170 247 ls (.null :: .ref a :: st) h Q ↔ am_J d 170 250 ls st (am_setR h a 47 none) Q := g170_247 (x := none) O h4
theorem g170_254r {a : Nat} {b : Nat}  (O : am_ob h a 12) (h4 : 4 ≤ a) : am_J d 170 254 ls (.ref b :: .ref a :: st) h Q ↔ am_J d 170 257 ls st (am_setR h a 48 (some b)) Q := g170_254 (x := some b) O h4
theorem g170_254n {a : Nat}   (O : am_ob h a 12) (h4 : 4 ≤ a) : am_J d 170 254 ls (.null :: .ref a :: st) h Q ↔ am_J d 170 257 ls st (am_setR h a 48 none) Q := g170_254 (x := none) O h4
theorem g170_262r {a : Nat} {b : Nat}  (O : am_ob h a 12) (h4 : 4 ≤ a) : am_J d 170 262 ls (.ref b :: .ref a :: st) h Q ↔ am_J d 170 265 ls st (am_setR h a 50 (some b)) Q := g170_262 (x := some b) O h4
theorem g170_262n {a : Nat}   (O : am_ob h a 12) (h4 : 4 ≤ a) : am_J d 170 262 ls (.null :: .ref a :: st) h Q ↔ am_J d 170 265 ls st (am_setR h a 50 none) Q := g170_262 (x := none) O h4
theorem g170_270r {a : Nat} {b : Nat}  (O : am_ob h a 12) (h4 : 4 ≤ a) : am_J d 170 270 ls (.ref b :: .ref a :: st) h Q ↔ am_J d 170 273 ls st (am_setR h a 51 (some b)) Q := g170_270 (x := some b) O h4
theorem g170_270n {a : Nat}   (O : am_ob h a 12) (h4 : 4 ≤ a) : am_J d 170 270 ls (.null :: .ref a :: st) h Q ↔ am_J d 170 273 ls st (am_setR h a 51 none) Q := g170_270 (x := none) O h4
theorem g170_277r {a : Nat} {b : Nat}  (O : am_ob h a 12) (h4 : 4 ≤ a) : am_J d 170 277 ls (.ref b :: .ref a :: st) h Q ↔ am_J d 170 280 ls st (am_setR h a 52 (some b)) Q := g170_277 (x := some b) O h4
theorem g170_277n {a : Nat}   (O : am_ob h a 12) (h4 : 4 ≤ a) : am_J d 170 277 ls (.null :: .ref a :: st) h Q ↔ am_J d 170 280 ls st (am_setR h a 52 none) Q := g170_277 (x := none) O h4
theorem g170_284r {a : Nat} {b : Nat}  (O : am_ob h a 12) (h4 : 4 ≤ a) : am_J d 170 284 ls (.ref b :: .ref a :: st) h Q ↔ am_J d 170 287 ls st (am_setR h a 53 (some b)) Q := g170_284 (x := some b) O h4
theorem g170_284n {a : Nat}   (O : am_ob h a 12) (h4 : 4 ≤ a) : am_J d 170 284 ls (.null :: .ref a :: st) h Q ↔ am_J d 170 287 ls st (am_setR h a 53 none) Q := g170_284 (x := none) O h4
theorem g170_292r {a : Nat} {b : Nat}  (O : am_ob h a 12) (h4 : 4 ≤ a) : am_J d 170 292 ls (.ref b :: .ref a :: st) h Q ↔ am_J d 170 295 ls st (am_setR h a 54 (some b)) Q := g170_292 (x := some b) O h4
theorem g170_292n {a : Nat}   (O : am_ob h a 12) (h4 : 4 ≤ a) : am_J d 170 292 ls (.null :: .ref a :: st) h Q ↔ am_J d 170 295 ls st (am_setR h a 54 none) Q := g170_292 (x := none) O h4
theorem g170_300r {a : Nat} {b : Nat}  (O : am_ob h a 12) (h4 : 4 ≤ a) : am_J d 170 300 ls (.ref b :: .ref a :: st) h Q ↔ am_J d 170 303 ls st (am_setR h a 55 (some b)) Q := g170_300 (x := some b) O h4
theorem g170_300n {a : Nat}   (O : am_ob h a 12) (h4 : 4 ≤ a) : am_J d 170 300 ls (.null :: .ref a :: st) h Q ↔ am_J d 170 303 ls st (am_setR h a 55 none) Q := g170_300 (x := none) O h4
theorem g170_309r {a : Nat} {b : Nat}  (O : am_ob h a 12) (h4 : 4 ≤ a) : am_J d 170 309 ls (.ref b :: .ref a :: st) h Q ↔ am_J d 170 312 ls st (am_setR h a 67 (some b)) Q := g170_309 (x := some b) O h4
theorem g170_309n {a : Nat}   (O : am_ob h a 12) (h4 : 4 ≤ a) : am_J d 170 309 ls (.null :: .ref a :: st) h Q ↔ am_J d 170 312 ls st (am_setR h a 67 none) Q := g170_309 (x := none) O h4
theorem g170_318r {a : Nat} {b : Nat}  (O : am_ob h a 12) (h4 : 4 ≤ a) : am_J d 170 318 ls (.ref b :: .ref a :: st) h Q ↔ am_J d 170 321 ls st (am_setR h a 68 (some b)) Q := g170_318 (x := some b) O h4
theorem g170_318n {a : Nat}   (O : am_ob h a 12) (h4 : 4 ≤ a) : am_J d 170 318 ls (.null :: .ref a :: st) h Q ↔ am_J d 170 321 ls st (am_setR h a 68 none) Q := g170_318 (x := none) O h4
theorem g170_327r {a : Nat} {b : Nat}  (O : am_ob h a 12) (h4 : 4 ≤ a) : am_J d 170 327 ls (.ref b :: .ref a :: st) h Q ↔ am_J d 170 330 ls st (am_setR h a 69 (some b)) Q := g170_327 (x := some b) O h4
theorem g170_327n {a : Nat}   (O : am_ob h a 12) (h4 : 4 ≤ a) : am_J d 170 327 ls (.null :: .ref a :: st) h Q ↔ am_J d 170 330 ls st (am_setR h a 69 none) Q := g170_327 (x := none) O h4
theorem g170_335r {a : Nat} {b : Nat}  (O : am_ob h a 12) (h4 : 4 ≤ a) : am_J d 170 335 ls (.ref b :: .ref a :: st) h Q ↔ am_J d 170 338 ls st (am_setR h a 71 (some b)) Q := g170_335 (x := some b) O h4
theorem g170_335n {a : Nat}   (O : am_ob h a 12) (h4 : 4 ≤ a) : am_J d 170 335 ls (.null :: .ref a :: st) h Q ↔ am_J d 170 338 ls st (am_setR h a 71 none) Q := g170_335 (x := none) O h4
theorem g170_343r {a : Nat} {b : Nat}  (O : am_ob h a 12) (h4 : 4 ≤ a) : am_J d 170 343 ls (.ref b :: .ref a :: st) h Q ↔ am_J d 170 346 ls st (am_setR h a 72 (some b)) Q := g170_343 (x := some b) O h4
theorem g170_343n {a : Nat}   (O : am_ob h a 12) (h4 : 4 ≤ a) : am_J d 170 343 ls (.null :: .ref a :: st) h Q ↔ am_J d 170 346 ls st (am_setR h a 72 none) Q := g170_343 (x := none) O h4
theorem g170_352r {a : Nat} {b : Nat}  (O : am_ob h a 12) (h4 : 4 ≤ a) : am_J d 170 352 ls (.ref b :: .ref a :: st) h Q ↔ am_J d 170 355 ls st (am_setR h a 73 (some b)) Q := g170_352 (x := some b) O h4
theorem g170_352n {a : Nat}   (O : am_ob h a 12) (h4 : 4 ≤ a) : am_J d 170 352 ls (.null :: .ref a :: st) h Q ↔ am_J d 170 355 ls st (am_setR h a 73 none) Q := g170_352 (x := none) O h4
theorem g170_361r {a : Nat} {b : Nat}  (O : am_ob h a 12) (h4 : 4 ≤ a) : am_J d 170 361 ls (.ref b :: .ref a :: st) h Q ↔ am_J d 170 364 ls st (am_setR h a 74 (some b)) Q := g170_361 (x := some b) O h4
theorem g170_361n {a : Nat}   (O : am_ob h a 12) (h4 : 4 ≤ a) : am_J d 170 361 ls (.null :: .ref a :: st) h Q ↔ am_J d 170 364 ls st (am_setR h a 74 none) Q := g170_361 (x := none) O h4
theorem g170_370r {a : Nat} {b : Nat}  (O : am_ob h a 12) (h4 : 4 ≤ a) : am_J d 170 370 ls (.ref b :: .ref a :: st) h Q ↔ am_J d 170 373 ls st (am_setR h a 75 (some b)) Q := g170_370 (x := some b) O h4
theorem g170_370n {a : Nat}   (O : am_ob h a 12) (h4 : 4 ≤ a) : am_J d 170 370 ls (.null :: .ref a :: st) h Q ↔ am_J d 170 373 ls st (am_setR h a 75 none) Q := g170_370 (x := none) O h4
theorem g170_378r {a : Nat} {b : Nat}  (O : am_ob h a 12) (h4 : 4 ≤ a) : am_J d 170 378 ls (.ref b :: .ref a :: st) h Q ↔ am_J d 170 381 ls st (am_setR h a 76 (some b)) Q := g170_378 (x := some b) O h4
theorem g170_378n {a : Nat}   (O : am_ob h a 12) (h4 : 4 ≤ a) : am_J d 170 378 ls (.null :: .ref a :: st) h Q ↔ am_J d 170 381 ls st (am_setR h a 76 none) Q := g170_378 (x := none) O h4
theorem g170_386r {a : Nat} {b : Nat}  (O : am_ob h a 12) (h4 : 4 ≤ a) : am_J d 170 386 ls (.ref b :: .ref a :: st) h Q ↔ am_J d 170 389 ls st (am_setR h a 77 (some b)) Q := g170_386 (x := some b) O h4
theorem g170_386n {a : Nat}   (O : am_ob h a 12) (h4 : 4 ≤ a) : am_J d 170 386 ls (.null :: .ref a :: st) h Q ↔ am_J d 170 389 ls st (am_setR h a 77 none) Q := g170_386 (x := none) O h4
theorem g170_396r {a : Nat} {b : Nat}  (O : am_ob h a 12) (h4 : 4 ≤ a) : am_J d 170 396 ls (.ref b :: .ref a :: st) h Q ↔ am_J d 170 399 ls st (am_setR h a 78 (some b)) Q := g170_396 (x := some b) O h4
theorem g170_396n {a : Nat}   (O : am_ob h a 12) (h4 : 4 ≤ a) : am_J d 170 396 ls (.null :: .ref a :: st) h Q ↔ am_J d 170 399 ls st (am_setR h a 78 none) Q := g170_396 (x := none) O h4
theorem g170_405r {a : Nat} {b : Nat}  (O : am_ob h a 12) (h4 : 4 ≤ a) : am_J d 170 405 ls (.ref b :: .ref a :: st) h Q ↔ am_J d 170 408 ls st (am_setR h a 79 (some b)) Q := g170_405 (x := some b) O h4
theorem g170_405n {a : Nat}   (O : am_ob h a 12) (h4 : 4 ≤ a) : am_J d 170 405 ls (.null :: .ref a :: st) h Q ↔ am_J d 170 408 ls st (am_setR h a 79 none) Q := g170_405 (x := none) O h4
theorem g170_414r {a : Nat} {b : Nat}  (O : am_ob h a 12) (h4 : 4 ≤ a) : am_J d 170 414 ls (.ref b :: .ref a :: st) h Q ↔ am_J d 170 417 ls st (am_setR h a 80 (some b)) Q := g170_414 (x := some b) O h4
theorem g170_414n {a : Nat}   (O : am_ob h a 12) (h4 : 4 ≤ a) : am_J d 170 414 ls (.null :: .ref a :: st) h Q ↔ am_J d 170 417 ls st (am_setR h a 80 none) Q := g170_414 (x := none) O h4
theorem g170_423r {a : Nat} {b : Nat}  (O : am_ob h a 12) (h4 : 4 ≤ a) : am_J d 170 423 ls (.ref b :: .ref a :: st) h Q ↔ am_J d 170 426 ls st (am_setR h a 84 (some b)) Q := g170_423 (x := some b) O h4
theorem g170_423n {a : Nat}   (O : am_ob h a 12) (h4 : 4 ≤ a) : am_J d 170 423 ls (.null :: .ref a :: st) h Q ↔ am_J d 170 426 ls st (am_setR h a 84 none) Q := g170_423 (x := none) O h4
theorem g170_432r {a : Nat} {b : Nat}  (O : am_ob h a 12) (h4 : 4 ≤ a) : am_J d 170 432 ls (.ref b :: .ref a :: st) h Q ↔ am_J d 170 435 ls st (am_setR h a 85 (some b)) Q := g170_432 (x := some b) O h4
theorem g170_432n {a : Nat}   (O : am_ob h a 12) (h4 : 4 ≤ a) : am_J d 170 432 ls (.null :: .ref a :: st) h Q ↔ am_J d 170 435 ls st (am_setR h a 85 none) Q := g170_432 (x := none) O h4
theorem g170_441r {a : Nat} {b : Nat}  (O : am_ob h a 12) (h4 : 4 ≤ a) : am_J d 170 441 ls (.ref b :: .ref a :: st) h Q ↔ am_J d 170 444 ls st (am_setR h a 87 (some b)) Q := g170_441 (x := some b) O h4
theorem g170_441n {a : Nat}   (O : am_ob h a 12) (h4 : 4 ≤ a) : am_J d 170 441 ls (.null :: .ref a :: st) h Q ↔ am_J d 170 444 ls st (am_setR h a 87 none) Q := g170_441 (x := none) O h4
theorem g170_450r {a : Nat} {b : Nat}  (O : am_ob h a 12) (h4 : 4 ≤ a) : am_J d 170 450 ls (.ref b :: .ref a :: st) h Q ↔ am_J d 170 453 ls st (am_setR h a 88 (some b)) Q := g170_450 (x := some b) O h4
theorem g170_450n {a : Nat}   (O : am_ob h a 12) (h4 : 4 ≤ a) : am_J d 170 450 ls (.null :: .ref a :: st) h Q ↔ am_J d 170 453 ls st (am_setR h a 88 none) Q := g170_450 (x := none) O h4
end GR

/-! ifnull, ifnonnull: with a reference (r), with null (n) on the stack (by wip/whole/gen_null.py) -/
section GNU
variable {d : Nat} {ls : am_Lo} {st : List Value} {h : am_H} {Q : Option Value → am_H → Prop}
theorem g4_9r {e : Nat} : am_J d 4 9 ls (.ref e :: st) h Q ↔ am_J d 4 20 ls st h Q := by have := g4_9 (d := d) (ls := ls) (st := st) (h := h) (Q := Q) (r := some e); rw [if_neg (fun q => by cases q)] at this; exact this
theorem g4_9n : am_J d 4 9 ls (.null :: st) h Q ↔ am_J d 4 12 ls st h Q := by have := g4_9 (d := d) (ls := ls) (st := st) (h := h) (Q := Q) (r := none); rw [if_pos rfl] at this; exact this
theorem g5_4r {e : Nat} : am_J d 5 4 ls (.ref e :: st) h Q ↔ am_J d 5 7 ls st h Q := by have := g5_4 (d := d) (ls := ls) (st := st) (h := h) (Q := Q) (r := some e); rw [if_neg (fun q => by cases q)] at this; exact this
theorem g5_4n : am_J d 5 4 ls (.null :: st) h Q ↔ am_J d 5 36 ls st h Q := by have := g5_4 (d := d) (ls := ls) (st := st) (h := h) (Q := Q) (r := none); rw [if_pos rfl] at this; exact this
theorem g18_132r {e : Nat} : am_J d 18 132 ls [.ref e] h Q ↔ Q (some (.ref e)) h := g18_132 (r := some e)
theorem g32_39r {e : Nat} : am_J d 32 39 ls (.ref e :: st) h Q ↔ am_J d 32 42 ls st h Q := by have := g32_39 (d := d) (ls := ls) (st := st) (h := h) (Q := Q) (r := some e); rw [if_neg (fun q => by cases q)] at this; exact this
theorem g32_39n : am_J d 32 39 ls (.null :: st) h Q ↔ am_J d 32 66 ls st h Q := by have := g32_39 (d := d) (ls := ls) (st := st) (h := h) (Q := Q) (r := none); rw [if_pos rfl] at this; exact this
theorem g54_21r {e : Nat} : am_J d 54 21 ls (.ref e :: st) h Q ↔ am_J d 54 30 ls st h Q := by have := g54_21 (d := d) (ls := ls) (st := st) (h := h) (Q := Q) (r := some e); rw [if_neg (fun q => by cases q)] at this; exact this
theorem g54_21n : am_J d 54 21 ls (.null :: st) h Q ↔ am_J d 54 24 ls st h Q := by have := g54_21 (d := d) (ls := ls) (st := st) (h := h) (Q := Q) (r := none); rw [if_pos rfl] at this; exact this
theorem g55_4r {e : Nat} : am_J d 55 4 ls (.ref e :: st) h Q ↔ am_J d 55 7 ls st h Q := by have := g55_4 (d := d) (ls := ls) (st := st) (h := h) (Q := Q) (r := some e); rw [if_neg (fun q => by cases q)] at this; exact this
theorem g55_4n : am_J d 55 4 ls (.null :: st) h Q ↔ am_J d 55 39 ls st h Q := by have := g55_4 (d := d) (ls := ls) (st := st) (h := h) (Q := Q) (r := none); rw [if_pos rfl] at this; exact this
theorem g95_62r {e : Nat} : am_J d 95 62 ls (.ref e :: st) h Q ↔ am_J d 95 65 ls st h Q := by have := g95_62 (d := d) (ls := ls) (st := st) (h := h) (Q := Q) (r := some e); rw [if_neg (fun q => by cases q)] at this; exact this
theorem g95_62n : am_J d 95 62 ls (.null :: st) h Q ↔ am_J d 95 88 ls st h Q := by have := g95_62 (d := d) (ls := ls) (st := st) (h := h) (Q := Q) (r := none); rw [if_pos rfl] at this; exact this
theorem g110_14r {e : Nat} : am_J d 110 14 ls (.ref e :: st) h Q ↔ am_J d 110 17 ls st h Q := by have := g110_14 (d := d) (ls := ls) (st := st) (h := h) (Q := Q) (r := some e); rw [if_neg (fun q => by cases q)] at this; exact this
theorem g110_14n : am_J d 110 14 ls (.null :: st) h Q ↔ am_J d 110 40 ls st h Q := by have := g110_14 (d := d) (ls := ls) (st := st) (h := h) (Q := Q) (r := none); rw [if_pos rfl] at this; exact this
theorem g110_57r {e : Nat} : am_J d 110 57 ls (.ref e :: st) h Q ↔ am_J d 110 60 ls st h Q := by have := g110_57 (d := d) (ls := ls) (st := st) (h := h) (Q := Q) (r := some e); rw [if_neg (fun q => by cases q)] at this; exact this
theorem g110_57n : am_J d 110 57 ls (.null :: st) h Q ↔ am_J d 110 82 ls st h Q := by have := g110_57 (d := d) (ls := ls) (st := st) (h := h) (Q := Q) (r := none); rw [if_pos rfl] at this; exact this
theorem g113_20r {e : Nat} : am_J d 113 20 ls (.ref e :: st) h Q ↔ am_J d 113 23 ls st h Q := by have := g113_20 (d := d) (ls := ls) (st := st) (h := h) (Q := Q) (r := some e); rw [if_neg (fun q => by cases q)] at this; exact this
theorem g113_20n : am_J d 113 20 ls (.null :: st) h Q ↔ am_J d 113 52 ls st h Q := by have := g113_20 (d := d) (ls := ls) (st := st) (h := h) (Q := Q) (r := none); rw [if_pos rfl] at this; exact this
theorem g114_15r {e : Nat} : am_J d 114 15 ls (.ref e :: st) h Q ↔ am_J d 114 18 ls st h Q := by have := g114_15 (d := d) (ls := ls) (st := st) (h := h) (Q := Q) (r := some e); rw [if_neg (fun q => by cases q)] at this; exact this
theorem g114_15n : am_J d 114 15 ls (.null :: st) h Q ↔ am_J d 114 45 ls st h Q := by have := g114_15 (d := d) (ls := ls) (st := st) (h := h) (Q := Q) (r := none); rw [if_pos rfl] at this; exact this
theorem g118_6r {e : Nat} : am_J d 118 6 ls (.ref e :: st) h Q ↔ am_J d 118 11 ls st h Q := by have := g118_6 (d := d) (ls := ls) (st := st) (h := h) (Q := Q) (r := some e); rw [if_neg (fun q => by cases q)] at this; exact this
theorem g118_6n : am_J d 118 6 ls (.null :: st) h Q ↔ am_J d 118 9 ls st h Q := by have := g118_6 (d := d) (ls := ls) (st := st) (h := h) (Q := Q) (r := none); rw [if_pos rfl] at this; exact this
theorem g129_32r {e : Nat} : am_J d 129 32 ls (.ref e :: st) h Q ↔ am_J d 129 35 ls st h Q := by have := g129_32 (d := d) (ls := ls) (st := st) (h := h) (Q := Q) (r := some e); rw [if_neg (fun q => by cases q)] at this; exact this
theorem g129_32n : am_J d 129 32 ls (.null :: st) h Q ↔ am_J d 129 48 ls st h Q := by have := g129_32 (d := d) (ls := ls) (st := st) (h := h) (Q := Q) (r := none); rw [if_pos rfl] at this; exact this
theorem g131_28r {e : Nat} : am_J d 131 28 ls (.ref e :: st) h Q ↔ am_J d 131 31 ls st h Q := by have := g131_28 (d := d) (ls := ls) (st := st) (h := h) (Q := Q) (r := some e); rw [if_neg (fun q => by cases q)] at this; exact this
theorem g131_28n : am_J d 131 28 ls (.null :: st) h Q ↔ am_J d 131 43 ls st h Q := by have := g131_28 (d := d) (ls := ls) (st := st) (h := h) (Q := Q) (r := none); rw [if_pos rfl] at this; exact this
theorem g143_11r {e : Nat} : am_J d 143 11 ls (.ref e :: st) h Q ↔ am_J d 143 14 ls st h Q := by have := g143_11 (d := d) (ls := ls) (st := st) (h := h) (Q := Q) (r := some e); rw [if_neg (fun q => by cases q)] at this; exact this
theorem g143_11n : am_J d 143 11 ls (.null :: st) h Q ↔ am_J d 143 29 ls st h Q := by have := g143_11 (d := d) (ls := ls) (st := st) (h := h) (Q := Q) (r := none); rw [if_pos rfl] at this; exact this
theorem g143_40r {e : Nat} : am_J d 143 40 ls [.ref e] h Q ↔ Q (some (.ref e)) h := g143_40 (r := some e)
theorem g146_54r {e : Nat} : am_J d 146 54 ls (.ref e :: st) h Q ↔ am_J d 146 79 ls st h Q := by have := g146_54 (d := d) (ls := ls) (st := st) (h := h) (Q := Q) (r := some e); rw [if_neg (fun q => by cases q)] at this; exact this
theorem g146_54n : am_J d 146 54 ls (.null :: st) h Q ↔ am_J d 146 57 ls st h Q := by have := g146_54 (d := d) (ls := ls) (st := st) (h := h) (Q := Q) (r := none); rw [if_pos rfl] at this; exact this
theorem g151_20r {e : Nat} : am_J d 151 20 ls (.ref e :: st) h Q ↔ am_J d 151 26 ls st h Q := by have := g151_20 (d := d) (ls := ls) (st := st) (h := h) (Q := Q) (r := some e); rw [if_neg (fun q => by cases q)] at this; exact this
theorem g151_20n : am_J d 151 20 ls (.null :: st) h Q ↔ am_J d 151 23 ls st h Q := by have := g151_20 (d := d) (ls := ls) (st := st) (h := h) (Q := Q) (r := none); rw [if_pos rfl] at this; exact this
theorem g155_18r {e : Nat} : am_J d 155 18 ls (.ref e :: st) h Q ↔ am_J d 155 21 ls st h Q := by have := g155_18 (d := d) (ls := ls) (st := st) (h := h) (Q := Q) (r := some e); rw [if_neg (fun q => by cases q)] at this; exact this
theorem g155_18n : am_J d 155 18 ls (.null :: st) h Q ↔ am_J d 155 39 ls st h Q := by have := g155_18 (d := d) (ls := ls) (st := st) (h := h) (Q := Q) (r := none); rw [if_pos rfl] at this; exact this
theorem g155_69r {e : Nat} : am_J d 155 69 ls (.ref e :: st) h Q ↔ am_J d 155 72 ls st h Q := by have := g155_69 (d := d) (ls := ls) (st := st) (h := h) (Q := Q) (r := some e); rw [if_neg (fun q => by cases q)] at this; exact this
theorem g155_69n : am_J d 155 69 ls (.null :: st) h Q ↔ am_J d 155 92 ls st h Q := by have := g155_69 (d := d) (ls := ls) (st := st) (h := h) (Q := Q) (r := none); rw [if_pos rfl] at this; exact this
theorem g157_41r {e : Nat} : am_J d 157 41 ls (.ref e :: st) h Q ↔ am_J d 157 44 ls st h Q := by have := g157_41 (d := d) (ls := ls) (st := st) (h := h) (Q := Q) (r := some e); rw [if_neg (fun q => by cases q)] at this; exact this
theorem g157_41n : am_J d 157 41 ls (.null :: st) h Q ↔ am_J d 157 54 ls st h Q := by have := g157_41 (d := d) (ls := ls) (st := st) (h := h) (Q := Q) (r := none); rw [if_pos rfl] at this; exact this
theorem g163_20r {e : Nat} : am_J d 163 20 ls (.ref e :: st) h Q ↔ am_J d 163 23 ls st h Q := by have := g163_20 (d := d) (ls := ls) (st := st) (h := h) (Q := Q) (r := some e); rw [if_neg (fun q => by cases q)] at this; exact this
theorem g163_20n : am_J d 163 20 ls (.null :: st) h Q ↔ am_J d 163 35 ls st h Q := by have := g163_20 (d := d) (ls := ls) (st := st) (h := h) (Q := Q) (r := none); rw [if_pos rfl] at this; exact this
theorem g164_40r {e : Nat} : am_J d 164 40 ls (.ref e :: st) h Q ↔ am_J d 164 43 ls st h Q := by have := g164_40 (d := d) (ls := ls) (st := st) (h := h) (Q := Q) (r := some e); rw [if_neg (fun q => by cases q)] at this; exact this
theorem g164_40n : am_J d 164 40 ls (.null :: st) h Q ↔ am_J d 164 62 ls st h Q := by have := g164_40 (d := d) (ls := ls) (st := st) (h := h) (Q := Q) (r := none); rw [if_pos rfl] at this; exact this
theorem g166_20r {e : Nat} : am_J d 166 20 ls (.ref e :: st) h Q ↔ am_J d 166 23 ls st h Q := by have := g166_20 (d := d) (ls := ls) (st := st) (h := h) (Q := Q) (r := some e); rw [if_neg (fun q => by cases q)] at this; exact this
theorem g166_20n : am_J d 166 20 ls (.null :: st) h Q ↔ am_J d 166 35 ls st h Q := by have := g166_20 (d := d) (ls := ls) (st := st) (h := h) (Q := Q) (r := none); rw [if_pos rfl] at this; exact this
theorem g171_22r {e : Nat} : am_J d 171 22 ls [.ref e] h Q ↔ Q (some (.ref e)) h := g171_22 (r := some e)
end GNU

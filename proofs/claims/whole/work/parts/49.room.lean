/-! the room: what the walk may take of it (the room's own numbers stand in the statement; these are below them) -/
theorem rmC {n : Nat} (h : n ≤ 3000) : n ≤ room_1.cells := Nat.le_trans h (Nat.le_of_ble_eq_true rfl)
theorem rmS {n : Nat} (h : n ≤ 12000) : n ≤ room_1.slots := Nat.le_trans h (Nat.le_of_ble_eq_true rfl)

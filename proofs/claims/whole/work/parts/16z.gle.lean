/-- a room of `b - k` from `k` on holds what ends by `b` -/
theorem gz_le {a k b : Nat} (h1 : Nat.ble k b = true) (h : Nat.ble a b = true) : a ≤ k + (b - k) := by
  have := Nat.le_of_ble_eq_true h1; have := Nat.le_of_ble_eq_true h; omega

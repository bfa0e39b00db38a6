theorem gv_rng {r M : Int32} {N : Nat} (h0 : ¬ r < 0) (h1 : ¬ M ≤ r) (hM : M.toInt = N) : vp_in r N := by
  rw [vp_in_iff]
  have a := Int32.le_iff_toInt_le.mp (Int32.not_lt.mp h0)
  have b := Int32.lt_iff_toInt_lt.mp (Int32.not_le.mp h1)
  rw [hM] at b
  exact ⟨by simpa using a, b⟩
/-- the sum of a row of numbers -/
def gsum (f : Nat → Int32) : Nat → Int32
  | 0 => 1
  | k + 1 => 31 * gsum f k + f k

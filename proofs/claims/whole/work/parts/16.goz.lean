theorem gv_rng2 {r M : Int32} {N : Nat} (h0 : ¬ r < 0) (h1 : r < M) (hM : M.toInt = N) : vp_in r N := gv_rng h0 (Int32.not_le.mpr h1) hM
theorem gv_rng3 {r M : Int32} {N : Nat} (h0 : ¬ r < 0) (h1 : r ≤ M) (hM : M.toInt + 1 = N) : vp_in r N := by
  rw [vp_in_iff]
  have a := Int32.le_iff_toInt_le.mp (Int32.not_lt.mp h0)
  have b := Int32.le_iff_toInt_le.mp h1
  exact ⟨by simpa using a, by omega⟩
/-- a place of a shelf: 8 to each of 4 -/
theorem gv_sh {x y : Int32} (hx0 : ¬ x < 0) (hx : x < 4) (hy0 : ¬ y < 0) (hy : y < 8) : ∃ j : Nat, j < 32 ∧ x * 8 + y = nI j := by
  obtain ⟨i, hi, rfl⟩ := nI_of2 (M := 3) (n := 3) (by decide) hx0 (by
    rw [Int32.le_iff_toInt_le]
    have := Int32.lt_iff_toInt_lt.mp hx
    have e : (4 : Int32).toInt = 4 := by decide
    have e3 : (3 : Int32).toInt = 3 := by decide
    omega)
  obtain ⟨j, hj, rfl⟩ := nI_of2 (M := 7) (n := 7) (by decide) hy0 (by
    rw [Int32.le_iff_toInt_le]
    have := Int32.lt_iff_toInt_lt.mp hy
    have e : (8 : Int32).toInt = 8 := by decide
    have e3 : (7 : Int32).toInt = 7 := by decide
    omega)
  refine ⟨i * 8 + j, by omega, ?_⟩
  rw [show (8 : Int32) = nI 8 from by decide, pk_mul, nI_add]
theorem gv_sh_in {x y : Int32} (hx0 : ¬ x < 0) (hx : x < 4) (hy0 : ¬ y < 0) (hy : y < 8) : vp_in (x * 8 + y) 32 := by
  obtain ⟨j, hj, e⟩ := gv_sh hx0 hx hy0 hy
  rw [e]
  exact vp_in_nI hj (by decide)

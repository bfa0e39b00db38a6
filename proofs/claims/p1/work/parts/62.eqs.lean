/-! the law's cases, laid by wip/tools/lawcases.py -/
abbrev sc (G : gG) (i : Nat) : Int32 := G.2.2.2.2.2.2.2 i
theorem gi_z {P : Prop} {d : Decidable P} : ((@ite Int32 P d 1 0) = 0) ↔ ¬ P := by
  by_cases h : P
  · simp [h]
  · simp [h]
theorem gi_z1 {P Q : Prop} {d : Decidable P} {d' : Decidable Q} : ((@ite Int32 P d 0 (@ite Int32 Q d' 0 1)) = 0) ↔ (P ∨ Q) := by
  by_cases h : P
  · simp [h]
  · by_cases h2 : Q
    · simp [h, h2]
    · simp [h, h2]
theorem gj_zero (x : Int32) : 0 + x = x := Int32.zero_add x
theorem gj_six {x : Int32} (h : 5 < x) : 6 ≤ x := by
  rw [Int32.le_iff_toInt_le]
  have a := Int32.lt_iff_toInt_lt.mp h
  have e5 : (5 : Int32).toInt = 5 := by decide
  have e6 : (6 : Int32).toInt = 6 := by decide
  omega
theorem gj_row {q : Nat} (hq : q ≤ 300) (h : 2 + nI q ≤ 256) : q ≤ 254 := by
  rw [show (2 : Int32) = nI 2 from by decide, nI_add, show (256 : Int32) = nI 256 from by decide, nI_leI (by omega) (by decide)] at h
  omega
theorem gj_tab {q : Nat} (hq : q ≤ 300) (h : 2 + 2 * nI q ≤ 256) : q ≤ 254 := by
  rw [show (2 : Int32) = nI 2 from by decide, pk_mul, nI_add, show (256 : Int32) = nI 256 from by decide, nI_leI (by omega) (by decide)] at h
  omega
theorem eq_size (x1 : Int32) : ((if x1 < 16 then (-102) else (if x1 ≤ 4000 then 1 else (-102))) : Int32) = (if (if 16 ≤ x1 ∧ x1 ≤ 4000 then (1 : Int32) else 0) = 0 then (-102) else 1) := by
  have a0 : (-102 : Int32).toInt = -102 := by decide
  have a1 : (0 : Int32).toInt = 0 := by decide
  have a2 : (1 : Int32).toInt = 1 := by decide
  have a3 : (16 : Int32).toInt = 16 := by decide
  have a4 : (4000 : Int32).toInt = 4000 := by decide
  simp only [gi_z, gi_z1, Int32.lt_iff_toInt_lt, Int32.le_iff_toInt_le, ← Int32.toInt_inj, a0, a1, a2, a3, a4]
  repeat' split
  all_goals first | rfl | (exfalso; omega) | omega
theorem eq_root (x1 : Int32) (x2 : Int32) : ((if x2 = (-1) then (if x1 < 0 then (-101) else (if 24 ≤ x1 then (-101) else (-1))) else (-101)) : Int32) = (if x2 = (-1) then (if (if 0 ≤ x1 ∧ x1 ≤ 23 then (1 : Int32) else 0) = 0 then (-101) else (-1)) else (-101)) := by
  have a0 : (-101 : Int32).toInt = -101 := by decide
  have a1 : (-1 : Int32).toInt = -1 := by decide
  have a2 : (0 : Int32).toInt = 0 := by decide
  have a3 : (1 : Int32).toInt = 1 := by decide
  have a4 : (23 : Int32).toInt = 23 := by decide
  have a5 : (24 : Int32).toInt = 24 := by decide
  simp only [gi_z, gi_z1, Int32.lt_iff_toInt_lt, Int32.le_iff_toInt_le, ← Int32.toInt_inj, a0, a1, a2, a3, a4, a5]
  repeat' split
  all_goals first | rfl | (exfalso; omega) | omega
theorem eq_rootOf (x1 : Int32) : ((if x1 < 0 then (-101) else (if x1 < 24 then (-1) else (-101))) : Int32) = (if (if 0 ≤ x1 ∧ x1 ≤ 23 then (1 : Int32) else 0) = 0 then (-101) else (-1)) := by
  have a0 : (-101 : Int32).toInt = -101 := by decide
  have a1 : (-1 : Int32).toInt = -1 := by decide
  have a2 : (0 : Int32).toInt = 0 := by decide
  have a3 : (1 : Int32).toInt = 1 := by decide
  have a4 : (23 : Int32).toInt = 23 := by decide
  have a5 : (24 : Int32).toInt = 24 := by decide
  simp only [gi_z, gi_z1, Int32.lt_iff_toInt_lt, Int32.le_iff_toInt_le, ← Int32.toInt_inj, a0, a1, a2, a3, a4, a5]
  repeat' split
  all_goals first | rfl | (exfalso; omega) | omega
theorem eq_shelve (x1 : Int32) (x2 : Int32) (x3 : Int32) : ((if x3 = (-1) then (if x2 < 0 then (if x1 < 0 then (-101) else (if 4 ≤ x1 then (-101) else (-12))) else (if x2 < 8 then (if x1 < 0 then (-101) else (if 4 ≤ x1 then (-101) else 1)) else (if x1 < 0 then (-101) else (if 4 ≤ x1 then (-101) else (-12))))) else (-101)) : Int32) = (if x3 = (-1) then (if (if 0 ≤ x2 ∧ x2 ≤ 7 then (1 : Int32) else 0) = 0 then (if (if 0 ≤ x1 ∧ x1 ≤ 3 then (1 : Int32) else 0) = 0 then (-101) else (-12)) else (if (if 0 ≤ x1 ∧ x1 ≤ 3 then (1 : Int32) else 0) = 0 then (-101) else 1)) else (-101)) := by
  have a0 : (-101 : Int32).toInt = -101 := by decide
  have a1 : (-12 : Int32).toInt = -12 := by decide
  have a2 : (-1 : Int32).toInt = -1 := by decide
  have a3 : (0 : Int32).toInt = 0 := by decide
  have a4 : (1 : Int32).toInt = 1 := by decide
  have a5 : (3 : Int32).toInt = 3 := by decide
  have a6 : (4 : Int32).toInt = 4 := by decide
  have a7 : (7 : Int32).toInt = 7 := by decide
  have a8 : (8 : Int32).toInt = 8 := by decide
  simp only [gi_z, gi_z1, Int32.lt_iff_toInt_lt, Int32.le_iff_toInt_le, ← Int32.toInt_inj, a0, a1, a2, a3, a4, a5, a6, a7, a8]
  repeat' split
  all_goals first | rfl | (exfalso; omega) | omega
theorem eq_shelf (x1 : Int32) (x2 : Int32) : ((if x1 < 0 then (-101) else (if x1 < 4 then (if x2 < 0 then (-12) else (if x2 < 8 then (-1) else (-12))) else (-101))) : Int32) = (if (if 0 ≤ x1 ∧ x1 ≤ 3 then (1 : Int32) else 0) = 0 then (-101) else (if (if 0 ≤ x2 ∧ x2 ≤ 7 then (1 : Int32) else 0) = 0 then (-12) else (-1))) := by
  have a0 : (-101 : Int32).toInt = -101 := by decide
  have a1 : (-12 : Int32).toInt = -12 := by decide
  have a2 : (-1 : Int32).toInt = -1 := by decide
  have a3 : (0 : Int32).toInt = 0 := by decide
  have a4 : (1 : Int32).toInt = 1 := by decide
  have a5 : (3 : Int32).toInt = 3 := by decide
  have a6 : (4 : Int32).toInt = 4 := by decide
  have a7 : (7 : Int32).toInt = 7 := by decide
  have a8 : (8 : Int32).toInt = 8 := by decide
  simp only [gi_z, gi_z1, Int32.lt_iff_toInt_lt, Int32.le_iff_toInt_le, ← Int32.toInt_inj, a0, a1, a2, a3, a4, a5, a6, a7, a8]
  repeat' split
  all_goals first | rfl | (exfalso; omega) | omega
theorem eq_step (x1 : Int32) : ((if x1 < 0 then (-102) else (if x1 ≤ 1000 then 0 else (-102))) : Int32) = (if (if 0 ≤ x1 ∧ x1 ≤ 1000 then (1 : Int32) else 0) = 0 then (-102) else 0) := by
  have a0 : (-102 : Int32).toInt = -102 := by decide
  have a1 : (0 : Int32).toInt = 0 := by decide
  have a2 : (1 : Int32).toInt = 1 := by decide
  have a3 : (1000 : Int32).toInt = 1000 := by decide
  simp only [gi_z, gi_z1, Int32.lt_iff_toInt_lt, Int32.le_iff_toInt_le, ← Int32.toInt_inj, a0, a1, a2, a3]
  repeat' split
  all_goals first | rfl | (exfalso; omega) | omega
theorem eq_told (x2 : Int32) : ((if x2 < 0 then (-102) else (if x2 < 3 then (-1) else (-102))) : Int32) = (if (if 0 ≤ x2 ∧ x2 ≤ 2 then (1 : Int32) else 0) = 0 then (-102) else (-1)) := by
  have a0 : (-102 : Int32).toInt = -102 := by decide
  have a1 : (-1 : Int32).toInt = -1 := by decide
  have a2 : (0 : Int32).toInt = 0 := by decide
  have a3 : (1 : Int32).toInt = 1 := by decide
  have a4 : (2 : Int32).toInt = 2 := by decide
  have a5 : (3 : Int32).toInt = 3 := by decide
  simp only [gi_z, gi_z1, Int32.lt_iff_toInt_lt, Int32.le_iff_toInt_le, ← Int32.toInt_inj, a0, a1, a2, a3, a4, a5]
  repeat' split
  all_goals first | rfl | (exfalso; omega) | omega
theorem eq_word (x1 : Int32) : ((if x1 < 0 then (-102) else (if x1 < 256 then 0 else (-102))) : Int32) = (if (if 0 ≤ x1 ∧ x1 ≤ 255 then (1 : Int32) else 0) = 0 then (-102) else 0) := by
  have a0 : (-102 : Int32).toInt = -102 := by decide
  have a1 : (0 : Int32).toInt = 0 := by decide
  have a2 : (1 : Int32).toInt = 1 := by decide
  have a3 : (255 : Int32).toInt = 255 := by decide
  have a4 : (256 : Int32).toInt = 256 := by decide
  simp only [gi_z, gi_z1, Int32.lt_iff_toInt_lt, Int32.le_iff_toInt_le, ← Int32.toInt_inj, a0, a1, a2, a3, a4]
  repeat' split
  all_goals first | rfl | (exfalso; omega) | omega
theorem eq_run (x1 : Int32) : ((if x1 < 0 then (-102) else (if x1 ≤ 200 then (-104) else (-102))) : Int32) = (if (if 0 ≤ x1 ∧ x1 ≤ 200 then (1 : Int32) else 0) = 0 then (-102) else (-104)) := by
  have a0 : (-104 : Int32).toInt = -104 := by decide
  have a1 : (-102 : Int32).toInt = -102 := by decide
  have a2 : (0 : Int32).toInt = 0 := by decide
  have a3 : (1 : Int32).toInt = 1 := by decide
  have a4 : (200 : Int32).toInt = 200 := by decide
  simp only [gi_z, gi_z1, Int32.lt_iff_toInt_lt, Int32.le_iff_toInt_le, ← Int32.toInt_inj, a0, a1, a2, a3, a4]
  repeat' split
  all_goals first | rfl | (exfalso; omega) | omega
theorem eq_register (x1 : Int32) : ((if x1 < 0 then (-101) else (if x1 < 8 then (-1) else (-101))) : Int32) = (if (if 0 ≤ x1 ∧ x1 ≤ 7 then (1 : Int32) else 0) = 0 then (-101) else (-1)) := by
  have a0 : (-101 : Int32).toInt = -101 := by decide
  have a1 : (-1 : Int32).toInt = -1 := by decide
  have a2 : (0 : Int32).toInt = 0 := by decide
  have a3 : (1 : Int32).toInt = 1 := by decide
  have a4 : (7 : Int32).toInt = 7 := by decide
  have a5 : (8 : Int32).toInt = 8 := by decide
  simp only [gi_z, gi_z1, Int32.lt_iff_toInt_lt, Int32.le_iff_toInt_le, ← Int32.toInt_inj, a0, a1, a2, a3, a4, a5]
  repeat' split
  all_goals first | rfl | (exfalso; omega) | omega
theorem eq_trace (x1 : Int32) : ((if x1 < 0 then (-101) else (if x1 < 14 then 0 else (-101))) : Int32) = (if (if 0 ≤ x1 ∧ x1 ≤ 13 then (1 : Int32) else 0) = 0 then (-101) else 0) := by
  have a0 : (-101 : Int32).toInt = -101 := by decide
  have a1 : (0 : Int32).toInt = 0 := by decide
  have a2 : (1 : Int32).toInt = 1 := by decide
  have a3 : (13 : Int32).toInt = 13 := by decide
  have a4 : (14 : Int32).toInt = 14 := by decide
  simp only [gi_z, gi_z1, Int32.lt_iff_toInt_lt, Int32.le_iff_toInt_le, ← Int32.toInt_inj, a0, a1, a2, a3, a4]
  repeat' split
  all_goals first | rfl | (exfalso; omega) | omega
theorem eq_act_0 (x2 : Int32) (x3 : Int32) (x4 : Int32) : ((if (if x2 < 0 then (1 : Int32) else (if x2 < 8 then (0 : Int32) else 1)) = 0 then (if (if x3 < 0 then (1 : Int32) else (if 6 ≤ x3 then (1 : Int32) else (if (if x3 = 1 then (1 : Int32) else (if x3 = 2 then (1 : Int32) else (if x3 = 5 then (1 : Int32) else 0))) = 0 then (0 : Int32) else (if x4 ≤ 300 then (0 : Int32) else 1)))) = 0 then 1 else (-102)) else (-101)) : Int32) = (if (if 0 ≤ x2 ∧ x2 ≤ 7 then (1 : Int32) else 0) = 0 then (-101) else (if (if 0 ≤ x3 ∧ x3 ≤ 5 then (1 : Int32) else 0) = 0 then (-102) else (if (if x3 = 1 then (1 : Int32) else (if x3 = 2 then (1 : Int32) else (if x3 = 5 then (1 : Int32) else 0))) = 0 then 1 else (if 300 < x4 then (-102) else 1)))) := by
  have a0 : (-102 : Int32).toInt = -102 := by decide
  have a1 : (-101 : Int32).toInt = -101 := by decide
  have a2 : (0 : Int32).toInt = 0 := by decide
  have a3 : (1 : Int32).toInt = 1 := by decide
  have a4 : (2 : Int32).toInt = 2 := by decide
  have a5 : (5 : Int32).toInt = 5 := by decide
  have a6 : (6 : Int32).toInt = 6 := by decide
  have a7 : (7 : Int32).toInt = 7 := by decide
  have a8 : (8 : Int32).toInt = 8 := by decide
  have a9 : (300 : Int32).toInt = 300 := by decide
  simp only [gi_z, gi_z1, Int32.lt_iff_toInt_lt, Int32.le_iff_toInt_le, ← Int32.toInt_inj, a0, a1, a2, a3, a4, a5, a6, a7, a8, a9]
  repeat' split
  all_goals first | rfl | (exfalso; omega) | omega
theorem eq_act_1 (x2 : Int32) (x4 : Int32) : ((if (if x2 < 0 then (1 : Int32) else (if x2 < 8 then (0 : Int32) else 1)) = 0 then (if (if x4 < 0 then (1 : Int32) else (if x4 < 8 then (0 : Int32) else 1)) = 0 then 1 else (-101)) else (-101)) : Int32) = (if (if (if 0 ≤ x2 ∧ x2 ≤ 7 then (1 : Int32) else 0) = 0 then (0 : Int32) else (if (if 0 ≤ x4 ∧ x4 ≤ 7 then (1 : Int32) else 0) = 0 then (0 : Int32) else 1)) = 0 then (-101) else 1) := by
  have a0 : (-101 : Int32).toInt = -101 := by decide
  have a1 : (0 : Int32).toInt = 0 := by decide
  have a2 : (1 : Int32).toInt = 1 := by decide
  have a3 : (7 : Int32).toInt = 7 := by decide
  have a4 : (8 : Int32).toInt = 8 := by decide
  simp only [gi_z, gi_z1, Int32.lt_iff_toInt_lt, Int32.le_iff_toInt_le, ← Int32.toInt_inj, a0, a1, a2, a3, a4]
  repeat' split
  all_goals first | rfl | (exfalso; omega) | omega
theorem eq_act_2 (x2 : Int32) (x4 : Int32) : ((if (if x2 < 0 then (1 : Int32) else (if x2 < 8 then (0 : Int32) else 1)) = 0 then (if (if x4 < 0 then (1 : Int32) else (if x4 < 8 then (0 : Int32) else 1)) = 0 then 1 else (-101)) else (-101)) : Int32) = (if (if (if 0 ≤ x2 ∧ x2 ≤ 7 then (1 : Int32) else 0) = 0 then (0 : Int32) else (if (if 0 ≤ x4 ∧ x4 ≤ 7 then (1 : Int32) else 0) = 0 then (0 : Int32) else 1)) = 0 then (-101) else 1) := by
  have a0 : (-101 : Int32).toInt = -101 := by decide
  have a1 : (0 : Int32).toInt = 0 := by decide
  have a2 : (1 : Int32).toInt = 1 := by decide
  have a3 : (7 : Int32).toInt = 7 := by decide
  have a4 : (8 : Int32).toInt = 8 := by decide
  simp only [gi_z, gi_z1, Int32.lt_iff_toInt_lt, Int32.le_iff_toInt_le, ← Int32.toInt_inj, a0, a1, a2, a3, a4]
  repeat' split
  all_goals first | rfl | (exfalso; omega) | omega
theorem eq_act_3 (x2 : Int32) (x3 : Int32) : ((if (if x2 < 0 then (1 : Int32) else (if x2 < 24 then (0 : Int32) else 1)) = 0 then (if (if x3 < 0 then (1 : Int32) else (if x3 < 8 then (0 : Int32) else 1)) = 0 then 1 else (-101)) else (-101)) : Int32) = (if (if (if 0 ≤ x2 ∧ x2 ≤ 23 then (1 : Int32) else 0) = 0 then (0 : Int32) else (if (if 0 ≤ x3 ∧ x3 ≤ 7 then (1 : Int32) else 0) = 0 then (0 : Int32) else 1)) = 0 then (-101) else 1) := by
  have a0 : (-101 : Int32).toInt = -101 := by decide
  have a1 : (0 : Int32).toInt = 0 := by decide
  have a2 : (1 : Int32).toInt = 1 := by decide
  have a3 : (7 : Int32).toInt = 7 := by decide
  have a4 : (8 : Int32).toInt = 8 := by decide
  have a5 : (23 : Int32).toInt = 23 := by decide
  have a6 : (24 : Int32).toInt = 24 := by decide
  simp only [gi_z, gi_z1, Int32.lt_iff_toInt_lt, Int32.le_iff_toInt_le, ← Int32.toInt_inj, a0, a1, a2, a3, a4, a5, a6]
  repeat' split
  all_goals first | rfl | (exfalso; omega) | omega
theorem eq_act_4 (x2 : Int32) (x3 : Int32) : ((if (if x2 < 0 then (1 : Int32) else (if x2 < 24 then (0 : Int32) else 1)) = 0 then (if (if x3 < 0 then (1 : Int32) else (if x3 < 8 then (0 : Int32) else 1)) = 0 then 1 else (-101)) else (-101)) : Int32) = (if (if (if 0 ≤ x2 ∧ x2 ≤ 23 then (1 : Int32) else 0) = 0 then (0 : Int32) else (if (if 0 ≤ x3 ∧ x3 ≤ 7 then (1 : Int32) else 0) = 0 then (0 : Int32) else 1)) = 0 then (-101) else 1) := by
  have a0 : (-101 : Int32).toInt = -101 := by decide
  have a1 : (0 : Int32).toInt = 0 := by decide
  have a2 : (1 : Int32).toInt = 1 := by decide
  have a3 : (7 : Int32).toInt = 7 := by decide
  have a4 : (8 : Int32).toInt = 8 := by decide
  have a5 : (23 : Int32).toInt = 23 := by decide
  have a6 : (24 : Int32).toInt = 24 := by decide
  simp only [gi_z, gi_z1, Int32.lt_iff_toInt_lt, Int32.le_iff_toInt_le, ← Int32.toInt_inj, a0, a1, a2, a3, a4, a5, a6]
  repeat' split
  all_goals first | rfl | (exfalso; omega) | omega
theorem eq_act_5 (x2 : Int32) (x3 : Int32) : ((if (if x2 < 0 then (1 : Int32) else (if x2 < 8 then (0 : Int32) else 1)) = 0 then (if (if x3 < 0 then (1 : Int32) else (if x3 < 8 then (0 : Int32) else 1)) = 0 then 1 else (-101)) else (-101)) : Int32) = (if (if (if 0 ≤ x2 ∧ x2 ≤ 7 then (1 : Int32) else 0) = 0 then (0 : Int32) else (if (if 0 ≤ x3 ∧ x3 ≤ 7 then (1 : Int32) else 0) = 0 then (0 : Int32) else 1)) = 0 then (-101) else 1) := by
  have a0 : (-101 : Int32).toInt = -101 := by decide
  have a1 : (0 : Int32).toInt = 0 := by decide
  have a2 : (1 : Int32).toInt = 1 := by decide
  have a3 : (7 : Int32).toInt = 7 := by decide
  have a4 : (8 : Int32).toInt = 8 := by decide
  simp only [gi_z, gi_z1, Int32.lt_iff_toInt_lt, Int32.le_iff_toInt_le, ← Int32.toInt_inj, a0, a1, a2, a3, a4]
  repeat' split
  all_goals first | rfl | (exfalso; omega) | omega
theorem eq_act_6 (x2 : Int32) (x3 : Int32) : ((if (if x2 < 0 then (1 : Int32) else (if x2 < 8 then (0 : Int32) else 1)) = 0 then (if (if x3 < 0 then (1 : Int32) else (if x3 < 8 then (0 : Int32) else 1)) = 0 then 1 else (-101)) else (-101)) : Int32) = (if (if (if 0 ≤ x2 ∧ x2 ≤ 7 then (1 : Int32) else 0) = 0 then (0 : Int32) else (if (if 0 ≤ x3 ∧ x3 ≤ 7 then (1 : Int32) else 0) = 0 then (0 : Int32) else 1)) = 0 then (-101) else 1) := by
  have a0 : (-101 : Int32).toInt = -101 := by decide
  have a1 : (0 : Int32).toInt = 0 := by decide
  have a2 : (1 : Int32).toInt = 1 := by decide
  have a3 : (7 : Int32).toInt = 7 := by decide
  have a4 : (8 : Int32).toInt = 8 := by decide
  simp only [gi_z, gi_z1, Int32.lt_iff_toInt_lt, Int32.le_iff_toInt_le, ← Int32.toInt_inj, a0, a1, a2, a3, a4]
  repeat' split
  all_goals first | rfl | (exfalso; omega) | omega
theorem eq_act_7 (x2 : Int32) (x4 : Int32) : ((if (if x2 < 0 then (1 : Int32) else (if x2 < 8 then (0 : Int32) else 1)) = 0 then (if (if x4 < 0 then (1 : Int32) else (if x4 < 8 then (0 : Int32) else 1)) = 0 then 1 else (-101)) else (-101)) : Int32) = (if (if (if 0 ≤ x2 ∧ x2 ≤ 7 then (1 : Int32) else 0) = 0 then (0 : Int32) else (if (if 0 ≤ x4 ∧ x4 ≤ 7 then (1 : Int32) else 0) = 0 then (0 : Int32) else 1)) = 0 then (-101) else 1) := by
  have a0 : (-101 : Int32).toInt = -101 := by decide
  have a1 : (0 : Int32).toInt = 0 := by decide
  have a2 : (1 : Int32).toInt = 1 := by decide
  have a3 : (7 : Int32).toInt = 7 := by decide
  have a4 : (8 : Int32).toInt = 8 := by decide
  simp only [gi_z, gi_z1, Int32.lt_iff_toInt_lt, Int32.le_iff_toInt_le, ← Int32.toInt_inj, a0, a1, a2, a3, a4]
  repeat' split
  all_goals first | rfl | (exfalso; omega) | omega
theorem eq_act_8 (x2 : Int32) : ((if (if x2 < 0 then (1 : Int32) else (if x2 < 8 then (0 : Int32) else 1)) = 0 then 1 else (-101)) : Int32) = (if (if 0 ≤ x2 ∧ x2 ≤ 7 then (1 : Int32) else 0) = 0 then (-101) else 1) := by
  have a0 : (-101 : Int32).toInt = -101 := by decide
  have a1 : (0 : Int32).toInt = 0 := by decide
  have a2 : (1 : Int32).toInt = 1 := by decide
  have a3 : (7 : Int32).toInt = 7 := by decide
  have a4 : (8 : Int32).toInt = 8 := by decide
  simp only [gi_z, gi_z1, Int32.lt_iff_toInt_lt, Int32.le_iff_toInt_le, ← Int32.toInt_inj, a0, a1, a2, a3, a4]
  repeat' split
  all_goals first | rfl | (exfalso; omega) | omega
theorem eq_act_9 (x2 : Int32) : ((if x2 < 0 then (-102) else (if x2 ≤ 1000 then 1 else (-102))) : Int32) = (if (if 0 ≤ x2 ∧ x2 ≤ 1000 then (1 : Int32) else 0) = 0 then (-102) else 1) := by
  have a0 : (-102 : Int32).toInt = -102 := by decide
  have a1 : (0 : Int32).toInt = 0 := by decide
  have a2 : (1 : Int32).toInt = 1 := by decide
  have a3 : (1000 : Int32).toInt = 1000 := by decide
  simp only [gi_z, gi_z1, Int32.lt_iff_toInt_lt, Int32.le_iff_toInt_le, ← Int32.toInt_inj, a0, a1, a2, a3]
  repeat' split
  all_goals first | rfl | (exfalso; omega) | omega
theorem eq_act_11 (x2 : Int32) : ((if (if x2 < 0 then (1 : Int32) else (if x2 < 8 then (0 : Int32) else 1)) = 0 then 1 else (-101)) : Int32) = (if (if 0 ≤ x2 ∧ x2 ≤ 7 then (1 : Int32) else 0) = 0 then (-101) else 1) := by
  have a0 : (-101 : Int32).toInt = -101 := by decide
  have a1 : (0 : Int32).toInt = 0 := by decide
  have a2 : (1 : Int32).toInt = 1 := by decide
  have a3 : (7 : Int32).toInt = 7 := by decide
  have a4 : (8 : Int32).toInt = 8 := by decide
  simp only [gi_z, gi_z1, Int32.lt_iff_toInt_lt, Int32.le_iff_toInt_le, ← Int32.toInt_inj, a0, a1, a2, a3, a4]
  repeat' split
  all_goals first | rfl | (exfalso; omega) | omega
theorem eq_act_12 (x2 : Int32) (x4 : Int32) : ((if (if x2 < 0 then (1 : Int32) else (if x2 < 4 then (0 : Int32) else 1)) = 0 then (if (if x4 < 0 then (1 : Int32) else (if x4 < 8 then (0 : Int32) else 1)) = 0 then 1 else (-101)) else (-101)) : Int32) = (if (if (if 0 ≤ x2 ∧ x2 ≤ 3 then (1 : Int32) else 0) = 0 then (0 : Int32) else (if (if 0 ≤ x4 ∧ x4 ≤ 7 then (1 : Int32) else 0) = 0 then (0 : Int32) else 1)) = 0 then (-101) else 1) := by
  have a0 : (-101 : Int32).toInt = -101 := by decide
  have a1 : (0 : Int32).toInt = 0 := by decide
  have a2 : (1 : Int32).toInt = 1 := by decide
  have a3 : (3 : Int32).toInt = 3 := by decide
  have a4 : (4 : Int32).toInt = 4 := by decide
  have a5 : (7 : Int32).toInt = 7 := by decide
  have a6 : (8 : Int32).toInt = 8 := by decide
  simp only [gi_z, gi_z1, Int32.lt_iff_toInt_lt, Int32.le_iff_toInt_le, ← Int32.toInt_inj, a0, a1, a2, a3, a4, a5, a6]
  repeat' split
  all_goals first | rfl | (exfalso; omega) | omega

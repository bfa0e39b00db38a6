/-! the reference's small methods: what each asks for, told as an equation -/
theorem gl_lt {x y : Int64} : lg_cmp x y < 0 ↔ ¬ y ≤ x := by
  rw [Int64.not_le]
  unfold lg_cmp
  by_cases h1 : y < x
  · simp only [if_pos h1]
    exact ⟨fun h => absurd h (by decide), fun h => absurd (Int64.lt_trans h h1) (Int64.lt_irrefl)⟩
  · by_cases h2 : x = y
    · subst h2; simp
    · simp only [if_neg h1, if_neg h2]
      exact ⟨fun _ => Int64.lt_of_le_of_ne (Int64.not_lt.mp h1) h2, fun _ => by decide⟩
theorem gl_gt {x y : Int64} : 0 < lg_cmp x y ↔ ¬ x ≤ y := by
  rw [Int64.not_le]
  unfold lg_cmp
  by_cases h1 : y < x
  · simp only [if_pos h1]
    exact ⟨fun _ => h1, fun _ => by decide⟩
  · by_cases h2 : x = y
    · subst h2; simp
    · simp only [if_neg h1, if_neg h2]
      exact ⟨fun h => absurd h (by decide), fun h => absurd h h1⟩
section EM
variable {m : gMem} {h k n p i : Nat} {Q : Int32 → gMem → Prop} {V : gMem → Prop} {v : Int32}
theorem e_in1 {x a b : Int64} (h1 : a ≤ x) (h2 : x ≤ b) : wX10_in x a b m Q = Q 1 m := by
  unfold wX10_in
  simp [gl_lt, gl_gt, h1, h2]
theorem e_in0l {x a b : Int64} (h1 : ¬ a ≤ x) : wX10_in x a b m Q = Q 0 m := by
  unfold wX10_in
  simp [gl_lt, gl_gt, h1]
theorem e_in0r {x a b : Int64} (h1 : ¬ x ≤ b) : wX10_in x a b m Q = Q 0 m := by
  unfold wX10_in
  by_cases h2 : a ≤ x <;> simp [gl_lt, gl_gt, h1, h2]
theorem l_le {x y : Int32} : x.toInt64 ≤ y.toInt64 ↔ x.toInt ≤ y.toInt := by
  rw [Int64.le_iff_toInt_le, Int32.toInt_toInt64, Int32.toInt_toInt64]
theorem l_leL {x : Int32} {a : Int64} : x.toInt64 ≤ a ↔ x.toInt ≤ a.toInt := by
  rw [Int64.le_iff_toInt_le, Int32.toInt_toInt64]
theorem l_leR {x : Int32} {a : Int64} : a ≤ x.toInt64 ↔ a.toInt ≤ x.toInt := by
  rw [Int64.le_iff_toInt_le, Int32.toInt_toInt64]
/-- x lies in a .. b, both written numbers -/
theorem e_inI1 {x : Int32} {a b : Int64} (h1 : a.toInt ≤ x.toInt) (h2 : x.toInt ≤ b.toInt) : wX10_in x.toInt64 a b m Q = Q 1 m := e_in1 (l_leR.mpr h1) (l_leL.mpr h2)
theorem e_inI0 {x : Int32} {a b : Int64} (h1 : x.toInt < a.toInt ∨ b.toInt < x.toInt) : wX10_in x.toInt64 a b m Q = Q 0 m := by
  rcases h1 with h1 | h1
  · exact e_in0l (fun q => by have := l_leR.mp q; omega)
  · exact e_in0r (fun q => by have := l_leL.mp q; omega)
theorem i64_0 : (0 : Int64).toInt = 0 := by decide
/-- x lies in 0 .. n - 1 -/
theorem e_inN1 {j : Nat} (hj : j < n) (hn : n < 2 ^ 30) : wX10_in (nI j).toInt64 0 (nI n - 1).toInt64 m Q = Q 1 m := by
  refine e_in1 (l_leR.mpr ?_) (l_le.mpr ?_)
  · rw [i64_0, nI_toInt (by omega)]; omega
  · rw [nI_toInt (by omega), show n = (n - 1) + 1 by omega, nI_pred, nI_toInt (by omega)]; omega
theorem e_inN0 {x : Int32} (hx : x < 0 ∨ nI n ≤ x) (hn : n < 2 ^ 30) : wX10_in x.toInt64 0 (nI n - 1).toInt64 m Q = Q 0 m := by
  rcases hx with hx | hx
  · refine e_in0l (fun q => ?_)
    have := l_leR.mp q
    have h2 := Int32.lt_iff_toInt_lt.mp hx
    rw [i64_0] at this
    have e : (0 : Int32).toInt = 0 := by decide
    omega
  · refine e_in0r (fun q => ?_)
    have h1 := l_le.mp q
    have h2 := Int32.le_iff_toInt_le.mp hx
    have e := pk_sub_toInt (a := n) (b := 1) (by omega) (by decide)
    rw [show nI 1 = (1 : Int32) from rfl] at e
    rw [e] at h1
    rw [nI_toInt (by omega)] at h2
    omega
theorem ix_c (h w : Nat) : ((1100 : Int32) + 10 * nI h) + nI w = nI (1100 + 10 * h + w) := by
  rw [show (1100 : Int32) = nI 1100 from rfl, show (10 : Int32) = nI 10 from rfl, pk_mul, nI_add, nI_add]

theorem ix_0 : ((1100 : Int32) + 10 * nI h) + 0 = nI (1100 + 10 * h) := (ix_c h 0).trans (congrArg nI (by omega))
theorem e_of0 (hh : h < 500) : wX10_of (nI h) 0 m Q = Q (m 1 (1100 + 10 * h)) m := by
  unfold wX10_of
  rw [ix_0, nI_clamp (by omega)]
  simp only [forall_eq, vp_in_nI (show 1100 + 10 * h < 26100 by omega) (by decide), true_and]
theorem e_let0 (hh : h < 500) : wX10_lets (nI h) 0 v m V = V (mp m 1 (1100 + 10 * h) v) := by
  unfold wX10_lets
  rw [ix_0, nI_clamp (by omega)]
  simp only [forall_eq, vp_in_nI (show 1100 + 10 * h < 26100 by omega) (by decide), true_and]
theorem ix_1 : ((1100 : Int32) + 10 * nI h) + 1 = nI (1101 + 10 * h) := (ix_c h 1).trans (congrArg nI (by omega))
theorem e_of1 (hh : h < 500) : wX10_of (nI h) 1 m Q = Q (m 1 (1101 + 10 * h)) m := by
  unfold wX10_of
  rw [ix_1, nI_clamp (by omega)]
  simp only [forall_eq, vp_in_nI (show 1101 + 10 * h < 26100 by omega) (by decide), true_and]
theorem e_let1 (hh : h < 500) : wX10_lets (nI h) 1 v m V = V (mp m 1 (1101 + 10 * h) v) := by
  unfold wX10_lets
  rw [ix_1, nI_clamp (by omega)]
  simp only [forall_eq, vp_in_nI (show 1101 + 10 * h < 26100 by omega) (by decide), true_and]
theorem ix_2 : ((1100 : Int32) + 10 * nI h) + 2 = nI (1102 + 10 * h) := (ix_c h 2).trans (congrArg nI (by omega))
theorem e_of2 (hh : h < 500) : wX10_of (nI h) 2 m Q = Q (m 1 (1102 + 10 * h)) m := by
  unfold wX10_of
  rw [ix_2, nI_clamp (by omega)]
  simp only [forall_eq, vp_in_nI (show 1102 + 10 * h < 26100 by omega) (by decide), true_and]
theorem e_let2 (hh : h < 500) : wX10_lets (nI h) 2 v m V = V (mp m 1 (1102 + 10 * h) v) := by
  unfold wX10_lets
  rw [ix_2, nI_clamp (by omega)]
  simp only [forall_eq, vp_in_nI (show 1102 + 10 * h < 26100 by omega) (by decide), true_and]
theorem ix_3 : ((1100 : Int32) + 10 * nI h) + 3 = nI (1103 + 10 * h) := (ix_c h 3).trans (congrArg nI (by omega))
theorem e_of3 (hh : h < 500) : wX10_of (nI h) 3 m Q = Q (m 1 (1103 + 10 * h)) m := by
  unfold wX10_of
  rw [ix_3, nI_clamp (by omega)]
  simp only [forall_eq, vp_in_nI (show 1103 + 10 * h < 26100 by omega) (by decide), true_and]
theorem e_let3 (hh : h < 500) : wX10_lets (nI h) 3 v m V = V (mp m 1 (1103 + 10 * h) v) := by
  unfold wX10_lets
  rw [ix_3, nI_clamp (by omega)]
  simp only [forall_eq, vp_in_nI (show 1103 + 10 * h < 26100 by omega) (by decide), true_and]
theorem ix_4 : ((1100 : Int32) + 10 * nI h) + 4 = nI (1104 + 10 * h) := (ix_c h 4).trans (congrArg nI (by omega))
theorem e_of4 (hh : h < 500) : wX10_of (nI h) 4 m Q = Q (m 1 (1104 + 10 * h)) m := by
  unfold wX10_of
  rw [ix_4, nI_clamp (by omega)]
  simp only [forall_eq, vp_in_nI (show 1104 + 10 * h < 26100 by omega) (by decide), true_and]
theorem e_let4 (hh : h < 500) : wX10_lets (nI h) 4 v m V = V (mp m 1 (1104 + 10 * h) v) := by
  unfold wX10_lets
  rw [ix_4, nI_clamp (by omega)]
  simp only [forall_eq, vp_in_nI (show 1104 + 10 * h < 26100 by omega) (by decide), true_and]
theorem ix_5 : ((1100 : Int32) + 10 * nI h) + 5 = nI (1105 + 10 * h) := (ix_c h 5).trans (congrArg nI (by omega))
theorem e_of5 (hh : h < 500) : wX10_of (nI h) 5 m Q = Q (m 1 (1105 + 10 * h)) m := by
  unfold wX10_of
  rw [ix_5, nI_clamp (by omega)]
  simp only [forall_eq, vp_in_nI (show 1105 + 10 * h < 26100 by omega) (by decide), true_and]
theorem e_let5 (hh : h < 500) : wX10_lets (nI h) 5 v m V = V (mp m 1 (1105 + 10 * h) v) := by
  unfold wX10_lets
  rw [ix_5, nI_clamp (by omega)]
  simp only [forall_eq, vp_in_nI (show 1105 + 10 * h < 26100 by omega) (by decide), true_and]
theorem ix_6 : ((1100 : Int32) + 10 * nI h) + 6 = nI (1106 + 10 * h) := (ix_c h 6).trans (congrArg nI (by omega))
theorem e_of6 (hh : h < 500) : wX10_of (nI h) 6 m Q = Q (m 1 (1106 + 10 * h)) m := by
  unfold wX10_of
  rw [ix_6, nI_clamp (by omega)]
  simp only [forall_eq, vp_in_nI (show 1106 + 10 * h < 26100 by omega) (by decide), true_and]
theorem e_let6 (hh : h < 500) : wX10_lets (nI h) 6 v m V = V (mp m 1 (1106 + 10 * h) v) := by
  unfold wX10_lets
  rw [ix_6, nI_clamp (by omega)]
  simp only [forall_eq, vp_in_nI (show 1106 + 10 * h < 26100 by omega) (by decide), true_and]
theorem ix_7 : ((1100 : Int32) + 10 * nI h) + 7 = nI (1107 + 10 * h) := (ix_c h 7).trans (congrArg nI (by omega))
theorem e_of7 (hh : h < 500) : wX10_of (nI h) 7 m Q = Q (m 1 (1107 + 10 * h)) m := by
  unfold wX10_of
  rw [ix_7, nI_clamp (by omega)]
  simp only [forall_eq, vp_in_nI (show 1107 + 10 * h < 26100 by omega) (by decide), true_and]
theorem e_let7 (hh : h < 500) : wX10_lets (nI h) 7 v m V = V (mp m 1 (1107 + 10 * h) v) := by
  unfold wX10_lets
  rw [ix_7, nI_clamp (by omega)]
  simp only [forall_eq, vp_in_nI (show 1107 + 10 * h < 26100 by omega) (by decide), true_and]
theorem ix_8 : ((1100 : Int32) + 10 * nI h) + 8 = nI (1108 + 10 * h) := (ix_c h 8).trans (congrArg nI (by omega))
theorem e_of8 (hh : h < 500) : wX10_of (nI h) 8 m Q = Q (m 1 (1108 + 10 * h)) m := by
  unfold wX10_of
  rw [ix_8, nI_clamp (by omega)]
  simp only [forall_eq, vp_in_nI (show 1108 + 10 * h < 26100 by omega) (by decide), true_and]
theorem e_let8 (hh : h < 500) : wX10_lets (nI h) 8 v m V = V (mp m 1 (1108 + 10 * h) v) := by
  unfold wX10_lets
  rw [ix_8, nI_clamp (by omega)]
  simp only [forall_eq, vp_in_nI (show 1108 + 10 * h < 26100 by omega) (by decide), true_and]
theorem ix_9 : ((1100 : Int32) + 10 * nI h) + 9 = nI (1109 + 10 * h) := (ix_c h 9).trans (congrArg nI (by omega))
theorem e_of9 (hh : h < 500) : wX10_of (nI h) 9 m Q = Q (m 1 (1109 + 10 * h)) m := by
  unfold wX10_of
  rw [ix_9, nI_clamp (by omega)]
  simp only [forall_eq, vp_in_nI (show 1109 + 10 * h < 26100 by omega) (by decide), true_and]
theorem e_let9 (hh : h < 500) : wX10_lets (nI h) 9 v m V = V (mp m 1 (1109 + 10 * h) v) := by
  unfold wX10_lets
  rw [ix_9, nI_clamp (by omega)]
  simp only [forall_eq, vp_in_nI (show 1109 + 10 * h < 26100 by omega) (by decide), true_and]
theorem e_made1 (h1 : m 1 1 = nI n) (hn : n ≤ 500) (hh : h < n) : wX10_isMade (nI h) m Q = Q 1 m := by
  unfold wX10_isMade
  simp only [forall_eq, h1]
  rw [e_inN1 hh (by omega)]
  simp
theorem e_made0 {x : Int32} (h1 : m 1 1 = nI n) (hn : n ≤ 500) (hx : x < 0 ∨ nI n ≤ x) : wX10_isMade x m Q = Q 0 m := by
  unfold wX10_isMade
  simp only [forall_eq, h1]
  rw [e_inN0 hx (by omega)]
  simp
theorem e_mayN : wX10_mayBe (-1) m Q = Q 1 m := by
  unfold wX10_mayBe wX10_mayBe_p13
  simp
theorem e_may1 (h1 : m 1 1 = nI n) (hn : n ≤ 500) (hh : h < n) : wX10_mayBe (nI h) m Q = Q 1 m := by
  unfold wX10_mayBe wX10_mayBe_p13
  simp only [nI_m1 (show h < 2 ^ 31 by omega), e_made1 h1 hn hh, false_implies, not_false_eq_true, true_implies, true_and]
  simp
theorem e_may0 {x : Int32} (h1 : m 1 1 = nI n) (hn : n ≤ 500) (hx : x < 0 ∨ nI n ≤ x) (hx1 : ¬ x = -1) : wX10_mayBe x m Q = Q 0 m := by
  unfold wX10_mayBe wX10_mayBe_p13
  simp only [hx1, e_made0 h1 hn hx, false_implies, not_false_eq_true, true_implies, true_and]
  simp
theorem e_goneN : wX10_isGone (-1) m Q = Q 1 m := by
  unfold wX10_isGone wX10_isGone_p14
  simp
theorem e_gone1 (hh : h < 500) (h0 : m 1 (1100 + 10 * h) = 0) : wX10_isGone (nI h) m Q = Q 1 m := by
  unfold wX10_isGone wX10_isGone_p14
  simp only [nI_m1 (show h < 2 ^ 31 by omega), e_of0 hh, h0, false_implies, not_false_eq_true, true_implies, true_and]
  simp
theorem e_gone0 (hh : h < 500) (h0 : m 1 (1100 + 10 * h) = 1) : wX10_isGone (nI h) m Q = Q 0 m := by
  unfold wX10_isGone wX10_isGone_p14
  simp only [nI_m1 (show h < 2 ^ 31 by omega), e_of0 hh, h0, false_implies, not_false_eq_true, true_implies, true_and]
  simp
theorem e_many1 (hk : aMany k) : wX10_hasMany (nI k) m Q = Q 1 m := by
  unfold wX10_hasMany wX10_hasMany_p15
  rcases hk with rfl | rfl | rfl <;> simp [nI]
theorem e_many0 (hk : ¬ aMany k) (h5 : k ≤ 5) : wX10_hasMany (nI k) m Q = Q 0 m := by
  unfold wX10_hasMany wX10_hasMany_p15
  rcases (by unfold aMany at hk; omega : k = 0 ∨ k = 3 ∨ k = 4) with rfl | rfl | rfl <;> simp [nI]
theorem e_sizeOf (hk : k ≤ 5) (hn : n ≤ 300) : wX10_sizeOf (nI k) (nI n) m Q = Q (nI (szN k n)) m := by
  unfold wX10_sizeOf wX10_sizeOf_p54 szN
  have e1 : (2 : Int32) + nI n = nI (2 + n) := nI_add 2 n
  have e2 : (2 : Int32) + 2 * nI n = nI (2 + 2 * n) := by
    rw [show (2 : Int32) = nI 2 from rfl, pk_mul, nI_add]
  have e3 : (2 : Int32) + (nI n + 3) / 4 = nI (2 + (n + 3) / 4) := by
    rw [show (2 : Int32) = nI 2 from rfl, show (3 : Int32) = nI 3 from rfl, show (4 : Int32) = nI 4 from rfl, nI_add, pk_div (by omega) (by decide) (by decide), nI_add]
  rw [e1, e2, e3]
  rcases (by omega : k = 0 ∨ k = 1 ∨ k = 2 ∨ k = 3 ∨ k = 4 ∨ k = 5) with rfl | rfl | rfl | rfl | rfl | rfl <;> simp [nI]
theorem e_sizeAt (hh : h < 500) (h1 : m 1 (1101 + 10 * h) = nI k) (hk : k ≤ 5) (h3 : m 1 (1103 + 10 * h) = nI n) (hn : n ≤ 300) : wX10_sizeAt (nI h) m Q = Q (nI (szN k n)) m := by
  unfold wX10_sizeAt
  rw [e_of1 hh, e_of3 hh, h1, h3, e_sizeOf hk hn]
theorem e_linksOf (hh : h < 500) (h1 : m 1 (1101 + 10 * h) = nI k) (hk : k ≤ 5) (h3 : m 1 (1103 + 10 * h) = nI n) : wX10_linksOf (nI h) m Q = Q (nI (lkN k n)) m := by
  unfold wX10_linksOf wX10_linksOf_p25 lkN
  rw [e_of1 hh, e_of3 hh, h1, h3]
  rcases (by omega : k = 0 ∨ k = 1 ∨ k = 2 ∨ k = 3 ∨ k = 4 ∨ k = 5) with rfl | rfl | rfl | rfl | rfl | rfl <;> simp [nI]
theorem e_linkAt (hh : h < 500) (h1 : m 1 (1101 + 10 * h) = nI k) (hk : k ≤ 5) (h2 : m 1 (1102 + 10 * h) = nI p) : wX10_linkAt (nI h) (nI i) m Q = Q (nI (6100 + p + loN k + i)) m := by
  unfold wX10_linkAt wX10_linkAt_p27 wX10_linkAt_p32 loN
  rw [e_of1 hh, e_of2 hh, h1, h2]
  have e1 : ((6100 : Int32) + nI p) + 2 + nI i = nI (6100 + p + 2 + i) := by
    rw [show (6100 : Int32) = nI 6100 from rfl, show (2 : Int32) = nI 2 from rfl, nI_add, nI_add, nI_add]
  have e2 : ((6100 : Int32) + nI p) + 1 + nI i = nI (6100 + p + 1 + i) := by
    rw [show (6100 : Int32) = nI 6100 from rfl, show (1 : Int32) = nI 1 from rfl, nI_add, nI_add, nI_add]
  rw [e1, e2]
  rcases (by omega : k = 0 ∨ k = 1 ∨ k = 2 ∨ k = 3 ∨ k = 4 ∨ k = 5) with rfl | rfl | rfl | rfl | rfl | rfl <;> simp [nI]
theorem e_weakAt (hh : h < 500) (h2 : m 1 (1102 + 10 * h) = nI p) : wX10_weakAt (nI h) m Q = Q (nI (6100 + p + 2)) m := by
  unfold wX10_weakAt
  rw [e_of2 hh, h2, show (6100 : Int32) = nI 6100 from rfl, show (2 : Int32) = nI 2 from rfl, nI_add, nI_add]
theorem e_isWeak1 (hh : h < 500) (h1 : m 1 (1101 + 10 * h) = nI k) (hk : k = 3 ∨ k = 4) : wX10_isWeak (nI h) m Q = Q 1 m := by
  unfold wX10_isWeak wX10_isWeak_p20
  rw [e_of1 hh, e_of1 hh, h1]
  rcases hk with rfl | rfl <;> simp [nI]
theorem e_isWeak0 (hh : h < 500) (h1 : m 1 (1101 + 10 * h) = nI k) (h5 : k ≤ 5) (hk : ¬ (k = 3 ∨ k = 4)) : wX10_isWeak (nI h) m Q = Q 0 m := by
  unfold wX10_isWeak wX10_isWeak_p20
  rw [e_of1 hh, e_of1 hh, h1]
  rcases (by omega : k = 0 ∨ k = 1 ∨ k = 2 ∨ k = 5) with rfl | rfl | rfl | rfl <;> simp [nI]
theorem e_isRow1 (hh : h < 500) (h1 : m 1 (1101 + 10 * h) = nI k) (hk : k = 1 ∨ k = 5) : wX10_isRow (nI h) m Q = Q 1 m := by
  unfold wX10_isRow wX10_isRow_p20
  rw [e_of1 hh, e_of1 hh, h1]
  rcases hk with rfl | rfl <;> simp [nI]
theorem e_isRow0 (hh : h < 500) (h1 : m 1 (1101 + 10 * h) = nI k) (h5 : k ≤ 5) (hk : ¬ (k = 1 ∨ k = 5)) : wX10_isRow (nI h) m Q = Q 0 m := by
  unfold wX10_isRow wX10_isRow_p20
  rw [e_of1 hh, e_of1 hh, h1]
  rcases (by omega : k = 0 ∨ k = 2 ∨ k = 3 ∨ k = 4) with rfl | rfl | rfl | rfl <;> simp [nI]
/-- the finding that an answer tells -/
def fdA (x : Int32) : Int32 := if (-18) ≤ x ∧ x ≤ (-11) then (-10) - x else 0
theorem e_answers : wX10_answers v m Q = Q v (mp m 0 5 (fdA v)) := by
  unfold wX10_answers wX10_answers_p23 fdA
  by_cases h1 : (-18 : Int32) ≤ v ∧ v ≤ (-11)
  · rw [e_inI1 (a := -18) (b := -11) (show (-18 : Int32).toInt ≤ v.toInt from Int32.le_iff_toInt_le.mp h1.1) (show v.toInt ≤ (-11 : Int32).toInt from Int32.le_iff_toInt_le.mp h1.2)]
    simp [h1]
  · rw [e_inI0 ?_]
    · simp [h1]
    · have e1 : (-18 : Int64).toInt = (-18 : Int32).toInt := by decide
      have e2 : (-11 : Int64).toInt = (-11 : Int32).toInt := by decide
      rw [e1, e2]
      rcases Decidable.not_and_iff_or_not.mp h1 with q | q
      · left; exact Int32.lt_iff_toInt_lt.mp (Int32.not_le.mp q)
      · right; exact Int32.lt_iff_toInt_lt.mp (Int32.not_le.mp q)
theorem e_fails : wX10_fails v m Q = Q ((-10) - v) m := rfl
theorem e_by0 : wX10_by 0 m Q = Q (m 0 12) (mp m 0 5 0) := by
  unfold wX10_by
  simp [mp, mr, upd]
theorem e_byF (hv : ¬ v ≤ 0) : wX10_by v m Q = Q ((-10) - v) (mp m 0 5 v) := by
  unfold wX10_by wX10_fails
  simp [hv]
end EM

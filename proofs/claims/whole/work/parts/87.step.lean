/-! step, cycle -/
section ST
variable {T : Nat} {c m : gMem}
theorem Rel.ends {T' : Nat} {c' m' : gMem} (R : Rel T c m) (hT : T ≤ T') (hr : aSR 1 c' (m' 1)) (hi : aSI T' (m' 1)) (h64 : ∀ b, b < 14 → c' 64 b = m' 4 b) (m10 : m' 1 0 = m 1 0) (mi : ∀ i, i ≠ 1 → i ≠ 4 → i ≠ 5 → m' i = m i) (ci : ∀ i, i = 0 ∨ 22 ≤ i ∧ i < 64 ∨ 67 ≤ i → c' i = c i) : Rel T' c' m' :=
  ⟨⟨hr, hi⟩, aEx_cong (fun j => by rw [ci 0 (by omega)]) (fun i a b => ci i (by omega)) (by rw [ci 69 (by omega)]) h64 (fun j hj => by rw [mi 0 (by decide) (by decide) (by decide)]) (mi 2 (by decide) (by decide) (by decide)) (mi 3 (by decide) (by decide) (by decide)) m10 (R.mono hT).2⟩
/-- what a whole end leaves: sF is the state before it -/
def endE (sF s' : gS) : Prop := s' 0 = sF 0 ∧ s' 1 = sF 1 ∧ s' 3 = 0 ∧ zU s' = ((Lst sF).map (aSz sF)).sum ∧ (∀ j, 11 ≤ j ∧ j < 15 ∨ 76 ≤ j ∧ j < 84 ∨ 400 ≤ j ∧ j < 600 → s' j = sF j) ∧ (∀ h, h < zM sF → kpB sF h = true → aLv s' h ∧ aSz s' h = aSz sF h ∧ aLk s' h = aLk sF h ∧ ∀ i, i < aLk sF h → aLn s' h i = aLn sF h i) ∧ ∀ r, r < 24 → s' (20 + r) = sF (20 + r)
theorem sim_endR (R : Rel T c m) (h3 : m 1 3 = 1) (hL : zL (m 1) = zK (m 1)) (hT : T < 2 ^ 29) : ∃ c' m', Dv (wX7_end c) c' ∧ Dv (wX10_end m) m' ∧ Rel (T + 500) c' m' ∧ endE (m 1) (m' 1) ∧ m' 0 = m 0 := by
  obtain ⟨c', m', h1, h2, h3', h4, h5, h6, h7, h8, h9, h10, h11, h12, h13, h14⟩ := sim_end R.1.1 R.1.2 h3 hL R.2.2.2.2.1 hT
  exact ⟨c', m', h1, h2, R.ends (by omega) h3' h4 h5 h6 h9 h10, ⟨h6, h7, h8, h11, h12, h13, h14⟩, h9 0 (by decide) (by decide) (by decide)⟩
theorem sim_lookR {most : Nat} (hmost : most < 2 ^ 31) (R : Rel T c m) (h3 : m 1 3 = 1) : ∃ r c' s' k, Di (wX7_lookThrough (nI most) c) (nI r) c' ∧ Di (wX10_lookThrough (nI most) m) (nI r) (mr m 1 s') ∧ Rel T c' (mr m 1 s') ∧ s' 3 = 1 ∧ hpE (m 1) s' ∧ bst s' = bit (m 1) k (bst (m 1)) ∧ r ≤ sth s' ∧ r ≤ most ∧ (r < most → zL s' = zK s') := by
  obtain ⟨r, c', s', k, X, M, hr, hi, h3', hE, hF, hb, q1, q2, q3⟩ := look_loop (T := T) hmost most 0 c (m 1) (by omega) R.1.1 R.1.2 h3 (Nat.zero_le _)
  have M' := M m
  rw [mr_self] at M'
  exact ⟨r, c', s', k, X, M', R.now (Nat.le_refl _) hr hi (fun i h => hF i (by omega)) (hE.1.1 0 (by omega)), h3', hE, hb, q2, q1, q3⟩
theorem sim_beginR (R : Rel T c m) (h3 : m 1 3 = 0) : ∃ c' s', Dv (wX7_begin c) c' ∧ Dv (wX10_begin m) (mr m 1 s') ∧ Rel T c' (mr m 1 s') ∧ s' 3 = 1 ∧ hpE (m 1) s' ∧ bst s' = (rtV (m 1) 0 24 [], 0, 0) := by
  obtain ⟨c', s', X, M, hr, hi, h3', hE, hF, hb⟩ := sim_begin (T := T) R.1.1 R.1.2 h3
  have M' := M m
  rw [mr_self] at M'
  exact ⟨c', s', X, M', R.now (Nat.le_refl _) hr hi (fun i h => hF i (by omega)) (hE.1.1 0 (by omega)), h3', hE, hb⟩
theorem Rel.h3 (R : Rel T c m) : (m 1 3 = 0 ∨ m 1 3 = 1) ∧ c 6 0 = m 1 3 := ⟨R.1.2.1.2.1.1.1, R.1.1.2.2.2.1.1⟩
theorem Rel.sth (R : Rel T c m) : sth (m 1) ≤ 4000 := by
  have h1 := sth_le R.1.2.1.1 R.1.2.1.2.1
  have := R.1.2.1.1.1
  unfold iA at this
  omega
/-- the second half of a whole cycle -/
theorem sim_fin2 (R : Rel T c m) (h3 : m 1 3 = 1) (hT : T < 2 ^ 29) : ∃ c' m' sF k, Dv (wX7_finish_p14 c) c' ∧ Di (wX10_wholeCycle_p13 m) (m' 1 7) m' ∧ Rel (T + 500) c' m' ∧ m' 0 = m 0 ∧ hpE (m 1) sF ∧ aSI T sF ∧ sF 3 = 1 ∧ zL sF = zK sF ∧ bst sF = bit (m 1) k (bst (m 1)) ∧ endE sF (m' 1) := by
  obtain ⟨r, c1, s1, k, X1, M1, R1, h31, E1, b1, q1, q2, q3⟩ := sim_lookR (most := 1000000) (by decide) R h3
  have hst := R1.sth
  rw [mr_s] at hst
  have hL := q3 (by omega)
  obtain ⟨c2, m2, X2, M2, R2, e2, o2⟩ := sim_endR R1 (by rw [mr_s]; exact h31) (by rw [mr_s]; exact hL) hT
  rw [mr_s] at e2
  have hi := R1.1.2
  rw [mr_s] at hi
  refine ⟨c2, m2, s1, k, fun Q hQ => ?_, fun Q hQ => ?_, R2, by rw [o2, mr_n (by decide)], E1, hi, h31, hL, b1, e2⟩
  · unfold wX7_finish_p14
    exact X1 _ (X2 _ hQ)
  · unfold wX10_wholeCycle_p13
    simp only [forall_eq]
    exact M1 _ (M2 _ hQ)
/-- the machine of marks at its start -/
def stB (s : gS) : List Nat × Nat × Nat := if s 3 = 0 then (rtV s 0 24 [], 0, 0) else bst s
theorem sim_fin (R : Rel T c m) (hT : T < 2 ^ 29) : ∃ c' m' sF k, Dv (wX7_finish c) c' ∧ Di (wX10_wholeCycle m) (m' 1 7) m' ∧ Rel (T + 500) c' m' ∧ m' 0 = m 0 ∧ hpE (m 1) sF ∧ aSI T sF ∧ sF 3 = 1 ∧ zL sF = zK sF ∧ bst sF = bit (m 1) k (stB (m 1)) ∧ endE sF (m' 1) := by
  obtain ⟨h3, h6⟩ := R.h3
  rcases h3 with h3 | h3
  · obtain ⟨c1, s1, X1, M1, R1, h31, E1, b1⟩ := sim_beginR R h3
    obtain ⟨c2, m2, sF, k, X2, M2, R2, o2, E2, I2, h32, hL, b2, e2⟩ := sim_fin2 R1 (by rw [mr_s]; exact h31) hT
    rw [mr_s] at E2 b2
    refine ⟨c2, m2, sF, k, fun Q hQ => ?_, fun Q hQ => ?_, R2, by rw [o2, mr_n (by decide)], E1.tr E2, I2, h32, hL, ?_, e2⟩
    · unfold wX7_finish
      simp only [forall_eq, h6, h3, true_implies, not_true_eq_false, false_implies, and_true]
      exact X1 _ (X2 _ hQ)
    · unfold wX10_wholeCycle
      simp only [forall_eq, h3, true_implies, not_true_eq_false, false_implies, and_true]
      exact M1 _ (M2 _ hQ)
    · have hst : stB (m 1) = bst s1 := by unfold stB; rw [if_pos h3, b1]
      have hi1 := R1.1.2
      rw [mr_s] at hi1
      have hg : glL (m 1) (bst s1).1 := by
        have := gl_Lst (s := s1) hi1.1.2.1.2.1
        intro h hh
        obtain ⟨q1, q2⟩ := this h hh
        have hM : zM s1 = zM (m 1) := E1.1.m
        have := R.made.2.1
        exact ⟨by omega, (E1.1.lv (by omega)).mp q2⟩
      rw [hst, b2, bit_cong R.1.2.1.1 E1 k _ hg]
  · obtain ⟨c2, m2, sF, k, X2, M2, R2, o2, E2, I2, h32, hL, b2, e2⟩ := sim_fin2 R h3 hT
    refine ⟨c2, m2, sF, k, fun Q hQ => ?_, fun Q hQ => ?_, R2, o2, E2, I2, h32, hL, ?_, e2⟩
    · unfold wX7_finish
      simp only [forall_eq, h6, h3, i32_10, true_implies, not_false_eq_true, false_implies, true_and]
      exact X2 _ hQ
    · unfold wX10_wholeCycle
      simp only [forall_eq, h3, i32_10, true_implies, not_false_eq_true, false_implies, true_and]
      exact M2 _ hQ
    · have : ¬ m 1 3 = 0 := by rw [h3]; decide
      unfold stB; rw [if_neg this]; exact b2
theorem op_cycle (R : Rel T c m) (hT : T < 2 ^ 29) : Sim (wX9_cycle c) (wX10_cycle m) (Rel (T + 500)) := by
  obtain ⟨c1, m1, sF, k, X, M, R1, -⟩ := sim_fin R hT
  refine ⟨m1 1 7, c1, m1, fun Q hQ => ?_, fun Q hQ => ?_, R1⟩
  · unfold wX9_cycle
    simp only [forall_eq]
    refine X _ ?_
    have : c1 12 2 = m1 1 7 := R1.1.1.2.2.2.2.2.2.1.1 2 (by decide)
    rw [this]; exact hQ
  · unfold wX10_cycle
    exact M _ hQ
theorem sim_on2 {n : Nat} (hn : n ≤ 1000) (R : Rel T c m) (h3 : m 1 3 = 1) (hT : T < 2 ^ 29) : ∃ r : Nat, ∃ c' m', r ≤ n ∧ Di (wX7_goOn_p14 (nI n) c) (nI r) c' ∧ Di (wX10_stepped_p13 (nI n) m) (nI r) m' ∧ Rel (T + 500) c' m' ∧ m' 0 = m 0 := by
  obtain ⟨r, c1, s1, k, X1, M1, R1, h31, E1, b1, q1, q2, q3⟩ := sim_lookR (most := n) (by omega) R h3
  have hr1 := R1.1.1
  have hi1 := R1.1.2
  rw [mr_s] at hr1 hi1
  obtain ⟨r2, c2, L', k2, X2, M2, hr2, hi2, E2, F2, b2, st2, hfin⟩ := sim_isLeft (T := T) _ c1 s1 rfl hr1 hi1
  have R2 := R1.now (Nat.le_refl _) hr2 hi2 (fun i h => F2 i (by omega)) (by rw [mr_s]; exact E2.1.1 0 (by omega))
  rw [mr_mr] at R2
  have h32 : upd s1 17 (nI L') 3 = 1 := by rw [up_n (by decide)]; exact h31
  have M2' := M2 m
  generalize upd s1 17 (nI L') = s2 at *
  rcases hfin with ⟨rfl, hL, hth⟩ | ⟨rfl, hL⟩
  · refine ⟨r, c2, mr m 1 s2, q2, fun Q hQ => ?_, fun Q hQ => ?_, R2.mono (by omega), mr_n (by decide)⟩
    · unfold wX7_goOn_p14
      refine X1 _ (X2 _ ?_)
      simp only [i32_10, true_implies, not_false_eq_true, false_implies, true_and]; exact hQ
    · unfold wX10_stepped_p13
      refine M1 _ (M2' _ ?_)
      simp only [i32_10, true_implies, not_false_eq_true, false_implies, true_and]; exact hQ
  · obtain ⟨c3, m3, X3, M3, R3, e3, o3⟩ := sim_endR R2 (by rw [mr_s]; exact h32) (by rw [mr_s]; exact hL) hT
    refine ⟨r, c3, m3, q2, fun Q hQ => ?_, fun Q hQ => ?_, R3, by rw [o3, mr_n (by decide)]⟩
    · unfold wX7_goOn_p14
      refine X1 _ (X2 _ ?_)
      simp only [true_implies, not_true_eq_false, false_implies, and_true]
      exact X3 _ hQ
    · unfold wX10_stepped_p13
      refine M1 _ (M2' _ ?_)
      simp only [true_implies, not_true_eq_false, false_implies, and_true]
      exact M3 _ hQ
theorem sim_on {n : Nat} (hn : n ≤ 1000) (R : Rel T c m) (hT : T < 2 ^ 29) : ∃ r : Nat, ∃ c' m', r ≤ n ∧ Di (wX7_goOn (nI n) c) (nI r) c' ∧ Di (wX10_stepped (nI n) m) (nI r) m' ∧ Rel (T + 500) c' m' ∧ m' 0 = m 0 := by
  obtain ⟨h3, h6⟩ := R.h3
  rcases h3 with h3 | h3
  · obtain ⟨c1, s1, X1, M1, R1, h31, E1, b1⟩ := sim_beginR R h3
    obtain ⟨r, c2, m2, hr, X2, M2, R2, o2⟩ := sim_on2 hn R1 (by rw [mr_s]; exact h31) hT
    refine ⟨r, c2, m2, hr, fun Q hQ => ?_, fun Q hQ => ?_, R2, by rw [o2, mr_n (by decide)]⟩
    · unfold wX7_goOn
      simp only [forall_eq, h6, h3, true_implies, not_true_eq_false, false_implies, and_true]
      exact X1 _ (X2 _ hQ)
    · unfold wX10_stepped
      simp only [forall_eq, h3, true_implies, not_true_eq_false, false_implies, and_true]
      exact M1 _ (M2 _ hQ)
  · obtain ⟨r, c2, m2, hr, X2, M2, R2, o2⟩ := sim_on2 hn R h3 hT
    refine ⟨r, c2, m2, hr, fun Q hQ => ?_, fun Q hQ => ?_, R2, o2⟩
    · unfold wX7_goOn
      simp only [forall_eq, h6, h3, i32_10, true_implies, not_false_eq_true, false_implies, true_and]
      exact X2 _ hQ
    · unfold wX10_stepped
      simp only [forall_eq, h3, i32_10, true_implies, not_false_eq_true, false_implies, true_and]
      exact M2 _ hQ
theorem op_step {x : Int32} (R : Rel T c m) (hT : T < 2 ^ 29) : Sim (wX9_step x c) (wX10_step x m) (Rel (T + 500)) := by
  rcases pk_ix x (n := 1001) (by decide) with q | q | ⟨j, hj, rfl⟩
  · refine ⟨-102, c, m, fun Q hQ => ?_, fun Q hQ => ?_, R.mono (by omega)⟩
    · unfold wX9_step wX9_step_p11
      simp only [q, true_implies, not_true_eq_false, false_implies, and_true]; exact hQ
    · unfold wX10_step
      have q' := Int32.lt_iff_toInt_lt.mp q
      have z0 : (0 : Int32).toInt = 0 := by decide
      rw [e_inI0 (Or.inl (by rw [i64_0]; omega))]
      simp only [true_implies, not_true_eq_false, false_implies, and_true]; exact hQ
  · have q' := Int32.le_iff_toInt_le.mp q
    rw [nI_toInt (by decide)] at q'
    refine ⟨-102, c, m, fun Q hQ => ?_, fun Q hQ => ?_, R.mono (by omega)⟩
    · unfold wX9_step wX9_step_p11
      have z0 : (0 : Int32).toInt = 0 := by decide
      have n0 : ¬ x < 0 := fun z => by have := Int32.lt_iff_toInt_lt.mp z; omega
      have z1 : (1000 : Int32).toInt = 1000 := by decide
      have n1 : ¬ x ≤ 1000 := fun z => by have := Int32.le_iff_toInt_le.mp z; omega
      simp only [n0, n1, true_implies, not_false_eq_true, false_implies, true_and]; exact hQ
    · unfold wX10_step
      have z1 : (1000 : Int64).toInt = 1000 := by decide
      rw [e_inI0 (Or.inr (by rw [z1]; omega))]
      simp only [true_implies, not_true_eq_false, false_implies, and_true]; exact hQ
  · obtain ⟨c1, m1, X1, M1, R1, -⟩ := sim_keep R
    obtain ⟨r, c2, m2, hr, X2, M2, R2, o2⟩ := sim_on (n := j) (by omega) R1 hT
    refine ⟨nI r, c2, m2, fun Q hQ => ?_, fun Q hQ => ?_, R2⟩
    · unfold wX9_step wX9_stepKeepingBefore
      have n0 : ¬ nI j < 0 := fun z => by
        have := Int32.lt_iff_toInt_lt.mp z
        rw [nI_toInt (by omega)] at this
        have z0 : (0 : Int32).toInt = 0 := by decide
        omega
      have n1 : nI j ≤ 1000 := nI_le (b := 1000) (by omega) (by decide)
      simp only [n0, n1, true_implies, not_true_eq_false, not_false_eq_true, false_implies, true_and, and_true]
      exact X1 _ (X2 _ hQ)
    · unfold wX10_step
      have z1 : (1000 : Int64).toInt = 1000 := by decide
      rw [e_inI1 (by rw [i64_0, nI_toInt (by omega)]; omega) (by rw [z1, nI_toInt (by omega)]; omega)]
      simp only [i32_10, true_implies, not_false_eq_true, false_implies, true_and]
      exact M1 _ (M2 _ hQ)
end ST

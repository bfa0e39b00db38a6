/-! told, about, digest, the paper -/
section AB
variable {T : Nat} {c m : gMem}
theorem nn_lt {s : gS} {k : Nat} : nn s k < 2 ^ 31 := by
  unfold nn Int32.toNatClampNeg
  have := Int32.toInt_lt (s k)
  omega
theorem ix3 {k w : Nat} : nI k * 3 + nI w = nI (3 * k + w) := by
  rw [show (3 : Int32) = nI 3 from rfl, pk_mul, nI_add]; congr 1; omega
theorem ix100 {k w : Nat} : ((100 : Int32) + 3 * nI k) + nI w = nI (100 + (3 * k + w)) := by
  rw [show (3 : Int32) = nI 3 from rfl, show (100 : Int32) = nI 100 from rfl, pk_mul, nI_add, nI_add]; congr 1; omega
theorem op_told {l1 l2 : Int32} (R : Rel T c m) : Sim (wX9_told l1 l2 c) (wX10_told l1 l2 m) (Rel T) := by
  have it := R.1.2.1.2.2.1.1
  have ec : c 12 5 = nI (zT (m 1)) := by rw [← it]; exact R.1.1.2.2.2.2.2.2.1.1 5 (by decide)
  have hlt : zT (m 1) < 2 ^ 31 := nn_lt
  rcases pk_ix l2 (n := 3) (by decide) with q | q | ⟨w, hw, rfl⟩
  · exact ⟨-102, c, m, fun Q hQ => by unfold wX9_told; simpa [q] using hQ, fun Q hQ => by unfold wX10_told; rw [e_inL0 (n := 3) (by decide) (by decide) (Or.inl q)]; simpa using hQ, R⟩
  · exact ⟨-102, c, m, fun Q hQ => by unfold wX9_told; simp only [nn_of_le (by decide) q, show ¬ l2 < (3 : Int32) from Int32.not_lt.mpr q, true_implies, not_true_eq_false, false_implies, and_true, not_false_eq_true, true_and]; exact hQ, fun Q hQ => by unfold wX10_told; rw [e_inL0 (n := 3) (by decide) (by decide) (Or.inr q)]; simpa using hQ, R⟩
  have w0 : ¬ nI w < 0 := nI_pos (by omega)
  have w3 : nI w < (3 : Int32) := nI_lt (b := 3) hw (by decide)
  -- how many are kept
  have hk : ∃ K : Nat, K = min 100 (zT (m 1)) ∧ ∀ Q : Int32 → gMem → Prop, wX10_told l1 (nI w) m Q = wX10_told_p39 l1 (nI w) (nI K) m Q := by
    refine ⟨_, rfl, fun Q => ?_⟩
    unfold wX10_told
    rw [e_inL1 (n := 3) (by decide) hw (by decide)]
    simp only [i32_10, forall_eq, it, false_implies, not_false_eq_true, true_implies, true_and]
    by_cases h : 100 ≤ zT (m 1)
    · have h' : (100 : Int32) ≤ nI (zT (m 1)) := nI_le h hlt
      simp only [h', true_implies, not_true_eq_false, false_implies, and_true]
      rw [Nat.min_eq_left h]; rfl
    · have h' : ¬ (100 : Int32) ≤ nI (zT (m 1)) := nI_ge (b := 100) (by omega) (by decide)
      simp only [h', true_implies, not_false_eq_true, false_implies, true_and]
      rw [Nat.min_eq_right (by omega)]
  obtain ⟨K, hK, em⟩ := hk
  have bey : (l1 < 0 ∨ nI K ≤ l1) → Sim (wX9_told l1 (nI w) c) (wX10_told l1 (nI w) m) (Rel T) := by
    intro q
    refine ⟨-1, c, m, fun Q hQ => ?_, fun Q hQ => ?_, R⟩
    · unfold wX9_told wX9_told_p36
      by_cases h0 : l1 < 0
      · simp only [w0, w3, h0, true_implies, not_true_eq_false, false_implies, and_true, not_false_eq_true, true_and]; exact hQ
      · have q' := q.resolve_left h0
        by_cases h1 : (100 : Int32) ≤ l1
        · simp only [w0, w3, h0, h1, true_implies, not_true_eq_false, false_implies, and_true, not_false_eq_true, true_and]; exact hQ
        · have : ¬ l1 < nI (zT (m 1)) := by
            obtain ⟨j, hj, rfl⟩ := nI_of h0
            have a1 : ¬ 100 ≤ j := fun z => h1 (nI_le (a := 100) z hj)
            have a2 : K ≤ j := (nI_leI (by omega) hj).mp q'
            exact nI_nlt (by omega) hj
          simp only [w0, w3, h0, h1, ec, this, forall_eq, true_implies, not_true_eq_false, false_implies, and_true, not_false_eq_true, true_and]; exact hQ
    · rw [em]; unfold wX10_told_p39
      rw [e_inN0 q (by omega)]; simpa using hQ
  rcases pk_ix l1 (n := K) (by omega) with q | q | ⟨j, hj, rfl⟩
  · exact bey (Or.inl q)
  · exact bey (Or.inr q)
  · have hcr : c 13 (3 * j + w) = m 1 (100 + (3 * j + w)) := R.1.1.2.2.2.2.2.2.1.2 _ (by omega) (by omega)
    refine ⟨m 1 (100 + (3 * j + w)), c, m, fun Q hQ => ?_, fun Q hQ => ?_, R⟩
    · unfold wX9_told
      rw [ix3, nI_clamp (by omega)]
      simp only [w0, w3, nI_pos (show j < 2 ^ 31 by omega), show ¬ (100 : Int32) ≤ nI j from nI_ge (b := 100) (by omega) (by decide), ec, nI_lt (show j < zT (m 1) by omega) hlt, vp_in_nI (show 3 * j + w < 300 by omega) (show 300 < 2 ^ 31 by decide), hcr, forall_eq, true_implies, not_true_eq_false, false_implies, and_true, not_false_eq_true, true_and]; exact hQ
    · rw [em]; unfold wX10_told_p39
      rw [e_inN1 hj (by omega), ix100, nI_clamp (by omega)]
      simp only [i32_10, vp_in_nI (show 100 + (3 * j + w) < 26100 by omega) (show 26100 < 2 ^ 31 by decide), forall_eq, true_implies, not_true_eq_false, false_implies, and_true, not_false_eq_true, true_and]; exact hQ
/-- how many marked cells from k on, of d, are not looked through -/
def opN (s : gS) : Nat → Nat → Nat → Nat
  | a, _, 0 => a
  | a, k, d + 1 => opN s (if aTh s (aOd s k) < aLk s (aOd s k) then a + 1 else a) (k + 1) d
theorem opN_skip {s : gS} : ∀ (j k a d : Nat), (∀ i, k ≤ i → i < k + j → ¬ aTh s (aOd s i) < aLk s (aOd s i)) → opN s a k (j + d) = opN s a (k + j) d := by
  intro j
  induction j with
  | zero => intro k a d _; rw [Nat.zero_add, Nat.add_zero]
  | succ j ih =>
    intro k a d h
    rw [show j + 1 + d = (j + d) + 1 by omega]
    show opN s (if aTh s (aOd s k) < aLk s (aOd s k) then a + 1 else a) (k + 1) (j + d) = _
    rw [if_neg (h k (Nat.le_refl _) (by omega)), ih (k + 1) a d (fun i h1 h2 => h i (by omega) (by omega)), show k + 1 + j = k + (j + 1) by omega]
theorem e_open (R : Rel T c m) : ∀ (d k a : Nat), k + d = zK (m 1) → Di (wX10_notThrough_p4 (nI a) (nI k) m) (nI (opN (m 1) a k d)) m := by
  have hM := R.made.2.1
  have hK := R.1.2.1.2.1.1.2.2.1
  have e4 := R.1.2.1.2.1.1.2.1
  intro d
  induction d with
  | zero =>
    intro k a hk Q hQ P hP
    refine hP _ _ _ ?_
    unfold wX10_notThrough_p4_b
    simp only [forall_eq, e4, show k = zK (m 1) by omega, Int32.le_refl, true_implies, not_true_eq_false, false_implies, and_true]
    exact hQ
  | succ d ih =>
    intro k a hk Q hQ P hP
    refine hP _ _ _ ?_
    obtain ⟨o1, o2, o3, o4, o5, o6, o7, o8⟩ := R.1.2.1.2.1.2.1 k (by omega)
    obtain ⟨f1, f2, f3, f4, f5, f6, f7, f8, f9, f10, f11, f12, f13, f14, f15, f16⟩ := R.cF o2 o3
    have hsz : aSz (m 1) (aOd (m 1) k) ≤ 602 := szN_le f6
    unfold wX10_notThrough_p4_b wX10_notThrough_p46
    rw [show (600 : Int32) + nI k = nI (600 + k) from nI_add 600 k, nI_clamp (by omega)]
    simp only [forall_eq, e4, nI_ge (show k < zK (m 1) by omega) (show zK (m 1) < 2 ^ 31 by omega), vp_in_nI (show 600 + k < 26100 by omega) (show 26100 < 2 ^ 31 by decide), true_implies, not_false_eq_true, false_implies, true_and]
    rw [o1, e_of9 f1, o5, e_linksOf f1 f2 f3 f5]
    have hlk : lkN (aKd (m 1) (aOd (m 1) k)) (aMn (m 1) (aOd (m 1) k)) = aLk (m 1) (aOd (m 1) k) := rfl
    rw [hlk, nI_leI (by omega) (by omega)]
    have hrec : opN (m 1) a k (d + 1) = opN (m 1) (if aTh (m 1) (aOd (m 1) k) < aLk (m 1) (aOd (m 1) k) then a + 1 else a) (k + 1) d := rfl
    rw [hrec] at hQ
    by_cases hb : aTh (m 1) (aOd (m 1) k) < aLk (m 1) (aOd (m 1) k)
    · rw [if_pos hb] at hQ
      simp only [show ¬ aLk (m 1) (aOd (m 1) k) ≤ aTh (m 1) (aOd (m 1) k) by omega, true_implies, not_false_eq_true, false_implies, true_and, nI_1]
      exact ih (k + 1) (a + 1) (by omega) Q hQ P hP
    · rw [if_neg hb] at hQ
      simp only [show aLk (m 1) (aOd (m 1) k) ≤ aTh (m 1) (aOd (m 1) k) by omega, true_implies, not_true_eq_false, false_implies, and_true, nI_1]
      rw [show nI a + 0 = nI a from Int32.add_zero _]
      exact ih (k + 1) a (by omega) Q hQ P hP
theorem x_open (R : Rel T c m) : ∀ (d k a : Nat), k + d = zK (m 1) → zL (m 1) ≤ k → Di (wX7_howManyOpen_p10 (nI a) (nI k) c) (nI (opN (m 1) a k d)) c := by
  have hM := R.made.2.1
  have hK := R.1.2.1.2.1.1.2.2.1
  have hL := R.1.2.1.2.1.1.2.2.2.2.1
  have e4 : c 6 1 = nI (zK (m 1)) := by rw [← R.1.2.1.2.1.1.2.1]; exact R.1.1.2.2.2.1.2.1
  have e2 : c 6 2 = nI (zL (m 1)) := by rw [← R.1.2.1.2.1.1.2.2.2.1]; exact R.1.1.2.2.2.1.2.2.1
  have e3 := R.1.1.2.2.2.1.2.2.2
  intro d
  induction d with
  | zero =>
    intro k a hk hl Q hQ P hP
    refine hP _ _ _ ?_
    unfold wX7_howManyOpen_p10_b
    simp only [forall_eq, e4, show k = zK (m 1) by omega, Int32.le_refl, true_implies, not_true_eq_false, false_implies, and_true]
    exact hQ
  | succ d ih =>
    intro k a hk hl Q hQ P hP
    refine hP _ _ _ ?_
    obtain ⟨o1, o2, o3, o4, o5, o6, o7, o8⟩ := R.1.2.1.2.1.2.1 k (by omega)
    obtain ⟨f1, f2, f3, f4, f5, f6, f7, f8, f9, f10, f11, f12, f13, f14, f15, f16⟩ := R.cF o2 o3
    have hsz : aSz (m 1) (aOd (m 1) k) ≤ 602 := szN_le f6
    have h7 : c 7 k = nI (aOd (m 1) k) := by rw [← o1]; exact (R.1.1.2.2.2.2.1 k (by omega)).1
    have hrec : opN (m 1) a k (d + 1) = opN (m 1) (if aTh (m 1) (aOd (m 1) k) < aLk (m 1) (aOd (m 1) k) then a + 1 else a) (k + 1) d := rfl
    rw [hrec] at hQ
    have h43 : wX7_howManyOpen_p43 P (nI a) (nI k) (nI (aTh (m 1) (aOd (m 1) k))) c Q := by
      unfold wX7_howManyOpen_p43 wX7_howManyOpen_p67
      rw [nI_clamp (by omega)]
      simp only [forall_eq, vp_in_nI (show k < 500 by omega) (show 500 < 2 ^ 31 by decide), h7, true_and]
      rw [x_linksOf f1 f11 (by omega) f12 f3 (fun q => f13 (q.elim Or.inl (fun q => Or.inr (Or.inr q))))]
      have hlk : lkN (aKd (m 1) (aOd (m 1) k)) (aMn (m 1) (aOd (m 1) k)) = aLk (m 1) (aOd (m 1) k) := rfl
      rw [hlk, nI_leI (by omega) (by omega)]
      by_cases hb : aTh (m 1) (aOd (m 1) k) < aLk (m 1) (aOd (m 1) k)
      · rw [if_pos hb] at hQ
        simp only [show ¬ aLk (m 1) (aOd (m 1) k) ≤ aTh (m 1) (aOd (m 1) k) by omega, true_implies, not_false_eq_true, false_implies, true_and, nI_1]
        exact ih (k + 1) (a + 1) (by omega) (by omega) Q hQ P hP
      · rw [if_neg hb] at hQ
        simp only [show aLk (m 1) (aOd (m 1) k) ≤ aTh (m 1) (aOd (m 1) k) by omega, true_implies, not_true_eq_false, false_implies, and_true, nI_1]
        exact ih (k + 1) a (by omega) (by omega) Q hQ P hP
    unfold wX7_howManyOpen_p10_b
    simp only [forall_eq, e4, e2, nI_ge (show k < zK (m 1) by omega) (show zK (m 1) < 2 ^ 31 by omega), true_implies, not_false_eq_true, false_implies, true_and, nI_eq (show k < 2 ^ 31 by omega) (show zL (m 1) < 2 ^ 31 by omega)]
    refine ⟨fun q => ?_, fun q => ?_⟩
    · subst q
      rw [if_pos (by omega), o5] at e3
      rw [show c 6 3 = nI (aTh (m 1) (aOd (m 1) (zL (m 1)))) from e3]; exact h43
    · rw [o8 (by omega)] at h43; exact h43
theorem op_about {l1 : Int32} (R : Rel T c m) : Sim (wX9_about l1 c) (wX10_about l1 m) (Rel T) := by
  by_cases h : l1.toInt < 0 ∨ 15 < l1.toInt
  · have key : ∀ k : Int32, 0 ≤ k.toInt → k.toInt ≤ 15 → ¬ l1 = k := fun k h1 h2 q => by rw [q] at h; omega
    refine ⟨-102, c, m, fun Q hQ => ?_, fun Q hQ => ?_, R⟩
    · unfold wX9_about
      simp only [h, true_implies, key 0 (by decide) (by decide), key 1 (by decide) (by decide), key 2 (by decide) (by decide), key 3 (by decide) (by decide), key 4 (by decide) (by decide), key 5 (by decide) (by decide), key 6 (by decide) (by decide), key 7 (by decide) (by decide), key 8 (by decide) (by decide), key 9 (by decide) (by decide), key 10 (by decide) (by decide), key 11 (by decide) (by decide), key 12 (by decide) (by decide), key 13 (by decide) (by decide), key 14 (by decide) (by decide), key 15 (by decide) (by decide), false_implies, and_true]
      exact hQ
    · unfold wX10_about
      simp only [h, true_implies, key 0 (by decide) (by decide), key 1 (by decide) (by decide), key 2 (by decide) (by decide), key 3 (by decide) (by decide), key 4 (by decide) (by decide), key 5 (by decide) (by decide), key 6 (by decide) (by decide), key 7 (by decide) (by decide), key 8 (by decide) (by decide), key 9 (by decide) (by decide), key 10 (by decide) (by decide), key 11 (by decide) (by decide), key 12 (by decide) (by decide), key 13 (by decide) (by decide), key 14 (by decide) (by decide), key 15 (by decide) (by decide), false_implies, and_true]
      exact hQ
  · obtain ⟨r1, r2, r3, r4, r5, r6, r7, r8, r9, r10⟩ := R.1.1
    rcases (by omega : l1.toInt = 0 ∨ l1.toInt = 1 ∨ l1.toInt = 2 ∨ l1.toInt = 3 ∨ l1.toInt = 4 ∨ l1.toInt = 5 ∨ l1.toInt = 6 ∨ l1.toInt = 7 ∨ l1.toInt = 8 ∨ l1.toInt = 9 ∨ l1.toInt = 10 ∨ l1.toInt = 11 ∨ l1.toInt = 12 ∨ l1.toInt = 13 ∨ l1.toInt = 14 ∨ l1.toInt = 15) with q | q | q | q | q | q | q | q | q | q | q | q | q | q | q | q
    · have e := gt_eq q 0 (by decide)
      subst e
      exact ⟨m 1 0, c, m, fun Q hQ => by simpa [wX9_about, show c 2 0 = m 1 0 from r1.1] using hQ, fun Q hQ => by simpa [wX10_about] using hQ, R⟩
    · have e := gt_eq q 1 (by decide)
      subst e
      exact ⟨m 1 0 - m 1 16, c, m, fun Q hQ => by simpa [wX9_about, show c 2 0 = m 1 0 from r1.1, show c 2 1 = m 1 16 from r1.2.1, wX2_free] using hQ, fun Q hQ => by simpa [wX10_about] using hQ, R⟩
    · have e := gt_eq q 2 (by decide)
      subst e
      exact ⟨m 1 1, c, m, fun Q hQ => by simpa [wX9_about, show c 2 2 = m 1 1 from r1.2.2.1] using hQ, fun Q hQ => by simpa [wX10_about] using hQ, R⟩
    · have e := gt_eq q 3 (by decide)
      subst e
      exact ⟨m 1 2, c, m, fun Q hQ => by simpa [wX9_about, show c 2 3 = m 1 2 from r1.2.2.2] using hQ, fun Q hQ => by simpa [wX10_about] using hQ, R⟩
    · have e := gt_eq q 4 (by decide)
      subst e
      exact ⟨m 1 5, c, m, fun Q hQ => by simpa [wX9_about, show c 12 0 = m 1 5 from r7.1 0 (by decide)] using hQ, fun Q hQ => by simpa [wX10_about] using hQ, R⟩
    · have e := gt_eq q 5 (by decide)
      subst e
      exact ⟨m 1 6, c, m, fun Q hQ => by simpa [wX9_about, show c 12 1 = m 1 6 from r7.1 1 (by decide)] using hQ, fun Q hQ => by simpa [wX10_about] using hQ, R⟩
    · have e := gt_eq q 6 (by decide)
      subst e
      exact ⟨m 1 7, c, m, fun Q hQ => by simpa [wX9_about, show c 12 2 = m 1 7 from r7.1 2 (by decide)] using hQ, fun Q hQ => by simpa [wX10_about] using hQ, R⟩
    · have e := gt_eq q 7 (by decide)
      subst e
      exact ⟨m 1 8, c, m, fun Q hQ => by simpa [wX9_about, show c 12 3 = m 1 8 from r7.1 3 (by decide)] using hQ, fun Q hQ => by simpa [wX10_about] using hQ, R⟩
    · have e := gt_eq q 8 (by decide)
      subst e
      exact ⟨m 1 9, c, m, fun Q hQ => by simpa [wX9_about, show c 12 4 = m 1 9 from r7.1 4 (by decide)] using hQ, fun Q hQ => by simpa [wX10_about] using hQ, R⟩
    · have e := gt_eq q 9 (by decide)
      subst e
      exact ⟨m 1 10, c, m, fun Q hQ => by simpa [wX9_about, show c 12 5 = m 1 10 from r7.1 5 (by decide)] using hQ, fun Q hQ => by simpa [wX10_about] using hQ, R⟩
    · have e := gt_eq q 10 (by decide)
      subst e
      exact ⟨m 1 4, c, m, fun Q hQ => by simpa [wX9_about, show c 6 1 = m 1 4 from r4.2.1] using hQ, fun Q hQ => by simpa [wX10_about] using hQ, R⟩
    · have e := gt_eq q 11 (by decide)
      subst e
      have hK := R.1.2.1.2.1.1.2.2.1
      have hL := R.1.2.1.2.1.1.2.2.2.2.1
      have hsk := opN_skip (s := m 1) (zL (m 1)) 0 0 (zK (m 1) - zL (m 1)) (fun i h1 h2 => by have := (R.1.2.1.2.1.2.1 i (by omega)).2.2.2.2.2.2.1 (by omega); omega)
      rw [Nat.zero_add, show zL (m 1) + (zK (m 1) - zL (m 1)) = zK (m 1) by omega] at hsk
      refine ⟨nI (opN (m 1) 0 0 (zK (m 1))), c, m, fun Q hQ => ?_, fun Q hQ => ?_, R⟩
      · have e2 : c 6 2 = nI (zL (m 1)) := by rw [← R.1.2.1.2.1.1.2.2.2.1]; exact r4.2.2.1
        have := x_open R (zK (m 1) - zL (m 1)) (zL (m 1)) 0 (by omega) (Nat.le_refl _) Q (by rw [← hsk]; exact hQ)
        simpa [wX9_about, wX7_howManyOpen, e2, show nI 0 = (0 : Int32) from rfl] using this
      · have := e_open R (zK (m 1)) 0 0 (by omega) Q hQ
        simpa [wX10_about, wX10_notThrough, show nI 0 = (0 : Int32) from rfl] using this
    · have e := gt_eq q 12 (by decide)
      subst e
      exact ⟨m 1 11, c, m, fun Q hQ => by simpa [wX9_about, show c 17 0 = m 1 11 from r9.1 0 (by decide)] using hQ, fun Q hQ => by simpa [wX10_about] using hQ, R⟩
    · have e := gt_eq q 13 (by decide)
      subst e
      exact ⟨m 1 12, c, m, fun Q hQ => by simpa [wX9_about, show c 17 1 = m 1 12 from r9.1 1 (by decide)] using hQ, fun Q hQ => by simpa [wX10_about] using hQ, R⟩
    · have e := gt_eq q 14 (by decide)
      subst e
      exact ⟨m 1 13, c, m, fun Q hQ => by simpa [wX9_about, show c 17 2 = m 1 13 from r9.1 2 (by decide)] using hQ, fun Q hQ => by simpa [wX10_about] using hQ, R⟩
    · have e := gt_eq q 15 (by decide)
      subst e
      exact ⟨m 1 14, c, m, fun Q hQ => by simpa [wX9_about, show c 17 3 = m 1 14 from r9.1 3 (by decide)] using hQ, fun Q hQ => by simpa [wX10_about] using hQ, R⟩
end AB

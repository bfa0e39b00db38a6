/-! size -/
section S2
variable {T : Nat} {c m : gMem}
theorem x_startAnew {n u : Nat} (hu : c 2 1 = nI u) (hu4 : u ≤ 4000) (hz : ∀ k, u ≤ k → k < 4000 → c 3 k = 0) : ∃ c', Dv (wX6_startAnew (nI n) c) c' ∧ frC n 1 c' ∧ aFX c c' := by
  apply Exists.intro
  apply And.intro
  · intro Q hQ
    unfold wX6_startAnew wX2_empty wX2_freeFrom wX3_wipe wX8_empty wX5_empty
    simp only [forall_eq, hu]
    refine ⟨0, u, rfl, rfl, Nat.zero_le _, hu4, ?_⟩
    exact hQ
  · refine ⟨⟨?_, ?_, ?_, ?_, fun k hk => ?_, fun k hk => ?_, fun k hk => ?_, fun k hk => ?_, ?_, fun k hk => ?_, fun k hk => ?_, fun k hk => ?_, fun k hk => ?_⟩, fun i hi => ?_⟩
    · simp [mp_s, mp_n, mr_n, mr_s, up_s, up_n]
    · simp [mp_s, mp_n, mr_n, mr_s, up_s, up_n]
    · simp [mp_s, mp_n, mr_n, mr_s, up_s, up_n]
    · simp [mp_s, mp_n, mr_n, mr_s, up_s, up_n]
    · simp only [Nat.reduceAdd]
      rw [mr_n (by decide), mr_n (by decide), mr_n (by decide), mp_n (by decide), mp_n (by decide), mp_n (by decide), mp_n (by decide), mp_n (by decide), mp_n (by decide), mp_n (by decide), mp_n (by decide), mp_n (by decide), mp_n (by decide), mp_n (by decide), mr_n (by decide), mp_n (by decide), mp_n (by decide), mp_n (by decide), mp_n (by decide), mr_n (by decide), mr_n (by decide), mp_n (by decide), mp_n (by decide), mp_n (by decide), mp_n (by decide), mr_s]
      by_cases h : k < u
      · rw [if_pos ⟨Nat.zero_le _, h⟩]
      · rw [if_neg (by omega)]; exact hz k (by omega) hk
    · rcases (by omega : k = 0 ∨ k = 1 ∨ k = 2 ∨ k = 3) with rfl | rfl | rfl | rfl <;> simp [mp_s, mp_n, mr_n, mr_s, up_s, up_n]
    · simp [mp_s, mp_n, mr_n, mr_s, up_s, up_n]
    · rcases (by omega : k = 0 ∨ k = 1 ∨ k = 2 ∨ k = 3 ∨ k = 4 ∨ k = 5) with rfl | rfl | rfl | rfl | rfl | rfl <;> simp [mp_s, mp_n, mr_n, mr_s, up_s, up_n]
    · simp [mp_s, mp_n, mr_n, mr_s, up_s, up_n]
    · rcases (by omega : k = 0 ∨ k = 1 ∨ k = 2 ∨ k = 3) with rfl | rfl | rfl | rfl <;> simp [mp_s, mp_n, mr_n, mr_s, up_s, up_n]
    · simp [mp_s, mp_n, mr_n, mr_s, up_s, up_n]
    · simp [mp_s, mp_n, mr_n, mr_s, up_s, up_n]
    · simp [mp_s, mp_n, mr_n, mr_s, up_s, up_n]
    · rw [mr_n (by omega), mr_n (by omega), mr_n (by omega), mp_n (by omega), mp_n (by omega), mp_n (by omega), mp_n (by omega), mp_n (by omega), mp_n (by omega), mp_n (by omega), mp_n (by omega), mp_n (by omega), mp_n (by omega), mp_n (by omega), mr_n (by omega), mp_n (by omega), mp_n (by omega), mp_n (by omega), mp_n (by omega), mr_n (by omega), mr_n (by omega), mp_n (by omega), mp_n (by omega), mp_n (by omega), mp_n (by omega), mr_n (by omega)]
theorem frC_cong {n b : Nat} {c' : gMem} (h : ∀ i, b < i → i ≤ b + 20 → c' i = c i) (g : frC n b c) : frC n b c' := by
  unfold frC at *
  rw [h (b + 1) (by omega) (by omega), h (b + 2) (by omega) (by omega), h (b + 5) (by omega) (by omega), h (b + 7) (by omega) (by omega), h (b + 11) (by omega) (by omega), h (b + 13) (by omega) (by omega), h (b + 16) (by omega) (by omega), h (b + 18) (by omega) (by omega), h (b + 19) (by omega) (by omega), h (b + 20) (by omega) (by omega)]
  exact g
theorem op_size {l1 : Int32} (R : Rel T c m) : Sim (wX9_size l1 c) (wX10_size l1 m) (Rel T) := by
  obtain ⟨hN, e1, e2, e3, e4, e5, e6⟩ := id R
  have out : (l1.toInt < 16 ∨ 4000 < l1.toInt) → Sim (wX9_size l1 c) (wX10_size l1 m) (Rel T) := by
    intro q
    refine ⟨-102, c, m, fun Q hQ => ?_, fun Q hQ => ?_, R⟩
    · unfold wX9_size
      by_cases h : l1 < 16
      · simp only [h, true_implies, not_true_eq_false, false_implies, and_true]; exact hQ
      · have : ¬ l1 ≤ 4000 := by
          intro z
          have h1 := Int32.le_iff_toInt_le.mp z
          have e : (4000 : Int32).toInt = 4000 := by decide
          have h2 := Int32.le_iff_toInt_le.mp (Int32.not_lt.mp h)
          have e' : (16 : Int32).toInt = 16 := by decide
          omega
        simp only [h, this, true_implies, not_true_eq_false, not_false_eq_true, false_implies, true_and, and_true]; exact hQ
    · unfold wX10_size
      rw [e_inI0 (a := 16) (b := 4000) q]; simpa using hQ
  rcases pk_ix l1 (n := 4001) (by decide) with q | q | ⟨n, hn, rfl⟩
  · refine out (Or.inl ?_)
    have := Int32.lt_iff_toInt_lt.mp q
    have e : (0 : Int32).toInt = 0 := by decide
    omega
  · refine out (Or.inr ?_)
    have := Int32.le_iff_toInt_le.mp q
    rw [nI_toInt (by decide)] at this
    omega
  have ht : (nI n).toInt = n := nI_toInt (by omega)
  by_cases h16 : n < 16
  · exact out (Or.inl (by omega))
  obtain ⟨a1, a2, a3, a4, a5, a6, a7, a8, a9⟩ := id R.1.2.1.1.1
  obtain ⟨c1, X, F, Fx⟩ := x_startAnew (c := c) (n := n) (u := zU (m 1)) (by rw [← a6]; exact R.1.1.1.2.1) (by omega) R.1.1.2.1.2
  obtain ⟨m1, M, ⟨M1, M2, M3⟩, M4, M5, M6, M7, M8, M9⟩ := first_l1 (x := nI n) 26100 0 (by decide) m
  have hfr : frS n (m1 1) := ⟨M1, M2, fun k h1 h2 h3 => by rw [M3 k h1 h2 h3, if_pos (Nat.zero_le _)]⟩
  refine ⟨1, mp (mp (mp (mp (mp c1 69 3 0) 0 5 0) 0 6 0) 0 8 0) 0 10 0, m1, fun Q hQ => ?_, fun Q hQ => ?_, ⟨?_, fr_SI (by omega) (by omega) hfr⟩, ?_, ?_, ?_, ?_, ?_, ?_⟩
  · unfold wX9_size
    have g1 : ¬ nI n < (16 : Int32) := nI_nlt (b := 16) (by omega) (by omega)
    have g2 : nI n ≤ (4000 : Int32) := nI_le (b := 4000) (by omega) (by decide)
    simp only [g1, g2, true_implies, not_true_eq_false, not_false_eq_true, false_implies, true_and, and_true]
    refine X _ ?_
    simp only [forall_eq]; exact hQ
  · unfold wX10_size
    rw [e_inI1 (a := 16) (b := 4000) (by rw [ht]; show (16 : Int) ≤ _; omega) (by rw [ht]; show _ ≤ (4000 : Int); omega)]
    simp only [i32_10, true_implies, not_false_eq_true, false_implies, true_and]
    unfold wX10_first
    exact M _ hQ
  · exact fr_SR hfr (frC_cong (fun i h1 h2 => by rw [mp_n (by omega), mp_n (by omega), mp_n (by omega), mp_n (by omega), mp_n (by omega)]) F)
  · rw [M7]; simp [mp_s, up_s, up_n]
  · rw [M9]; simp [mp_s, up_s, up_n]
  · rw [M8]; simp [mp_s, mp_n, up_s, up_n]
  · intro b hb
    rw [M4 4 (by decide), mp_n (by decide), mp_n (by decide), mp_n (by decide), mp_n (by decide), mp_n (by decide), Fx 64 (by decide)]; exact e4 b hb
  · exact ⟨by rw [M5]; simp [mp_s, up_s, up_n], aCI_cong (fun i h1 h2 => by rw [mp_n (by omega), mp_n (by omega), mp_n (by omega), mp_n (by omega), mp_n (by omega), Fx i (by omega)]) e5.2.1, Or.inl M5⟩
  · exact ⟨by rw [M6]; simp [mp_s, up_s, up_n], aCI_cong (fun i h1 h2 => by rw [mp_n (by omega), mp_n (by omega), mp_n (by omega), mp_n (by omega), mp_n (by omega), Fx i (by omega)]) e6.2.1, Or.inl M6⟩
end S2

/-! an act of the program -/
section DO
variable {T : Nat} {c m : gMem}
theorem e_reg {r : Nat} (hr : r < 8) {Q : Int32 → gMem → Prop} : wX10_reg (nI r) m Q = Q (m 1 (76 + r)) m := by
  unfold wX10_reg
  rw [show (76 : Int32) + nI r = nI (76 + r) from nI_add 76 _, nI_clamp (by omega)]
  simp only [forall_eq]
  exact propext ⟨fun z => z.2, fun z => ⟨vp_in_nI (by omega) (by decide), z⟩⟩
theorem Rel.rgs (R : Rel T c m) {r : Nat} (hr : r < 8) : c 19 r = m 1 (76 + r) ∧ aRg (m 1) (m 1 (76 + r)) := ⟨R.1.1.2.2.2.2.2.2.2.2.1.2.2 r hr, R.1.2.1.1.2.2.2.2.2.2 r hr⟩
set_option maxHeartbeats 4000000 in
theorem sim_does {w a b e d : Int32} {q : Nat} (R : Rel T c m) (hT : T < 2 ^ 28) (hq : q < 40) (q0 : m 1 (400 + 5 * q) = w) (q1 : m 1 (400 + 5 * q + 1) = a) (q2 : m 1 (400 + 5 * q + 2) = b) (q3 : m 1 (400 + 5 * q + 3) = e) (q4 : m 1 (400 + 5 * q + 4) = d) (hA : aAct w a b e) : ∃ r c' m', Di (wX9_perform w a b e d c) r c' ∧ Di (wX10_does (nI (400 + 5 * q)) m) (fdA r) m' ∧ Rel (T + 1000) c' m' ∧ c' 17 = c 17 := by
  obtain ⟨wn, hwn, rfl, A0, A127, A34, A56, A811, A9, A12⟩ := hA
  have i1 : nI (400 + 5 * q) + 1 = nI (400 + 5 * q + 1) := nI_add _ 1
  have i2 : nI (400 + 5 * q) + 2 = nI (400 + 5 * q + 2) := nI_add _ 2
  have i3 : nI (400 + 5 * q) + 3 = nI (400 + 5 * q + 3) := nI_add _ 3
  have i4 : nI (400 + 5 * q) + 4 = nI (400 + 5 * q + 4) := nI_add _ 4
  have v0 : vp_in (nI (400 + 5 * q)) 26100 := vp_in_nI (by omega) (by decide)
  have v1 : vp_in (nI (400 + 5 * q + 1)) 26100 := vp_in_nI (by omega) (by decide)
  have v2 : vp_in (nI (400 + 5 * q + 2)) 26100 := vp_in_nI (by omega) (by decide)
  have v3 : vp_in (nI (400 + 5 * q + 3)) 26100 := vp_in_nI (by omega) (by decide)
  have v4 : vp_in (nI (400 + 5 * q + 4)) 26100 := vp_in_nI (by omega) (by decide)
  have hM5 := R.made.2.1
  have RT := R.mono (T' := T + 1000) (by omega)
  have v8 : ∀ r, r < 8 → vp_in (nI r) 8 := fun r hr => vp_in_nI hr (by decide)
  rcases (by omega : wn = 0 ∨ wn = 1 ∨ wn = 2 ∨ wn = 3 ∨ wn = 4 ∨ wn = 5 ∨ wn = 6 ∨ wn = 7 ∨ wn = 8 ∨ wn = 9 ∨ wn = 10 ∨ wn = 11 ∨ wn = 12) with rfl | rfl | rfl | rfl | rfl | rfl | rfl | rfl | rfl | rfl | rfl | rfl | rfl
  · obtain ⟨⟨ra, ha, rfl⟩, bn, hbn, rfl, hy⟩ := A0 rfl
    obtain ⟨r, c1, m1, X1, M1, R1, o1, hr, hz⟩ := sim_makes (y := e) R hT hbn hy
    have fr1 : c1 17 = c 17 := X1.fr (fun Q h => fr_wX0_makeCell h)
    have Xh : ∀ Q : Int32 → gMem → Prop, wX9_intoRegister (nI ra) r c1 (fun r5 c4 => Q r5 c4) → wX9_perform (nI 0) (nI ra) (nI bn) e d c Q := by
      intro Q hQ
      unfold wX9_perform
      simp only [show ¬ ((nI 0).toInt < 0 ∨ 12 < (nI 0).toInt) by decide, show (nI 0 = 0) = True by decide, show ¬ nI 0 = 1 by decide, show ¬ nI 0 = 2 by decide, show ¬ nI 0 = 3 by decide, show ¬ nI 0 = 4 by decide, show ¬ nI 0 = 5 by decide, show ¬ nI 0 = 6 by decide, show ¬ nI 0 = 7 by decide, show ¬ nI 0 = 8 by decide, show ¬ nI 0 = 9 by decide, show ¬ nI 0 = 10 by decide, show ¬ nI 0 = 11 by decide, show ¬ nI 0 = 12 by decide, true_implies, not_true_eq_false, not_false_eq_true, false_implies, true_and, and_true]
      exact X1 _ hQ
    have Mh : ∀ Q : Int32 → gMem → Prop, wX10_findingOf r (mp m1 0 12 r) (fun r20 c19 => wX10_into (nI ra) r20 c19 (fun r22 c21 => Q r22 c21)) → wX10_does (nI (400 + 5 * q)) m Q := by
      intro Q hQ
      unfold wX10_does
      rw [i1, i2, i3, nI_clamp (by omega), nI_clamp (by omega), nI_clamp (by omega), nI_clamp (by omega)]
      simp only [forall_eq, v0, v1, v2, v3, q0, q1, q2, q3, show ¬ ((nI 0).toInt < 0 ∨ 11 < (nI 0).toInt) by decide, show (nI 0 = 0) = True by decide, show ¬ nI 0 = 1 by decide, show ¬ nI 0 = 2 by decide, show ¬ nI 0 = 3 by decide, show ¬ nI 0 = 4 by decide, show ¬ nI 0 = 5 by decide, show ¬ nI 0 = 6 by decide, show ¬ nI 0 = 7 by decide, show ¬ nI 0 = 8 by decide, show ¬ nI 0 = 9 by decide, show ¬ nI 0 = 10 by decide, show ¬ nI 0 = 11 by decide, true_implies, not_true_eq_false, not_false_eq_true, false_implies, true_and, and_true]
      exact M1 _ hQ
    have R2 := R1.set12 r
    have g2 : mp m1 0 12 r 0 12 = r := by rw [mp_s, up_s]
    have bad : ∀ j : Nat, 1 ≤ j → j ≤ 8 → r = (-10) - nI j → fdO r → ∃ r c' m', Di (wX9_perform (nI 0) (nI ra) (nI bn) e d c) r c' ∧ Di (wX10_does (nI (400 + 5 * q)) m) (fdA r) m' ∧ Rel (T + 1000) c' m' ∧ c' 17 = c 17 := by
      intro j j1 j8 er ho
      obtain ⟨I1, I2⟩ := into_no (c := c1) (m := mp m1 0 12 r) ha j1 j8
      rw [← er] at I1
      refine ⟨r, c1, mp m1 0 12 r, fun Q hQ => Xh Q (I1 _ hQ), fun Q hQ => Mh Q ?_, R2, fr1⟩
      rw [fd_of ho]
      have e1 : fdA r = nI j := by rw [er]; exact fdA_fl j1 j8
      rw [e1] at hQ ⊢
      exact I2 _ hQ
    rcases hr with hr | hr | ⟨t, ht, hr⟩
    · exact bad 4 (by decide) (by decide) (by rw [hr]; decide) (by rw [hr]; unfold fdO; decide)
    · exact bad 6 (by decide) (by decide) (by rw [hr]; decide) (by rw [hr]; unfold fdO; decide)
    · have hM1 := R1.made.2.1
      have hrg : aRg (mp m1 0 12 r 1) r := by rw [mp_n (by decide)]; exact Or.inr ⟨t, ht, hr⟩
      have f0 : fdA r = 0 := by rw [hr]; exact fdA_nI (by omega)
      obtain ⟨c2, m2, I1, I2, R3, fr2⟩ := into_ok R2 ha g2 hrg
      refine ⟨r, c2, m2, fun Q hQ => Xh Q (I1 _ hQ), fun Q hQ => Mh Q ?_, R3, fr2.trans fr1⟩
      rw [fd_of (by rw [hr]; exact Or.inl (nI_le (a := 0) (by omega) (by omega))), f0]
      rw [f0] at hQ
      exact I2 _ hQ
  · obtain ⟨⟨ra, ha, rfl⟩, re, he, rfl⟩ := A127 (by decide)
    obtain ⟨r, c1, m1, X1, M1, R1⟩ := sim_setLink (i := b) R (R.rgs ha).2 (R.rgs he).2
    refine ⟨r, c1, m1, fun Q hQ => ?_, fun Q hQ => ?_, R1.mono (by omega), X1.fr (fun Q h => fr_wX0_setLink h)⟩
    · unfold wX9_perform
      simp only [show ¬ ((nI 1).toInt < 0 ∨ 12 < (nI 1).toInt) by decide, show ¬ nI 1 = 0 by decide, show (nI 1 = 1) = True by decide, show ¬ nI 1 = 2 by decide, show ¬ nI 1 = 3 by decide, show ¬ nI 1 = 4 by decide, show ¬ nI 1 = 5 by decide, show ¬ nI 1 = 6 by decide, show ¬ nI 1 = 7 by decide, show ¬ nI 1 = 8 by decide, show ¬ nI 1 = 9 by decide, show ¬ nI 1 = 10 by decide, show ¬ nI 1 = 11 by decide, show ¬ nI 1 = 12 by decide, true_implies, not_true_eq_false, not_false_eq_true, false_implies, true_and, and_true]
      rw [nI_clamp (by omega), nI_clamp (by omega), (R.rgs ha).1, (R.rgs he).1]
      simp only [forall_eq, v8 _ ha, v8 _ he, true_and]
      exact X1 _ hQ
    · unfold wX10_does
      rw [i1, i2, i3, nI_clamp (by omega), nI_clamp (by omega), nI_clamp (by omega), nI_clamp (by omega)]
      simp only [forall_eq, v0, v1, v2, v3, q0, q1, q2, q3, show ¬ ((nI 1).toInt < 0 ∨ 11 < (nI 1).toInt) by decide, show ¬ nI 1 = 0 by decide, show (nI 1 = 1) = True by decide, show ¬ nI 1 = 2 by decide, show ¬ nI 1 = 3 by decide, show ¬ nI 1 = 4 by decide, show ¬ nI 1 = 5 by decide, show ¬ nI 1 = 6 by decide, show ¬ nI 1 = 7 by decide, show ¬ nI 1 = 8 by decide, show ¬ nI 1 = 9 by decide, show ¬ nI 1 = 10 by decide, show ¬ nI 1 = 11 by decide, true_implies, not_true_eq_false, not_false_eq_true, false_implies, true_and, and_true]
      rw [e_reg ha, e_reg he]
      refine M1 _ ?_
      rw [fd_of (X1.rg (fun Q h => rg_setLink h))]; exact hQ
  · obtain ⟨⟨ra, ha, rfl⟩, re, he, rfl⟩ := A127 (by decide)
    obtain ⟨r, f, c1, m1, X1, M1, R1, hf⟩ := sim_getsH (i := b) R (R.rgs ha).2
    have fr1 : c1 17 = c 17 := X1.fr (fun Q h => fr_wX0_linkOf h)
    have Xh : ∀ Q : Int32 → gMem → Prop, wX9_intoRegister (nI re) r c1 (fun r5 c4 => Q r5 c4) → wX9_perform (nI 2) (nI ra) b (nI re) d c Q := by
      intro Q hQ
      unfold wX9_perform
      simp only [show ¬ ((nI 2).toInt < 0 ∨ 12 < (nI 2).toInt) by decide, show ¬ nI 2 = 0 by decide, show ¬ nI 2 = 1 by decide, show (nI 2 = 2) = True by decide, show ¬ nI 2 = 3 by decide, show ¬ nI 2 = 4 by decide, show ¬ nI 2 = 5 by decide, show ¬ nI 2 = 6 by decide, show ¬ nI 2 = 7 by decide, show ¬ nI 2 = 8 by decide, show ¬ nI 2 = 9 by decide, show ¬ nI 2 = 10 by decide, show ¬ nI 2 = 11 by decide, show ¬ nI 2 = 12 by decide, true_implies, not_true_eq_false, not_false_eq_true, false_implies, true_and, and_true]
      rw [nI_clamp (by omega), (R.rgs ha).1]
      simp only [forall_eq, v8 _ ha, true_and]
      exact X1 _ hQ
    have Mh : ∀ Q : Int32 → gMem → Prop, wX10_into (nI re) f m1 (fun r22 c21 => Q r22 c21) → wX10_does (nI (400 + 5 * q)) m Q := by
      intro Q hQ
      unfold wX10_does
      rw [i1, i2, i3, nI_clamp (by omega), nI_clamp (by omega), nI_clamp (by omega), nI_clamp (by omega)]
      simp only [forall_eq, v0, v1, v2, v3, q0, q1, q2, q3, show ¬ ((nI 2).toInt < 0 ∨ 11 < (nI 2).toInt) by decide, show ¬ nI 2 = 0 by decide, show ¬ nI 2 = 1 by decide, show (nI 2 = 2) = True by decide, show ¬ nI 2 = 3 by decide, show ¬ nI 2 = 4 by decide, show ¬ nI 2 = 5 by decide, show ¬ nI 2 = 6 by decide, show ¬ nI 2 = 7 by decide, show ¬ nI 2 = 8 by decide, show ¬ nI 2 = 9 by decide, show ¬ nI 2 = 10 by decide, show ¬ nI 2 = 11 by decide, true_implies, not_true_eq_false, not_false_eq_true, false_implies, true_and, and_true]
      rw [e_reg ha]
      exact M1 _ hQ
    rcases hf with ⟨rfl, hg, f0, hrg⟩ | ⟨j, j1, j8, rfl, er⟩
    · obtain ⟨c2, m2, I1, I2, R3, fr2⟩ := into_ok R1 he hg hrg
      refine ⟨r, c2, m2, fun Q hQ => Xh Q (I1 _ hQ), fun Q hQ => Mh Q (I2 _ ?_), R3.mono (by omega), fr2.trans fr1⟩
      rw [f0] at hQ; exact hQ
    · obtain ⟨I1, I2⟩ := into_no (c := c1) (m := m1) he j1 j8
      rw [← er] at I1
      refine ⟨r, c1, m1, fun Q hQ => Xh Q (I1 _ hQ), fun Q hQ => Mh Q (I2 _ ?_), R1.mono (by omega), fr1⟩
      rw [er, fdA_fl j1 j8] at hQ; exact hQ
  · obtain ⟨⟨ra, ha, rfl⟩, rb, hb, rfl⟩ := A34 (by decide)
    obtain ⟨r, f, c1, m1, X1, M1, R1, hf⟩ := sim_roots R ha (R.rgs hb).2
    have ef : fdA r = f := by
      rcases hf with ⟨rfl, -, f0⟩ | ⟨j, j1, j8, rfl, er⟩
      · exact f0
      · rw [er]; exact fdA_fl j1 j8
    refine ⟨r, c1, m1, fun Q hQ => ?_, fun Q hQ => ?_, R1.mono (by omega), X1.fr (fun Q h => fr_wX0_setRoot h)⟩
    · unfold wX9_perform
      simp only [show ¬ ((nI 3).toInt < 0 ∨ 12 < (nI 3).toInt) by decide, show ¬ nI 3 = 0 by decide, show ¬ nI 3 = 1 by decide, show ¬ nI 3 = 2 by decide, show (nI 3 = 3) = True by decide, show ¬ nI 3 = 4 by decide, show ¬ nI 3 = 5 by decide, show ¬ nI 3 = 6 by decide, show ¬ nI 3 = 7 by decide, show ¬ nI 3 = 8 by decide, show ¬ nI 3 = 9 by decide, show ¬ nI 3 = 10 by decide, show ¬ nI 3 = 11 by decide, show ¬ nI 3 = 12 by decide, true_implies, not_true_eq_false, not_false_eq_true, false_implies, true_and, and_true]
      rw [nI_clamp (by omega), (R.rgs hb).1]
      simp only [forall_eq, v8 _ hb, true_and]
      exact X1 _ hQ
    · unfold wX10_does
      rw [i1, i2, i3, nI_clamp (by omega), nI_clamp (by omega), nI_clamp (by omega), nI_clamp (by omega)]
      simp only [forall_eq, v0, v1, v2, v3, q0, q1, q2, q3, show ¬ ((nI 3).toInt < 0 ∨ 11 < (nI 3).toInt) by decide, show ¬ nI 3 = 0 by decide, show ¬ nI 3 = 1 by decide, show ¬ nI 3 = 2 by decide, show (nI 3 = 3) = True by decide, show ¬ nI 3 = 4 by decide, show ¬ nI 3 = 5 by decide, show ¬ nI 3 = 6 by decide, show ¬ nI 3 = 7 by decide, show ¬ nI 3 = 8 by decide, show ¬ nI 3 = 9 by decide, show ¬ nI 3 = 10 by decide, show ¬ nI 3 = 11 by decide, true_implies, not_true_eq_false, not_false_eq_true, false_implies, true_and, and_true]
      rw [e_reg hb]
      refine M1 _ ?_
      rw [ef] at hQ; exact hQ
  · obtain ⟨⟨ra, ha, rfl⟩, rb, hb, rfl⟩ := A34 (by decide)
    have hv : aHv (m 1) (m 1 (20 + ra)) := R.1.2.1.1.2.2.2.2.1 ra ha
    have hcr : c 20 ra = m 1 (20 + ra) := R.1.1.2.2.2.2.2.2.2.2.2.1 ra ha
    have R2 := R.set12 (m 1 (20 + ra))
    obtain ⟨c2, m2, I1, I2, R3, fr2⟩ := into_ok (r := m 1 (20 + ra)) R2 hb (by rw [mp_s, up_s]) (by rw [mp_n (by decide)]; exact hv.rg)
    refine ⟨m 1 (20 + ra), c2, m2, fun Q hQ => ?_, fun Q hQ => ?_, R3.mono (by omega), fr2⟩
    · unfold wX9_perform
      simp only [show ¬ ((nI 4).toInt < 0 ∨ 12 < (nI 4).toInt) by decide, show ¬ nI 4 = 0 by decide, show ¬ nI 4 = 1 by decide, show ¬ nI 4 = 2 by decide, show ¬ nI 4 = 3 by decide, show (nI 4 = 4) = True by decide, show ¬ nI 4 = 5 by decide, show ¬ nI 4 = 6 by decide, show ¬ nI 4 = 7 by decide, show ¬ nI 4 = 8 by decide, show ¬ nI 4 = 9 by decide, show ¬ nI 4 = 10 by decide, show ¬ nI 4 = 11 by decide, show ¬ nI 4 = 12 by decide, true_implies, not_true_eq_false, not_false_eq_true, false_implies, true_and, and_true]
      rw [nI_clamp (by omega), hcr]
      simp only [forall_eq]
      exact ⟨vp_in_nI ha (by decide), I1 _ hQ⟩
    · unfold wX10_does
      rw [i1, i2, i3, nI_clamp (by omega), nI_clamp (by omega), nI_clamp (by omega), nI_clamp (by omega)]
      simp only [forall_eq, v0, v1, v2, v3, q0, q1, q2, q3, show ¬ ((nI 4).toInt < 0 ∨ 11 < (nI 4).toInt) by decide, show ¬ nI 4 = 0 by decide, show ¬ nI 4 = 1 by decide, show ¬ nI 4 = 2 by decide, show ¬ nI 4 = 3 by decide, show (nI 4 = 4) = True by decide, show ¬ nI 4 = 5 by decide, show ¬ nI 4 = 6 by decide, show ¬ nI 4 = 7 by decide, show ¬ nI 4 = 8 by decide, show ¬ nI 4 = 9 by decide, show ¬ nI 4 = 10 by decide, show ¬ nI 4 = 11 by decide, true_implies, not_true_eq_false, not_false_eq_true, false_implies, true_and, and_true]
      rw [show (20 : Int32) + nI ra = nI (20 + ra) from nI_add 20 _, nI_clamp (by omega)]
      refine ⟨vp_in_nI (by omega) (by decide), I2 _ ?_⟩
      rw [fdA_hv hM5 hv.rg] at hQ; exact hQ
  · obtain ⟨⟨ra, ha, rfl⟩, rb, hb, rfl⟩ := A56 (by decide)
    obtain ⟨r, f, c1, m1, X1, M1, R1, hf⟩ := sim_looksH R (R.rgs ha).2
    have fr1 : c1 17 = c 17 := X1.fr (fun Q h => fr_wX0_lookAt h)
    have Xh : ∀ Q : Int32 → gMem → Prop, wX9_intoRegister (nI rb) r c1 (fun r5 c4 => Q r5 c4) → wX9_perform (nI 5) (nI ra) (nI rb) e d c Q := by
      intro Q hQ
      unfold wX9_perform
      simp only [show ¬ ((nI 5).toInt < 0 ∨ 12 < (nI 5).toInt) by decide, show ¬ nI 5 = 0 by decide, show ¬ nI 5 = 1 by decide, show ¬ nI 5 = 2 by decide, show ¬ nI 5 = 3 by decide, show ¬ nI 5 = 4 by decide, show (nI 5 = 5) = True by decide, show ¬ nI 5 = 6 by decide, show ¬ nI 5 = 7 by decide, show ¬ nI 5 = 8 by decide, show ¬ nI 5 = 9 by decide, show ¬ nI 5 = 10 by decide, show ¬ nI 5 = 11 by decide, show ¬ nI 5 = 12 by decide, true_implies, not_true_eq_false, not_false_eq_true, false_implies, true_and, and_true]
      rw [nI_clamp (by omega), (R.rgs ha).1]
      simp only [forall_eq, v8 _ ha, true_and]
      exact X1 _ hQ
    have Mh : ∀ Q : Int32 → gMem → Prop, wX10_into (nI rb) f m1 (fun r22 c21 => Q r22 c21) → wX10_does (nI (400 + 5 * q)) m Q := by
      intro Q hQ
      unfold wX10_does
      rw [i1, i2, i3, nI_clamp (by omega), nI_clamp (by omega), nI_clamp (by omega), nI_clamp (by omega)]
      simp only [forall_eq, v0, v1, v2, v3, q0, q1, q2, q3, show ¬ ((nI 5).toInt < 0 ∨ 11 < (nI 5).toInt) by decide, show ¬ nI 5 = 0 by decide, show ¬ nI 5 = 1 by decide, show ¬ nI 5 = 2 by decide, show ¬ nI 5 = 3 by decide, show ¬ nI 5 = 4 by decide, show (nI 5 = 5) = True by decide, show ¬ nI 5 = 6 by decide, show ¬ nI 5 = 7 by decide, show ¬ nI 5 = 8 by decide, show ¬ nI 5 = 9 by decide, show ¬ nI 5 = 10 by decide, show ¬ nI 5 = 11 by decide, true_implies, not_true_eq_false, not_false_eq_true, false_implies, true_and, and_true]
      rw [e_reg ha]
      exact M1 _ hQ
    rcases hf with ⟨rfl, hg, f0, hrg⟩ | ⟨j, j1, j8, rfl, er⟩
    · obtain ⟨c2, m2, I1, I2, R3, fr2⟩ := into_ok R1 hb hg hrg
      refine ⟨r, c2, m2, fun Q hQ => Xh Q (I1 _ hQ), fun Q hQ => Mh Q (I2 _ ?_), R3.mono (by omega), fr2.trans fr1⟩
      rw [f0] at hQ; exact hQ
    · obtain ⟨I1, I2⟩ := into_no (c := c1) (m := m1) hb j1 j8
      rw [← er] at I1
      refine ⟨r, c1, m1, fun Q hQ => Xh Q (I1 _ hQ), fun Q hQ => Mh Q (I2 _ ?_), R1.mono (by omega), fr1⟩
      rw [er, fdA_fl j1 j8] at hQ; exact hQ
  · obtain ⟨⟨ra, ha, rfl⟩, rb, hb, rfl⟩ := A56 (by decide)
    obtain ⟨r, c1, m1, X1, M1, R1⟩ := sim_weakens R (R.rgs ha).2 (R.rgs hb).2
    refine ⟨r, c1, m1, fun Q hQ => ?_, fun Q hQ => ?_, R1.mono (by omega), X1.fr (fun Q h => fr_wX0_setWeakLink h)⟩
    · unfold wX9_perform
      simp only [show ¬ ((nI 6).toInt < 0 ∨ 12 < (nI 6).toInt) by decide, show ¬ nI 6 = 0 by decide, show ¬ nI 6 = 1 by decide, show ¬ nI 6 = 2 by decide, show ¬ nI 6 = 3 by decide, show ¬ nI 6 = 4 by decide, show ¬ nI 6 = 5 by decide, show (nI 6 = 6) = True by decide, show ¬ nI 6 = 7 by decide, show ¬ nI 6 = 8 by decide, show ¬ nI 6 = 9 by decide, show ¬ nI 6 = 10 by decide, show ¬ nI 6 = 11 by decide, show ¬ nI 6 = 12 by decide, true_implies, not_true_eq_false, not_false_eq_true, false_implies, true_and, and_true]
      rw [nI_clamp (by omega), nI_clamp (by omega), (R.rgs ha).1, (R.rgs hb).1]
      simp only [forall_eq, v8 _ ha, v8 _ hb, true_and]
      exact X1 _ hQ
    · unfold wX10_does
      rw [i1, i2, i3, nI_clamp (by omega), nI_clamp (by omega), nI_clamp (by omega), nI_clamp (by omega)]
      simp only [forall_eq, v0, v1, v2, v3, q0, q1, q2, q3, show ¬ ((nI 6).toInt < 0 ∨ 11 < (nI 6).toInt) by decide, show ¬ nI 6 = 0 by decide, show ¬ nI 6 = 1 by decide, show ¬ nI 6 = 2 by decide, show ¬ nI 6 = 3 by decide, show ¬ nI 6 = 4 by decide, show ¬ nI 6 = 5 by decide, show (nI 6 = 6) = True by decide, show ¬ nI 6 = 7 by decide, show ¬ nI 6 = 8 by decide, show ¬ nI 6 = 9 by decide, show ¬ nI 6 = 10 by decide, show ¬ nI 6 = 11 by decide, true_implies, not_true_eq_false, not_false_eq_true, false_implies, true_and, and_true]
      rw [e_reg ha, e_reg hb]
      refine M1 _ ?_
      rw [fd_of (X1.rg (fun Q h => rg_setWeakLink h))]; exact hQ
  · obtain ⟨⟨ra, ha, rfl⟩, re, he, rfl⟩ := A127 (by decide)
    obtain ⟨r, f, c1, m1, X1, M1, R1, hf⟩ := sim_copies (i := b) (j := 0) (n := d) R (R.rgs ha).2 (R.rgs he).2
    have ef : fdA r = f := by
      rcases hf with ⟨rfl, rfl, f0⟩ | ⟨j, j1, j8, rfl, er⟩
      · exact f0
      · rw [er]; exact fdA_fl j1 j8
    refine ⟨r, c1, m1, fun Q hQ => ?_, fun Q hQ => ?_, R1.mono (by omega), X1.fr (fun Q h => fr_wX0_copyLinks h)⟩
    · unfold wX9_perform
      simp only [show ¬ ((nI 7).toInt < 0 ∨ 12 < (nI 7).toInt) by decide, show ¬ nI 7 = 0 by decide, show ¬ nI 7 = 1 by decide, show ¬ nI 7 = 2 by decide, show ¬ nI 7 = 3 by decide, show ¬ nI 7 = 4 by decide, show ¬ nI 7 = 5 by decide, show ¬ nI 7 = 6 by decide, show (nI 7 = 7) = True by decide, show ¬ nI 7 = 8 by decide, show ¬ nI 7 = 9 by decide, show ¬ nI 7 = 10 by decide, show ¬ nI 7 = 11 by decide, show ¬ nI 7 = 12 by decide, true_implies, not_true_eq_false, not_false_eq_true, false_implies, true_and, and_true]
      rw [nI_clamp (by omega), nI_clamp (by omega), (R.rgs ha).1, (R.rgs he).1]
      simp only [forall_eq, v8 _ ha, v8 _ he, true_and]
      exact X1 _ hQ
    · unfold wX10_does
      rw [i1, i2, i3, nI_clamp (by omega), nI_clamp (by omega), nI_clamp (by omega), nI_clamp (by omega)]
      simp only [forall_eq, v0, v1, v2, v3, q0, q1, q2, q3, show ¬ ((nI 7).toInt < 0 ∨ 11 < (nI 7).toInt) by decide, show ¬ nI 7 = 0 by decide, show ¬ nI 7 = 1 by decide, show ¬ nI 7 = 2 by decide, show ¬ nI 7 = 3 by decide, show ¬ nI 7 = 4 by decide, show ¬ nI 7 = 5 by decide, show ¬ nI 7 = 6 by decide, show (nI 7 = 7) = True by decide, show ¬ nI 7 = 8 by decide, show ¬ nI 7 = 9 by decide, show ¬ nI 7 = 10 by decide, show ¬ nI 7 = 11 by decide, true_implies, not_true_eq_false, not_false_eq_true, false_implies, true_and, and_true]
      rw [e_reg ha, e_reg he, i4, nI_clamp (by omega), q4]
      refine ⟨v4, M1 _ ?_⟩
      rw [ef] at hQ; exact hQ
  · obtain ⟨ra, ha, rfl⟩ := A811 (by decide)
    have R2 := R.reg (v := -1) ha (Or.inl rfl)
    refine ⟨-1, mp c 19 ra (-1), mp m 1 (76 + ra) (-1), fun Q hQ => ?_, fun Q hQ => ?_, R2.mono (by omega), mp_n (by decide)⟩
    · unfold wX9_perform
      simp only [show ¬ ((nI 8).toInt < 0 ∨ 12 < (nI 8).toInt) by decide, show ¬ nI 8 = 0 by decide, show ¬ nI 8 = 1 by decide, show ¬ nI 8 = 2 by decide, show ¬ nI 8 = 3 by decide, show ¬ nI 8 = 4 by decide, show ¬ nI 8 = 5 by decide, show ¬ nI 8 = 6 by decide, show ¬ nI 8 = 7 by decide, show (nI 8 = 8) = True by decide, show ¬ nI 8 = 9 by decide, show ¬ nI 8 = 10 by decide, show ¬ nI 8 = 11 by decide, show ¬ nI 8 = 12 by decide, true_implies, not_true_eq_false, not_false_eq_true, false_implies, true_and, and_true]
      unfold wX9_intoRegister
      rw [x_findingIn, fdA_m1, nI_clamp (by omega)]
      simp only [true_implies, not_true_eq_false, false_implies, and_true, forall_eq]
      exact ⟨v8 _ ha, hQ⟩
    · unfold wX10_does
      rw [i1, i2, i3, nI_clamp (by omega), nI_clamp (by omega), nI_clamp (by omega), nI_clamp (by omega)]
      simp only [forall_eq, v0, v1, v2, v3, q0, q1, q2, q3, show ¬ ((nI 8).toInt < 0 ∨ 11 < (nI 8).toInt) by decide, show ¬ nI 8 = 0 by decide, show ¬ nI 8 = 1 by decide, show ¬ nI 8 = 2 by decide, show ¬ nI 8 = 3 by decide, show ¬ nI 8 = 4 by decide, show ¬ nI 8 = 5 by decide, show ¬ nI 8 = 6 by decide, show ¬ nI 8 = 7 by decide, show (nI 8 = 8) = True by decide, show ¬ nI 8 = 9 by decide, show ¬ nI 8 = 10 by decide, show ¬ nI 8 = 11 by decide, true_implies, not_true_eq_false, not_false_eq_true, false_implies, true_and, and_true]
      rw [show (76 : Int32) + nI ra = nI (76 + ra) from nI_add 76 _, nI_clamp (by omega)]
      rw [fdA_m1] at hQ
      exact ⟨vp_in_nI (by omega) (by decide), hQ⟩
  · obtain ⟨ra, ha, rfl⟩ := A9 rfl
    obtain ⟨c1, m1, X1, M1, R1, -⟩ := sim_keep R
    obtain ⟨r, c2, m2, hr, X2, M2, R2, -⟩ := sim_on (n := ra) (by omega) R1 (by omega)
    have X3 : Di (wX9_stepKeepingBefore (nI ra) c) (nI r) c2 := fun Q hQ => by
      unfold wX9_stepKeepingBefore
      exact X1 _ (X2 _ hQ)
    refine ⟨nI r, c2, m2, fun Q hQ => ?_, fun Q hQ => ?_, R2.mono (by omega), X3.fr (fun Q h => fr_wX9_stepKeepingBefore h)⟩
    · unfold wX9_perform
      simp only [show ¬ ((nI 9).toInt < 0 ∨ 12 < (nI 9).toInt) by decide, show ¬ nI 9 = 0 by decide, show ¬ nI 9 = 1 by decide, show ¬ nI 9 = 2 by decide, show ¬ nI 9 = 3 by decide, show ¬ nI 9 = 4 by decide, show ¬ nI 9 = 5 by decide, show ¬ nI 9 = 6 by decide, show ¬ nI 9 = 7 by decide, show ¬ nI 9 = 8 by decide, show (nI 9 = 9) = True by decide, show ¬ nI 9 = 10 by decide, show ¬ nI 9 = 11 by decide, show ¬ nI 9 = 12 by decide, true_implies, not_true_eq_false, not_false_eq_true, false_implies, true_and, and_true]
      exact X3 _ hQ
    · unfold wX10_does
      rw [i1, i2, i3, nI_clamp (by omega), nI_clamp (by omega), nI_clamp (by omega), nI_clamp (by omega)]
      simp only [forall_eq, v0, v1, v2, v3, q0, q1, q2, q3, show ¬ ((nI 9).toInt < 0 ∨ 11 < (nI 9).toInt) by decide, show ¬ nI 9 = 0 by decide, show ¬ nI 9 = 1 by decide, show ¬ nI 9 = 2 by decide, show ¬ nI 9 = 3 by decide, show ¬ nI 9 = 4 by decide, show ¬ nI 9 = 5 by decide, show ¬ nI 9 = 6 by decide, show ¬ nI 9 = 7 by decide, show ¬ nI 9 = 8 by decide, show (nI 9 = 9) = True by decide, show ¬ nI 9 = 10 by decide, show ¬ nI 9 = 11 by decide, true_implies, not_true_eq_false, not_false_eq_true, false_implies, true_and, and_true]
      rw [fdA_nI (by omega)] at hQ
      exact M1 _ (M2 _ hQ)
  · by_cases ea : a = 0
    · refine ⟨-18, c, m, fun Q hQ => ?_, fun Q hQ => ?_, RT, rfl⟩
      · unfold wX9_perform
        simp only [show ¬ ((nI 10).toInt < 0 ∨ 12 < (nI 10).toInt) by decide, show ¬ nI 10 = 0 by decide, show ¬ nI 10 = 1 by decide, show ¬ nI 10 = 2 by decide, show ¬ nI 10 = 3 by decide, show ¬ nI 10 = 4 by decide, show ¬ nI 10 = 5 by decide, show ¬ nI 10 = 6 by decide, show ¬ nI 10 = 7 by decide, show ¬ nI 10 = 8 by decide, show ¬ nI 10 = 9 by decide, show (nI 10 = 10) = True by decide, show ¬ nI 10 = 11 by decide, show ¬ nI 10 = 12 by decide, true_implies, not_true_eq_false, not_false_eq_true, false_implies, true_and, and_true]
        exact ⟨fun _ => hQ, fun z => absurd ea z⟩
      · unfold wX10_does
        rw [i1, i2, i3, nI_clamp (by omega), nI_clamp (by omega), nI_clamp (by omega), nI_clamp (by omega)]
        simp only [forall_eq, v0, v1, v2, v3, q0, q1, q2, q3, show ¬ ((nI 10).toInt < 0 ∨ 11 < (nI 10).toInt) by decide, show ¬ nI 10 = 0 by decide, show ¬ nI 10 = 1 by decide, show ¬ nI 10 = 2 by decide, show ¬ nI 10 = 3 by decide, show ¬ nI 10 = 4 by decide, show ¬ nI 10 = 5 by decide, show ¬ nI 10 = 6 by decide, show ¬ nI 10 = 7 by decide, show ¬ nI 10 = 8 by decide, show ¬ nI 10 = 9 by decide, show (nI 10 = 10) = True by decide, show ¬ nI 10 = 11 by decide, true_implies, not_true_eq_false, not_false_eq_true, false_implies, true_and, and_true]
        exact ⟨fun _ => hQ, fun z => absurd ea z⟩
    · refine ⟨-17, c, m, fun Q hQ => ?_, fun Q hQ => ?_, RT, rfl⟩
      · unfold wX9_perform
        simp only [show ¬ ((nI 10).toInt < 0 ∨ 12 < (nI 10).toInt) by decide, show ¬ nI 10 = 0 by decide, show ¬ nI 10 = 1 by decide, show ¬ nI 10 = 2 by decide, show ¬ nI 10 = 3 by decide, show ¬ nI 10 = 4 by decide, show ¬ nI 10 = 5 by decide, show ¬ nI 10 = 6 by decide, show ¬ nI 10 = 7 by decide, show ¬ nI 10 = 8 by decide, show ¬ nI 10 = 9 by decide, show (nI 10 = 10) = True by decide, show ¬ nI 10 = 11 by decide, show ¬ nI 10 = 12 by decide, true_implies, not_true_eq_false, not_false_eq_true, false_implies, true_and, and_true]
        exact ⟨fun z => absurd z ea, fun _ => hQ⟩
      · unfold wX10_does
        rw [i1, i2, i3, nI_clamp (by omega), nI_clamp (by omega), nI_clamp (by omega), nI_clamp (by omega)]
        simp only [forall_eq, v0, v1, v2, v3, q0, q1, q2, q3, show ¬ ((nI 10).toInt < 0 ∨ 11 < (nI 10).toInt) by decide, show ¬ nI 10 = 0 by decide, show ¬ nI 10 = 1 by decide, show ¬ nI 10 = 2 by decide, show ¬ nI 10 = 3 by decide, show ¬ nI 10 = 4 by decide, show ¬ nI 10 = 5 by decide, show ¬ nI 10 = 6 by decide, show ¬ nI 10 = 7 by decide, show ¬ nI 10 = 8 by decide, show ¬ nI 10 = 9 by decide, show (nI 10 = 10) = True by decide, show ¬ nI 10 = 11 by decide, true_implies, not_true_eq_false, not_false_eq_true, false_implies, true_and, and_true]
        exact ⟨fun z => absurd z ea, fun _ => hQ⟩
  · obtain ⟨ra, ha, rfl⟩ := A811 (by decide)
    obtain ⟨r, f, c1, m1, X1, M1, R1, hf⟩ := sim_puts (i := b) (v := e) R (R.rgs ha).2
    have ef : fdA r = f := by
      rcases hf with ⟨rfl, -, f0⟩ | ⟨j, j1, j8, rfl, er⟩
      · exact f0
      · rw [er]; exact fdA_fl j1 j8
    refine ⟨r, c1, m1, fun Q hQ => ?_, fun Q hQ => ?_, R1.mono (by omega), X1.fr (fun Q h => fr_wX0_setByte h)⟩
    · unfold wX9_perform
      simp only [show ¬ ((nI 11).toInt < 0 ∨ 12 < (nI 11).toInt) by decide, show ¬ nI 11 = 0 by decide, show ¬ nI 11 = 1 by decide, show ¬ nI 11 = 2 by decide, show ¬ nI 11 = 3 by decide, show ¬ nI 11 = 4 by decide, show ¬ nI 11 = 5 by decide, show ¬ nI 11 = 6 by decide, show ¬ nI 11 = 7 by decide, show ¬ nI 11 = 8 by decide, show ¬ nI 11 = 9 by decide, show ¬ nI 11 = 10 by decide, show (nI 11 = 11) = True by decide, show ¬ nI 11 = 12 by decide, true_implies, not_true_eq_false, not_false_eq_true, false_implies, true_and, and_true]
      rw [nI_clamp (by omega), (R.rgs ha).1]
      simp only [forall_eq, v8 _ ha, true_and]
      exact X1 _ hQ
    · unfold wX10_does
      rw [i1, i2, i3, nI_clamp (by omega), nI_clamp (by omega), nI_clamp (by omega), nI_clamp (by omega)]
      simp only [forall_eq, v0, v1, v2, v3, q0, q1, q2, q3, show ¬ ((nI 11).toInt < 0 ∨ 11 < (nI 11).toInt) by decide, show ¬ nI 11 = 0 by decide, show ¬ nI 11 = 1 by decide, show ¬ nI 11 = 2 by decide, show ¬ nI 11 = 3 by decide, show ¬ nI 11 = 4 by decide, show ¬ nI 11 = 5 by decide, show ¬ nI 11 = 6 by decide, show ¬ nI 11 = 7 by decide, show ¬ nI 11 = 8 by decide, show ¬ nI 11 = 9 by decide, show ¬ nI 11 = 10 by decide, show (nI 11 = 11) = True by decide, true_implies, not_true_eq_false, not_false_eq_true, false_implies, true_and, and_true]
      rw [e_reg ha]
      refine M1 _ ?_
      rw [ef] at hQ; exact hQ
  · obtain ⟨⟨ra, ha, rfl⟩, re, he, rfl⟩ := A12 (by decide)
    obtain ⟨r, c1, m1, X1, M1, R1⟩ := sim_setShelf (i := b) R ha (R.rgs he).2
    refine ⟨r, c1, m1, fun Q hQ => ?_, fun Q hQ => ?_, R1.mono (by omega), X1.fr (fun Q h => fr_wX0_setShelf h)⟩
    · unfold wX9_perform
      simp only [show ¬ ((nI 12).toInt < 0 ∨ 12 < (nI 12).toInt) by decide, show ¬ nI 12 = 0 by decide, show ¬ nI 12 = 1 by decide, show ¬ nI 12 = 2 by decide, show ¬ nI 12 = 3 by decide, show ¬ nI 12 = 4 by decide, show ¬ nI 12 = 5 by decide, show ¬ nI 12 = 6 by decide, show ¬ nI 12 = 7 by decide, show ¬ nI 12 = 8 by decide, show ¬ nI 12 = 9 by decide, show ¬ nI 12 = 10 by decide, show ¬ nI 12 = 11 by decide, show (nI 12 = 12) = True by decide, true_implies, not_true_eq_false, not_false_eq_true, false_implies, true_and, and_true]
      rw [nI_clamp (by omega), (R.rgs he).1]
      simp only [forall_eq, v8 _ he, true_and]
      exact X1 _ hQ
    · unfold wX10_does
      rw [i1, i2, i3, nI_clamp (by omega), nI_clamp (by omega), nI_clamp (by omega), nI_clamp (by omega)]
      simp only [forall_eq, v0, v1, v2, v3, q0, q1, q2, q3, show ((nI 12).toInt < 0 ∨ 11 < (nI 12).toInt) = True by decide, show ¬ nI 12 = 0 by decide, show ¬ nI 12 = 1 by decide, show ¬ nI 12 = 2 by decide, show ¬ nI 12 = 3 by decide, show ¬ nI 12 = 4 by decide, show ¬ nI 12 = 5 by decide, show ¬ nI 12 = 6 by decide, show ¬ nI 12 = 7 by decide, show ¬ nI 12 = 8 by decide, show ¬ nI 12 = 9 by decide, show ¬ nI 12 = 10 by decide, show ¬ nI 12 = 11 by decide, true_implies, not_true_eq_false, not_false_eq_true, false_implies, true_and, and_true]
      rw [e_reg he]
      refine M1 _ ?_
      rw [fd_of (X1.rg (fun Q h => rg_setShelf h))]; exact hQ
end DO

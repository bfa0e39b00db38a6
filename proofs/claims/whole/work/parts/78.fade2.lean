/-! fading, step by step on both sides -/
section FD2
variable {c1 m1 c m : gMem} {s : gS} {B j : Nat}
theorem fdR.mono {B' : Nat} (hB : B ≤ B') (h : fdR c1 m1 s B j c m) : fdR c1 m1 s B' j c m := by
  obtain ⟨h1, h2, h3, ⟨h41, h42, ⟨z, h43, h44, h45⟩, h46⟩, h5, h6, h7⟩ := h
  exact ⟨h1, h2, h3, ⟨h41, h42, ⟨z, h43, by omega, h45⟩, h46⟩, h5, h6, h7⟩
theorem fd_step (F : fdF c1 m1 s) (hB : B < 2 ^ 30) (hj : j < zM s) (h : fdR c1 m1 s B j c m) : ∃ c' m', (∀ Q, wX7_fadeWeakLinks_p2 (nI (j + 1)) c' Q → wX7_fadeWeakLinks_p2 (nI j) c Q) ∧ (∀ Q, wX10_fade_p2 (nI (j + 1)) m' Q → wX10_fade_p2 (nI j) m Q) ∧ fdR c1 m1 s (B + 1) (j + 1) c' m' := by
  obtain ⟨hp, f1, f2, f3, f4⟩ := F
  obtain ⟨h1, h2, h3, ⟨h41, h42, ⟨z, h43, h44, h45⟩, h46⟩, ⟨h51, h52⟩, h6, h7⟩ := id h
  have hM : zM s ≤ 500 := hp.1.2.2.2.2.1
  have c22 : c 2 2 = nI (zM s) := by rw [h3 2 (by decide) (by decide) (by decide) (by decide)]; exact f1
  have m11 : m 1 1 = nI (zM s) := by rw [h1 1 (by decide) (by omega) (by omega)]; exact f2
  have hge : ¬ nI (zM s) ≤ nI j := nI_ge hj (by omega)
  have ec4 : ∀ h, h < zM s → c 4 h = (if kpB s h then nI (aPl s h) else -1) := fun h hh => by rw [h3 4 (by decide) (by decide) (by decide) (by decide)]; exact (f3 h hh).2.1
  have em0 : ∀ h, h < zM s → m 1 (1100 + 10 * h) = (if kpB s h then 1 else 0) := fun h hh => by rw [h1 _ (by omega) (by omega) (by omega)]; exact (f3 h hh).1
  have em1 : m 1 (1101 + 10 * j) = s (1101 + 10 * j) := by rw [h1 _ (by omega) (by omega) (by omega)]; exact (f3 j hj).2.2.1
  have em2 : m 1 (1102 + 10 * j) = s (1102 + 10 * j) := by rw [h1 _ (by omega) (by omega) (by omega)]; exact (f3 j hj).2.2.2
  by_cases kj : kpB s j = true
  · have hl := (kpB_t.mp kj).1
    obtain ⟨k1, k2, k3, k4, k5, k6, k7, k8, k9, k10, k11⟩ := hp_cell hp hj hl
    have cc4 : c 4 j = nI (aPl s j) := by rw [ec4 j hj, if_pos kj]
    have mm0 : m 1 (1100 + 10 * j) = 1 := by rw [em0 j hj, if_pos kj]
    have mm1 : m 1 (1101 + 10 * j) = nI (aKd s j) := em1.trans k1
    have mm2 : m 1 (1102 + 10 * j) = nI (aPl s j) := em2.trans k3
    have hpl : aPl s j < 4000 := by omega
    have cc3 : c 3 (aPl s j) = nI (8 * j + aKd s j) := by
      rw [h51 _ (by omega), ← k7]
      have := h6 j hj hl 0 (by omega) (by omega)
      exact this
    have hxa : ∀ Q : Int32 → gMem → Prop, wX2_isA 3 (nI j) c Q = Q (if isaN 3 (aKd s j) then 1 else 0) c := fun Q => x_isA (w := 3) rfl (by decide) (by omega) cc4 hpl cc3 k2
    by_cases wj : aKd s j = 3 ∨ aKd s j = 4
    · have hsz := sz_weak wj
      have isa : isaN 3 (aKd s j) = true := by rcases wj with e | e <;> rw [e] <;> rfl
      have vm : m 1 (6100 + (aPl s j + 2)) = s (6100 + (aPl s j + 2)) := (h7 j hj kj wj).2 (by omega)
      have vc : c 3 (aPl s j + 2) = s (6100 + (aPl s j + 2)) := by rw [h51 _ (by omega)]; exact vm
      have hv : aHv s (s (6100 + (aPl s j + 2))) := by rw [show 6100 + (aPl s j + 2) = 6100 + aPl s j + 2 by omega]; exact (hp.2.2.2.1 j hj hl).2 wj
      -- what both sides come down to
      have hXb : ∀ (c' : gMem) (Q : gMem → Prop), (∀ V : gMem → Prop, V c' → wX7_fadeWeakLink (nI j) c V) → wX7_fadeWeakLinks_p2 (nI (j + 1)) c' Q → wX7_fadeWeakLinks_p2 (nI j) c Q := by
        intro c' Q hV hQ P hP
        refine hP _ _ ?_
        unfold wX7_fadeWeakLinks_p2_b
        simp only [forall_eq, c22, hge, true_implies, not_false_eq_true, false_implies, true_and]
        rw [x_has1 c22 hM hj cc4 hpl]
        simp only [i32_10, true_implies, not_false_eq_true, false_implies, true_and]
        rw [hxa, isa]
        simp only [if_true, i32_10, true_implies, not_false_eq_true, false_implies, true_and]
        refine hV _ ?_
        unfold wX7_fadeWeakLinks_p41
        rw [nI_1]; exact hQ P hP
      have hMb : ∀ (P : Int32 → gMem → Prop) (Q : gMem → Prop), wX10_fade_p47 P (nI j) 1 m Q → wX10_fade_p2_b P (nI j) m Q := by
        intro P Q hV
        unfold wX10_fade_p2_b
        simp only [forall_eq, m11, hge, true_implies, not_false_eq_true, false_implies, true_and]
        rw [e_of0 (by omega), mm0]
        simp only [true_implies, not_true_eq_false, false_implies, and_true]
        rw [e_of1 (by omega), mm1]
        rcases wj with e | e
        · rw [e]
          simp only [show nI 3 = 3 from rfl, true_implies, not_true_eq_false, false_implies, and_true]
          exact hV
        · rw [e]
          simp only [show ¬ nI 4 = 3 by decide, true_implies, not_false_eq_true, false_implies, true_and]
          rw [e_of1 (by omega), mm1, e]
          simp only [show nI 4 = 4 from rfl, true_implies, not_true_eq_false, false_implies, and_true]
          exact hV
      have hw : wX2_weakPlace (nI j) c = fun Q => Q (nI (aPl s j + 2)) c := by funext Q; exact x_weakPlace (by omega) cc4
      have hwm : ∀ (m' : gMem) (Q : Int32 → gMem → Prop), m' 1 (1102 + 10 * j) = nI (aPl s j) → wX10_weakAt (nI j) m' Q = Q (nI (6100 + (aPl s j + 2))) m' := fun m' Q e => by
        rw [e_weakAt (by omega) e]; rw [show 6100 + aPl s j + 2 = 6100 + (aPl s j + 2) by omega]
      rcases hv with hv | ⟨t, ht, hv, hlt⟩
      · refine ⟨c, m, fun Q => hXb c Q (fun V hV => ?_), fun Q hQ P hP => hP _ _ (hMb P Q ?_), (h.mono (Nat.le_add_right _ _)).skip (fun _ _ => Or.inl (vm.trans hv))⟩
        · unfold wX7_fadeWeakLink
          rw [hw]
          simp only []
          rw [nI_clamp (by omega)]
          refine ⟨vp_in_nI (by omega) (by decide), ?_⟩
          simp only [forall_eq, vc, hv, true_implies, not_true_eq_false, false_implies, and_true]
          exact hV
        · unfold wX10_fade_p47
          simp only [i32_10, true_implies, not_false_eq_true, false_implies, true_and]
          rw [hwm m _ mm2, nI_clamp (by omega)]
          refine ⟨vp_in_nI (by omega) (by decide), ?_⟩
          simp only [forall_eq, vm, hv, true_implies, not_true_eq_false, false_implies, and_true]
          unfold wX10_fade_p204
          rw [nI_1]; exact hQ P hP
      · have ht5 : t < 500 := by omega
        have hne : ¬ nI t = -1 := nI_m1 (by omega)
        by_cases kt : kpB s t = true
        · have ct4 : c 4 t = nI (aPl s t) := by rw [ec4 t ht, if_pos kt]
          have mt0 : m 1 (1100 + 10 * t) = 1 := by rw [em0 t ht, if_pos kt]
          obtain ⟨-, -, -, -, -, -, -, -, t9, t10, t11⟩ := hp_cell hp ht hlt
          refine ⟨c, m, fun Q => hXb c Q (fun V hV => ?_), fun Q hQ P hP => hP _ _ (hMb P Q ?_), (h.mono (Nat.le_add_right _ _)).skip (fun _ _ => Or.inr ⟨t, ht, vm.trans hv, kt⟩)⟩
          · unfold wX7_fadeWeakLink
            rw [hw]
            simp only []
            rw [nI_clamp (by omega)]
            refine ⟨vp_in_nI (by omega) (by decide), ?_⟩
            simp only [forall_eq, vc, hv, hne, true_implies, not_false_eq_true, false_implies, true_and]
            rw [x_has1 c22 hM ht ct4 (by omega)]
            simp only [i32_10, true_implies, not_false_eq_true, false_implies, true_and]
            exact hV
          · unfold wX10_fade_p47
            simp only [i32_10, true_implies, not_false_eq_true, false_implies, true_and]
            rw [hwm m _ mm2, nI_clamp (by omega)]
            refine ⟨vp_in_nI (by omega) (by decide), ?_⟩
            simp only [forall_eq, vm, hv, hne, true_implies, not_false_eq_true, false_implies, true_and]
            rw [hwm m _ mm2, nI_clamp (by omega)]
            refine ⟨vp_in_nI (by omega) (by decide), ?_⟩
            simp only [vm, hv]
            rw [e_of0 ht5, mt0]
            simp only [i32_10, true_implies, not_false_eq_true, false_implies, true_and]
            unfold wX10_fade_p204
            rw [nI_1]; exact hQ P hP
        · have ct4 : c 4 t = -1 := by rw [ec4 t ht, if_neg kt]
          have mt0 : m 1 (1100 + 10 * t) = 0 := by rw [em0 t ht, if_neg kt]
          -- the fading itself
          have hXf : ∀ V : gMem → Prop, wX2_isA 4 (nI j) (mp (mp c 3 (aPl s j + 2) (-1)) 64 9 (m 4 9 + 1)) (fun r14 c13 => ((r14 = 0 → V c13) ∧ (¬ r14 = 0 → ∀ v16, v16 = c13 64 10 → ∀ c17, c17 = mp c13 64 10 (v16 + 1) → wX2_numberOf (nI j) c17 (fun r19 c18 => wX8_tell (nI j) r19 c18 (fun c20 => V c20))))) → wX7_fadeWeakLink (nI j) c V := by
            intro V hV
            unfold wX7_fadeWeakLink
            rw [hw]
            simp only []
            rw [nI_clamp (by omega)]
            refine ⟨vp_in_nI (by omega) (by decide), ?_⟩
            simp only [forall_eq, vc, hv, hne, true_implies, not_false_eq_true, false_implies, true_and]
            rw [x_has0 c22 hM ht ct4]
            simp only [true_implies, not_true_eq_false, false_implies, and_true, mp_n (show (64 : Nat) ≠ 3 by decide), h46 9 (by decide)]
            refine ⟨vp_in_nI (by omega) (by decide), ?_⟩
            simp only [forall_eq] at hV
            exact hV
          have hMf : ∀ (P : Int32 → gMem → Prop) (Q : gMem → Prop), wX10_of (nI j) 1 (mp (mp m 1 (6100 + (aPl s j + 2)) (-1)) 4 9 (m 4 9 + 1)) (fun r21 c20 => ((r21 = 4 → ∀ v23, v23 = c20 4 10 → ∀ c24, c24 = mp c20 4 10 (v23 + 1) → ∀ v25, v25 = c24 1 10 → ((100 ≤ v25 → wX10_fade_p193 P (nI j) c24 Q) ∧ (¬ 100 ≤ v25 → ∀ v27, v27 = c24 1 10 → vp_in (100 + (3 * v27)) 26100 ∧ ∀ c28, c28 = mp c24 1 (100 + (3 * v27)).toNatClampNeg (nI j) → wX10_weakAt (nI j) c28 (fun r31 c30 => vp_in (r31 + 1) 26100 ∧ ∀ v32, v32 = c30 1 (r31 + 1).toNatClampNeg → vp_in ((100 + (3 * v27)) + 1) 26100 ∧ ∀ c34, c34 = mp c30 1 ((100 + (3 * v27)) + 1).toNatClampNeg v32 → ∀ v36, v36 = c34 1 5 → vp_in ((100 + (3 * v27)) + 2) 26100 ∧ ∀ c37, c37 = mp c34 1 ((100 + (3 * v27)) + 2).toNatClampNeg v36 → wX10_fade_p193 P (nI j) c37 Q)))) ∧ (¬ r21 = 4 → wX10_fade_p204 P (nI j) c20 Q))) → wX10_fade_p47 P (nI j) 1 m Q := by
            intro P Q hV
            unfold wX10_fade_p47
            simp only [i32_10, true_implies, not_false_eq_true, false_implies, true_and]
            rw [hwm m _ mm2, nI_clamp (by omega)]
            refine ⟨vp_in_nI (by omega) (by decide), ?_⟩
            simp only [forall_eq, vm, hv, hne, true_implies, not_false_eq_true, false_implies, true_and]
            rw [hwm m _ mm2, nI_clamp (by omega)]
            refine ⟨vp_in_nI (by omega) (by decide), ?_⟩
            simp only [vm, hv]
            rw [e_of0 ht5, mt0]
            simp only [true_implies, not_true_eq_false, false_implies, and_true]
            rw [hwm m _ mm2, nI_clamp (by omega)]
            refine ⟨vp_in_nI (by omega) (by decide), ?_⟩
            simp only [mp_n (show (4 : Nat) ≠ 1 by decide)]
            simp only [forall_eq] at hV
            exact hV
          have R1 : fdR c1 m1 s B (j + 1) (mp (mp c 3 (aPl s j + 2) (-1)) 64 9 (m 4 9 + 1)) (mp (mp m 1 (6100 + (aPl s j + 2)) (-1)) 4 9 (m 4 9 + 1)) := (h.word hp hj kj wj).tr
          have ca4 : mp (mp c 3 (aPl s j + 2) (-1)) 64 9 (m 4 9 + 1) 4 j = nI (aPl s j) := by rw [mp_n (by decide), mp_n (by decide)]; exact cc4
          have ca3 : mp (mp c 3 (aPl s j + 2) (-1)) 64 9 (m 4 9 + 1) 3 (aPl s j) = nI (8 * j + aKd s j) := by rw [mp_n (by decide), mp_s, up_n (by omega)]; exact cc3
          have ma1 : mp (mp m 1 (6100 + (aPl s j + 2)) (-1)) 4 9 (m 4 9 + 1) 1 (1101 + 10 * j) = nI (aKd s j) := by rw [mp_n (by decide), mp_s, up_n (by omega)]; exact mm1
          have ma2 : mp (mp m 1 (6100 + (aPl s j + 2)) (-1)) 4 9 (m 4 9 + 1) 1 (1102 + 10 * j) = nI (aPl s j) := by rw [mp_n (by decide), mp_s, up_n (by omega)]; exact mm2
          have R1z : mp (mp m 1 (6100 + (aPl s j + 2)) (-1)) 4 9 (m 4 9 + 1) 1 10 = nI z := by rw [mp_n (by decide), mp_s, up_n (by omega)]; exact h43
          generalize mp (mp c 3 (aPl s j + 2) (-1)) 64 9 (m 4 9 + 1) = cA at *
          generalize mp (mp m 1 (6100 + (aPl s j + 2)) (-1)) 4 9 (m 4 9 + 1) = mA at *
          by_cases k4 : aKd s j = 4
          · obtain ⟨g1, g2, g3, ⟨g41, g42, -, g46⟩, ⟨g51, g52⟩, g6, g7⟩ := id R1
            have num : cA 3 (aPl s j + 3) = mA 1 (6100 + (aPl s j + 3)) := g51 _ (by omega)
            have five : cA 12 0 = mA 1 5 := by rw [g41 0 (by decide), g1 5 (by decide) (by omega) (by omega)]; exact f4
            have R2 : fdR c1 m1 s B (j + 1) (mp cA 64 10 (mA 4 10 + 1)) (mp mA 4 10 (mA 4 10 + 1)) := R1.tr
            by_cases hz : 100 ≤ z
            · refine ⟨_, _, fun Q => hXb _ Q (fun V hV => hXf V ?_), fun Q hQ P hP => hP _ _ (hMb P Q (hMf P Q ?_)), R2.tellA (z := z) (by rw [mp_n (by decide)]; exact R1z) (by omega) hz (by omega)⟩
              · rw [x_isA (x := 4) (w := 4) rfl (by decide) (by omega) ca4 hpl ca3 k2, k4, show isaN 4 4 = true from rfl]
                simp only [if_true, i32_10, true_implies, not_false_eq_true, false_implies, true_and, forall_eq, g46 10 (by decide)]
                rw [x_numberOf (by omega) (by rw [mp_n (by decide)]; exact ca4) (by omega)]
                unfold wX8_tell wX8_tell_p44
                simp only [forall_eq, mp_n (show (12 : Nat) ≠ 64 by decide), g42, R1z, show (100 : Int32) ≤ nI z from nI_le hz (by omega), true_implies, not_true_eq_false, false_implies, and_true]
                rw [nI_1]; exact hV
              · rw [e_of1 (by omega), ma1, k4]
                simp only [show nI 4 = 4 from rfl, true_implies, not_true_eq_false, false_implies, and_true, forall_eq, mp_n (show (1 : Nat) ≠ 4 by decide), R1z, show (100 : Int32) ≤ nI z from nI_le hz (by omega)]
                unfold wX10_fade_p193 wX10_fade_p204
                simp only [forall_eq, mp_n (show (1 : Nat) ≠ 4 by decide), R1z]
                rw [nI_1, nI_1]; exact hQ P hP
            · have hz3 : ¬ (100 : Int32) ≤ nI z := nI_ge (b := 100) (by omega) (by decide)
              refine ⟨_, _, fun Q => hXb _ Q (fun V hV => hXf V ?_), fun Q hQ P hP => hP _ _ (hMb P Q (hMf P Q ?_)), R2.tellB (z := z) (x := nI j) (y := mA 1 (6100 + (aPl s j + 3))) (w := mA 1 5) (by rw [mp_n (by decide)]; exact R1z) (by omega) (by omega)⟩
              · rw [x_isA (x := 4) (w := 4) rfl (by decide) (by omega) ca4 hpl ca3 k2, k4, show isaN 4 4 = true from rfl]
                simp only [if_true, i32_10, true_implies, not_false_eq_true, false_implies, true_and, forall_eq, g46 10 (by decide)]
                rw [x_numberOf (by omega) (by rw [mp_n (by decide)]; exact ca4) (by omega), mp_n (show (3 : Nat) ≠ 64 by decide), num]
                unfold wX8_tell wX8_tell_p44
                simp only [forall_eq, mp_n (show (12 : Nat) ≠ 64 by decide), mp_n (show (12 : Nat) ≠ 13 by decide), g42, R1z, hz3, true_implies, not_false_eq_true, false_implies, true_and, five]
                rw [show nI z * 3 = nI (3 * z) by rw [show (3 : Int32) = nI 3 from rfl, show nI z * nI 3 = nI (z * 3) from (Int32.ofNat_mul z 3).symm, Nat.mul_comm], show nI (3 * z) + 2 = nI (3 * z + 2) from nI_add _ 2, nI_1, nI_1, nI_clamp (by omega), nI_clamp (by omega), nI_clamp (by omega)]
                refine ⟨vp_in_nI (by omega) (by decide), vp_in_nI (by omega) (by decide), vp_in_nI (by omega) (by decide), hV⟩
              · rw [e_of1 (by omega), ma1, k4]
                simp only [show nI 4 = 4 from rfl, true_implies, not_true_eq_false, false_implies, and_true, forall_eq, mp_n (show (1 : Nat) ≠ 4 by decide), R1z, hz3, not_false_eq_true, true_and]
                rw [show (3 : Int32) * nI z = nI (3 * z) from (Int32.ofNat_mul 3 z).symm, show (100 : Int32) + nI (3 * z) = nI (100 + 3 * z) from nI_add 100 _, show nI (100 + 3 * z) + 2 = nI (100 + 3 * z + 2) from nI_add _ 2, nI_1, nI_clamp (by omega), nI_clamp (by omega), nI_clamp (by omega)]
                refine ⟨vp_in_nI (by omega) (by decide), ?_⟩
                rw [hwm _ _ (by rw [mp_s, mp_n (by decide), up_n (by omega)]; exact ma2), nI_1, nI_clamp (by omega)]
                refine ⟨vp_in_nI (by omega) (by decide), vp_in_nI (by omega) (by decide), vp_in_nI (by omega) (by decide), ?_⟩
                unfold wX10_fade_p193 wX10_fade_p204
                simp only [forall_eq, mp_s, mp_n (show (1 : Nat) ≠ 4 by decide), up_n (show (10 : Nat) ≠ 100 + 3 * z by omega), up_n (show (10 : Nat) ≠ 100 + 3 * z + 1 by omega), up_n (show (10 : Nat) ≠ 100 + 3 * z + 2 by omega), up_n (show (5 : Nat) ≠ 100 + 3 * z by omega), up_n (show (5 : Nat) ≠ 100 + 3 * z + 1 by omega), R1z]
                rw [nI_1, nI_1, up_n (by omega)]; exact hQ P hP
          · have k3' : aKd s j = 3 := by omega
            refine ⟨_, _, fun Q => hXb _ Q (fun V hV => hXf V ?_), fun Q hQ P hP => hP _ _ (hMb P Q (hMf P Q ?_)), R1.mono (Nat.le_add_right _ _)⟩
            · rw [x_isA (x := 4) (w := 4) rfl (by decide) (by omega) ca4 hpl ca3 k2, k3', show isaN 4 3 = false from rfl]
              simp only [Bool.false_eq_true, if_false, true_implies, not_true_eq_false, false_implies, and_true]
              exact hV
            · rw [e_of1 (by omega), ma1, k3']
              simp only [show ¬ nI 3 = 4 by decide, true_implies, not_false_eq_true, false_implies, true_and]
              unfold wX10_fade_p204
              rw [nI_1]; exact hQ P hP
    · have isa : isaN 3 (aKd s j) = false := by
        rcases (by omega : aKd s j = 0 ∨ aKd s j = 1 ∨ aKd s j = 2 ∨ aKd s j = 5) with e | e | e | e <;> rw [e] <;> rfl
      refine ⟨c, m, fun Q hQ P hP => hP _ _ ?_, fun Q hQ P hP => hP _ _ ?_, (h.mono (Nat.le_add_right _ _)).skip (fun _ w => absurd w wj)⟩
      · unfold wX7_fadeWeakLinks_p2_b wX7_fadeWeakLinks_p41
        simp only [forall_eq, c22, hge, true_implies, not_false_eq_true, false_implies, true_and]
        rw [x_has1 c22 hM hj cc4 hpl]
        simp only [i32_10, true_implies, not_false_eq_true, false_implies, true_and]
        rw [hxa, isa]
        simp only [Bool.false_eq_true, if_false, true_implies, not_true_eq_false, false_implies, and_true]
        rw [nI_1]; exact hQ P hP
      · unfold wX10_fade_p2_b
        simp only [forall_eq, m11, hge, true_implies, not_false_eq_true, false_implies, true_and]
        rw [e_of0 (by omega), mm0]
        simp only [true_implies, not_true_eq_false, false_implies, and_true]
        have n3 : ¬ nI (aKd s j) = 3 := fun q => wj (Or.inl (nI_inj (b := 3) (by omega) (by decide) q))
        have n4 : ¬ nI (aKd s j) = 4 := fun q => wj (Or.inr (nI_inj (b := 4) (by omega) (by decide) q))
        rw [e_of1 (by omega), mm1]
        simp only [n3, true_implies, not_false_eq_true, false_implies, true_and]
        rw [e_of1 (by omega), mm1]
        simp only [n4, true_implies, not_false_eq_true, false_implies, true_and]
        unfold wX10_fade_p46 wX10_fade_p47 wX10_fade_p204
        simp only [true_implies, not_true_eq_false, false_implies, and_true]
        rw [nI_1]; exact hQ P hP
  · have cc4 : c 4 j = -1 := by rw [ec4 j hj, if_neg kj]
    have mm0 : m 1 (1100 + 10 * j) = 0 := by rw [em0 j hj, if_neg kj]
    refine ⟨c, m, fun Q hQ P hP => hP _ _ ?_, fun Q hQ P hP => hP _ _ ?_, (h.mono (Nat.le_add_right _ _)).skip (fun k _ => absurd k kj)⟩
    · unfold wX7_fadeWeakLinks_p2_b wX7_fadeWeakLinks_p41
      simp only [forall_eq, c22, hge, true_implies, not_false_eq_true, false_implies, true_and]
      rw [x_has0 c22 hM hj cc4]
      simp only [true_implies, not_true_eq_false, false_implies, and_true]
      rw [nI_1]; exact hQ P hP
    · unfold wX10_fade_p2_b
      simp only [forall_eq, m11, hge, true_implies, not_false_eq_true, false_implies, true_and]
      rw [e_of0 (by omega), mm0]
      simp only [i32_01, true_implies, not_false_eq_true, false_implies, true_and]
      unfold wX10_fade_p46 wX10_fade_p47 wX10_fade_p204
      simp only [true_implies, not_true_eq_false, false_implies, and_true]
      rw [nI_1]; exact hQ P hP
theorem fd_all (F : fdF c1 m1 s) : ∀ (d j B : Nat) (c m : gMem), j + d = zM s → B + d < 2 ^ 30 → fdR c1 m1 s B j c m → ∃ c' m', Dv (wX7_fadeWeakLinks_p2 (nI j) c) c' ∧ Dv (wX10_fade_p2 (nI j) m) m' ∧ fdR c1 m1 s (B + d) (zM s) c' m' := by
  intro d
  induction d with
  | zero =>
    intro j B c m hj hB h
    have : j = zM s := by omega
    subst this
    have hM : zM s ≤ 500 := F.1.1.2.2.2.2.1
    refine ⟨c, m, fun Q hQ P hP => hP _ _ ?_, fun Q hQ P hP => hP _ _ ?_, h⟩
    · unfold wX7_fadeWeakLinks_p2_b
      simp only [forall_eq, h.2.2.1 2 (by decide) (by decide) (by decide) (by decide), F.2.1, Int32.le_refl, true_implies, not_true_eq_false, false_implies, and_true]
      exact hQ
    · unfold wX10_fade_p2_b
      simp only [forall_eq, h.1 1 (by decide) (by omega) (by omega), F.2.2.1, Int32.le_refl, true_implies, not_true_eq_false, false_implies, and_true]
      exact hQ
  | succ d ih =>
    intro j B c m hj hB h
    obtain ⟨c1', m1', X1, M1, h1⟩ := fd_step F (by omega) (by omega) h
    obtain ⟨c2, m2, X2, M2, h2⟩ := ih (j + 1) (B + 1) c1' m1' (by omega) (by omega) h1
    exact ⟨c2, m2, fun Q q => X1 Q (X2 Q q), fun Q q => M1 Q (M2 Q q), by rw [show B + (d + 1) = B + 1 + d by omega]; exact h2⟩
end FD2

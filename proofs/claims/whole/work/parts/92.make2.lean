/-! make, in the class; make -/
section MK2
variable {T : Nat} {c m : gMem} {k n : Nat}
theorem x_addCell {h U q : Nat} (h22 : c 2 2 = nI h) (h21 : c 2 1 = nI U) (h23 : c 2 3 = nI q) (hk : k ≤ 5) (hn : n ≤ 300) (hh : h < 500) (hU : U + szN k n ≤ 4000) (hz : ∀ j, U ≤ j → j < 4000 → c 3 j = 0) : ∃ c', (∀ Q : Int32 → gMem → Prop, Q (nI h) c' → wX2_addCell (nI k) (nI n) c Q) ∧ (∀ i, i ≠ 2 → i ≠ 3 → i ≠ 4 → i ≠ 5 → c' i = c i) ∧ c' 2 0 = c 2 0 ∧ c' 2 1 = nI (U + szN k n) ∧ c' 2 2 = nI (h + 1) ∧ c' 2 3 = nI (q + 1) ∧ (∀ o, o < szN k n → c' 3 (U + o) = nwW k n h o) ∧ (∀ j, j < U ∨ U + szN k n ≤ j → c' 3 j = c 3 j) ∧ c' 4 h = nI U ∧ (∀ g, g ≠ h → c' 4 g = c 4 g) ∧ c' 5 h = 0 ∧ ∀ g, g ≠ h → c' 5 g = c 5 g := by
  have hz2 := (szN_ge (n := n) hk).2
  -- the words, as a function
  have key : ∃ w : Nat → Int32, (∀ Q : Int32 → gMem → Prop, wX2_addCell_p89 (nI k) (nI n) (nI h) (mr c 3 w) Q → wX2_addCell (nI k) (nI n) c Q) ∧ (∀ o, o < szN k n → w (U + o) = nwW k n h o) ∧ ∀ j, j < U ∨ U + szN k n ≤ j → w j = c 3 j := by
    by_cases hmn : k = 1 ∨ k = 2 ∨ k = 5
    · by_cases k2 : k = 2
      · subst k2
        refine ⟨upd (upd (c 3) U (nI (8 * h + 2))) (U + 1) (nI n), fun Q hQ => ?_, fun o ho => ?_, fun j hj => ?_⟩
        · unfold wX2_addCell
          simp only [forall_eq, h22, h21]
          rw [show nI h * 8 + nI 2 = nI (8 * h + 2) by rw [show nI h * 8 = nI (h * 8) from (Int32.ofNat_mul h 8).symm, nI_add, Nat.mul_comm], nI_clamp (by omega)]
          refine ⟨vp_in_nI (by omega) (by decide), ?_⟩
          rw [x_many1 (k := 2) hmn]
          simp only [i32_10, true_implies, not_false_eq_true, false_implies, true_and, mp_n (show (2 : Nat) ≠ 3 by decide), h21]
          rw [nI_1, nI_clamp (by omega)]
          refine ⟨vp_in_nI (by omega) (by decide), ?_⟩
          simp only [show nI 2 = 2 from rfl, true_implies, not_true_eq_false, false_implies, and_true]
          have e : mp (mp c 3 U (nI (8 * h + 2))) 3 (U + 1) (nI n) = mr c 3 (upd (upd (c 3) U (nI (8 * h + 2))) (U + 1) (nI n)) := by unfold mp; rw [mr_mr, mr_s]
          have e2 : nI 2 = 2 := rfl
          rw [e2] at hQ
          rw [e]; exact hQ
        · unfold nwW
          by_cases o0 : o = 0
          · subst o0; rw [if_pos rfl, up_n (by omega), show U + 0 = U from rfl, up_s]
          · rw [if_neg o0, if_pos (by decide)]
            by_cases o1 : o = 1
            · subst o1; rw [if_pos rfl, up_s]
            · rw [if_neg o1, if_neg (fun z => z.1 rfl), up_n (by omega), up_n (by omega)]; exact hz _ (by omega) (by omega)
        · rw [up_n (by omega), up_n (by omega)]
      · have hsz : 2 + n ≤ szN k n := by
          rcases (by omega : k = 1 ∨ k = 5) with rfl | rfl
          · exact Nat.le_refl (2 + n)
          · show 2 + n ≤ 2 + 2 * n; omega
        refine ⟨fun j => if U + 2 ≤ j ∧ j < U + 2 + n then -1 else upd (upd (c 3) U (nI (8 * h + k))) (U + 1) (nI n) j, fun Q hQ => ?_, fun o ho => ?_, fun j hj => ?_⟩
        · unfold wX2_addCell
          simp only [forall_eq, h22, h21]
          rw [show nI h * 8 + nI k = nI (8 * h + k) by rw [show nI h * 8 = nI (h * 8) from (Int32.ofNat_mul h 8).symm, nI_add, Nat.mul_comm], nI_clamp (by omega)]
          refine ⟨vp_in_nI (by omega) (by decide), ?_⟩
          rw [x_many1 hmn]
          simp only [i32_10, true_implies, not_false_eq_true, false_implies, true_and, mp_n (show (2 : Nat) ≠ 3 by decide), h21]
          rw [nI_1, nI_clamp (by omega)]
          refine ⟨vp_in_nI (by omega) (by decide), ?_⟩
          have n2 : ¬ nI k = 2 := nI_ne2 hk k2
          simp only [n2, true_implies, not_false_eq_true, false_implies, true_and]
          refine ⟨U + 2, U + 2 + n, nI_add U 2, by rw [show nI U + 2 = nI (U + 2) from nI_add U 2, nI_add], by omega, by omega, ?_⟩
          have e : mr (mp (mp c 3 U (nI (8 * h + k))) 3 (U + 1) (nI n)) 3 (fun j => if U + 2 ≤ j ∧ j < U + 2 + n then -1 else mp (mp c 3 U (nI (8 * h + k))) 3 (U + 1) (nI n) 3 j) = mr c 3 (fun j => if U + 2 ≤ j ∧ j < U + 2 + n then -1 else upd (upd (c 3) U (nI (8 * h + k))) (U + 1) (nI n) j) := by unfold mp; rw [mr_mr, mr_mr, mr_s, mr_s]
          rw [e]; exact hQ
        · show (if U + 2 ≤ U + o ∧ U + o < U + 2 + n then (-1 : Int32) else upd (upd (c 3) U (nI (8 * h + k))) (U + 1) (nI n) (U + o)) = _
          unfold nwW
          by_cases o0 : o = 0
          · subst o0; rw [if_neg (show ¬ (U + 2 ≤ U + 0 ∧ U + 0 < U + 2 + n) by omega), if_pos rfl, up_n (by omega), Nat.add_zero, up_s]
          · rw [if_neg o0, if_pos hmn]
            by_cases o1 : o = 1
            · subst o1; rw [if_neg (show ¬ (U + 2 ≤ U + 1 ∧ U + 1 < U + 2 + n) by omega), if_pos rfl, up_s]
            · rw [if_neg o1]
              by_cases o2 : o < 2 + n
              · rw [if_pos (show U + 2 ≤ U + o ∧ U + o < U + 2 + n by omega), if_pos ⟨k2, o2⟩]
              · rw [if_neg (show ¬ (U + 2 ≤ U + o ∧ U + o < U + 2 + n) by omega), if_neg (fun z => o2 z.2), up_n (by omega), up_n (by omega)]; exact hz _ (by omega) (by omega)
        · show (if U + 2 ≤ j ∧ j < U + 2 + n then (-1 : Int32) else upd (upd (c 3) U (nI (8 * h + k))) (U + 1) (nI n) j) = _
          rw [if_neg (show ¬ (U + 2 ≤ j ∧ j < U + 2 + n) by omega), up_n (by omega), up_n (by omega)]
    · have hsz : 3 ≤ szN k n := by
        rcases (by omega : k = 0 ∨ k = 3 ∨ k = 4) with rfl | rfl | rfl
        · exact Nat.le_refl 3
        · exact Nat.le_refl 3
        · show 3 ≤ 4; omega
      refine ⟨fun j => if U + 1 ≤ j ∧ j < U + 3 then -1 else upd (c 3) U (nI (8 * h + k)) j, fun Q hQ => ?_, fun o ho => ?_, fun j hj => ?_⟩
      · unfold wX2_addCell
        simp only [forall_eq, h22, h21]
        rw [show nI h * 8 + nI k = nI (8 * h + k) by rw [show nI h * 8 = nI (h * 8) from (Int32.ofNat_mul h 8).symm, nI_add, Nat.mul_comm], nI_clamp (by omega)]
        refine ⟨vp_in_nI (by omega) (by decide), ?_⟩
        rw [x_many0 hmn hk]
        simp only [true_implies, not_true_eq_false, false_implies, and_true, mp_n (show (2 : Nat) ≠ 3 by decide), h21]
        refine ⟨U + 1, U + 3, nI_1 U, nI_add U 3, by omega, by omega, ?_⟩
        have e : mr (mp c 3 U (nI (8 * h + k))) 3 (fun j => if U + 1 ≤ j ∧ j < U + 3 then -1 else mp c 3 U (nI (8 * h + k)) 3 j) = mr c 3 (fun j => if U + 1 ≤ j ∧ j < U + 3 then -1 else upd (c 3) U (nI (8 * h + k)) j) := by unfold mp; rw [mr_mr, mr_s]
        rw [e]; exact hQ
      · show (if U + 1 ≤ U + o ∧ U + o < U + 3 then (-1 : Int32) else upd (c 3) U (nI (8 * h + k)) (U + o)) = _
        unfold nwW
        by_cases o0 : o = 0
        · subst o0; rw [if_neg (show ¬ (U + 1 ≤ U + 0 ∧ U + 0 < U + 3) by omega), if_pos rfl, Nat.add_zero, up_s]
        · rw [if_neg o0, if_neg hmn]
          by_cases o3 : o < 3
          · rw [if_pos (show U + 1 ≤ U + o ∧ U + o < U + 3 by omega), if_pos o3]
          · rw [if_neg (show ¬ (U + 1 ≤ U + o ∧ U + o < U + 3) by omega), if_neg o3, up_n (by omega)]; exact hz _ (by omega) (by omega)
      · show (if U + 1 ≤ j ∧ j < U + 3 then (-1 : Int32) else upd (c 3) U (nI (8 * h + k)) j) = _
        rw [if_neg (show ¬ (U + 1 ≤ j ∧ j < U + 3) by omega), up_n (by omega)]
  obtain ⟨w, W, w1, w2⟩ := key
  refine ⟨mp (mp (mp (mp (mp (mr c 3 w) 4 h (nI U)) 5 h 0) 2 1 (nI (U + szN k n))) 2 2 (nI (h + 1))) 2 3 (nI (q + 1)), fun Q hQ => W Q ?_, fun i i2 i3 i4 i5 => ?_, ?_, ?_, ?_, ?_, fun o ho => ?_, fun j hj => ?_, ?_, fun g hg => ?_, ?_, fun g hg => ?_⟩
  · unfold wX2_addCell_p89
    rw [nI_clamp (by omega)]
    simp only [forall_eq, mr_n (show (2 : Nat) ≠ 3 by decide), h21]
    refine ⟨vp_in_nI hh (by decide), vp_in_nI hh (by decide), ?_⟩
    rw [x_intsFor hk hn]
    simp only [mp_s, mp_n (show (2 : Nat) ≠ 5 by decide), mp_n (show (2 : Nat) ≠ 4 by decide), mr_n (show (2 : Nat) ≠ 3 by decide), h21, h22, h23, nI_add, nI_1, up_n (show (2 : Nat) ≠ 1 by decide), up_n (show (3 : Nat) ≠ 2 by decide), up_n (show (3 : Nat) ≠ 1 by decide)]
    exact hQ
  · rw [mp_n i2, mp_n i2, mp_n i2, mp_n i5, mp_n i4, mr_n i3]
  · rw [mp_s, up_n (by decide), mp_s, up_n (by decide), mp_s, up_n (by decide), mp_n (by decide), mp_n (by decide), mr_n (by decide)]
  · rw [mp_s, up_n (by decide), mp_s, up_n (by decide), mp_s, up_s]
  · rw [mp_s, up_n (by decide), mp_s, up_s]
  · rw [mp_s, up_s]
  · rw [mp_n (by decide), mp_n (by decide), mp_n (by decide), mp_n (by decide), mp_n (by decide), mr_s]; exact w1 o ho
  · rw [mp_n (by decide), mp_n (by decide), mp_n (by decide), mp_n (by decide), mp_n (by decide), mr_s]; exact w2 j hj
  · rw [mp_n (by decide), mp_n (by decide), mp_n (by decide), mp_n (by decide), mp_s, up_s]
  · rw [mp_n (by decide), mp_n (by decide), mp_n (by decide), mp_n (by decide), mp_s, up_n hg, mr_n (by decide)]
  · rw [mp_n (by decide), mp_n (by decide), mp_n (by decide), mp_s, up_s]
  · rw [mp_n (by decide), mp_n (by decide), mp_n (by decide), mp_s, up_n hg, mp_n (by decide), mr_n (by decide)]
/-- a cell is made where there is room -/
theorem sim_addC (R : Rel T c m) (hk : k ≤ 5) (hn : n ≤ 300) (hM : zM (m 1) < 500) (hU : zU (m 1) + szN k n ≤ zA (m 1)) : ∃ c' m', Di (wX0_makeCell_p109 (nI k) (nI n) (nI (szN k n)) c) (nI (zM (m 1))) c' ∧ Di (wX10_makes_p127 (nI k) (nI n) (nI (szN k n)) m) (nI (zM (m 1))) m' ∧ Rel T c' m' ∧ m' 1 1 = nI (zM (m 1) + 1) ∧ m' 0 = m 0 := by
  obtain ⟨a1, a2, a3, a4, a5, a6, a7, a8, a9⟩ := id R.1.2.1.1.1
  obtain ⟨rh, rw_, -⟩ := id R.1.1
  have hr2 := rh.2.1
  have hzb : szN k n ≤ 602 := szN_le hn
  obtain ⟨c1, X1, co, c20, c21, c22, c23, c3a, c3b, c4a, c4b, c5a, c5b⟩ := x_addCell (k := k) (n := n) (h := zM (m 1)) (U := zU (m 1)) (q := aCn (m 1) (zM (m 1))) R.made.2.2 (rh.2.1.trans a6) (rh.2.2.2.trans a9) hk hn hM (by omega) rw_.2
  obtain ⟨s', E, M1⟩ := e_make R.1.2 hk hn hM hU
  have SI := ad_SI R.1.2 hk hn hM hU E
  have SR := ad_SR R.1.2 R.1.1 hk hn hM hU E co c20 c21 c22 c23 c3a c3b c4a c4b c5a c5b
  have e0 : s' 0 = m 1 0 := E.2.2.2.2.2 0 (by decide) (by decide) (by decide) (by omega) (by omega)
  have R1 : Rel T c1 (mr m 1 s') := R.now (Nat.le_refl _) SR SI (fun i hi => co i (by omega) (by omega) (by omega) (by omega)) e0
  have hfree : ∀ Q : Int32 → gMem → Prop, wX2_addCell (nI k) (nI n) c (fun r5 c4 => wX7_mark r5 5 (-1) (-1) c4 (fun c6 => Q r5 c6)) → wX0_makeCell_p109 (nI k) (nI n) (nI (szN k n)) c Q := by
    intro Q hQ
    unfold wX0_makeCell_p109
    rw [x_free R]
    simp only [show nI (szN k n) ≤ nI (zA (m 1) - zU (m 1)) from nI_le (by omega) (by omega), true_implies, not_true_eq_false, false_implies, and_true]
    exact hQ
  rcases SI.1.2.1.1.1 with h3 | h3
  · refine ⟨c1, mr m 1 s', fun Q hQ => hfree Q (X1 _ ?_), fun Q hQ => M1 Q ⟨fun q => absurd (h3.symm.trans q) (by decide), fun _ => hQ⟩, R1, by rw [mr_s]; exact E.1, mr_n (by decide)⟩
    rw [x_markOff (SR.2.2.2.1.1.trans h3)]; exact hQ
  · have zm : zM s' = zM (m 1) + 1 := nn_nI E.1 (by omega)
    obtain ⟨c2, X2, M2, SR2, S02, MS, F2⟩ := sim_mark (x := nI (zM (m 1))) (w := 5) (a := -1) (b := -1) SR SI.1 (Or.inr ⟨zM (m 1), by omega, rfl, E.2.2.2.1.1⟩) h3
    have IL := MS.L SI.1.1 SI.1.2.1 SI.2
    have e10 : mkF s' (nI (zM (m 1))) 5 (-1) (-1) 0 = s' 0 := MS.1.1.1 0 (by omega)
    have e11 : mkF s' (nI (zM (m 1))) 5 (-1) (-1) 1 = s' 1 := MS.1.1.1 1 (by omega)
    have R2 := R1.now (Nat.le_refl _) SR2 ⟨S02, IL⟩ (fun i hi => F2 i (by omega)) (by rw [mr_s]; exact e10)
    rw [mr_mr] at R2
    refine ⟨c2, mr m 1 (mkF s' (nI (zM (m 1))) 5 (-1) (-1)), fun Q hQ => hfree Q (X1 _ (X2 _ hQ)), fun Q hQ => M1 Q ⟨fun _ => M2 m _ hQ, fun q => absurd h3 q⟩, R2, by rw [mr_s, e11]; exact E.1, mr_n (by decide)⟩
/-- making, as the program's acts do it too -/
theorem sim_makes {y : Int32} (R : Rel T c m) (hT : T < 2 ^ 28) (hk : k ≤ 5) (hy : aMany k → y.toInt ≤ 300) : ∃ r c' m', Di (wX0_makeCell (nI k) y c) r c' ∧ Di (wX10_makes (nI k) y m) r m' ∧ Rel (T + 1000) c' m' ∧ m' 0 = m 0 ∧ (r = -14 ∨ r = -16 ∨ ∃ t, t < zM (m' 1) ∧ r = nI t) ∧ zM (m 1) ≤ zM (m' 1) := by
  have hM := R.made.2.1
  obtain ⟨a1, a2, a3, a4, a5, a6, a7, a8, a9⟩ := id R.1.2.1.1.1
  have R' := R.mono (T' := T + 1000) (by omega)
  -- with a count that is not below 0
  have core : ∀ n, n ≤ 300 → ∃ r c' m', Di (wX0_makeCell_p12 (nI k) (nI n) c) r c' ∧ Di (wX10_makes_p12 (nI k) (nI n) m) r m' ∧ Rel (T + 1000) c' m' ∧ m' 0 = m 0 ∧ (r = -14 ∨ r = -16 ∨ ∃ t, t < zM (m' 1) ∧ r = nI t) ∧ zM (m 1) ≤ zM (m' 1) := by
    intro n hn
    have n0 : (0 : Int32) ≤ nI n := nI_le (a := 0) (by omega) (by omega)
    have hzb : szN k n ≤ 602 := szN_le hn
    by_cases h5 : zM (m 1) = 500
    · refine ⟨-16, c, m, fun Q hQ => ?_, fun Q hQ => ?_, R', rfl, Or.inr (Or.inl rfl), Nat.le_refl _⟩
      · unfold wX0_makeCell_p12
        simp only [n0, true_implies, not_true_eq_false, false_implies, and_true]
        rw [x_intsFor hk hn]
        simp only [forall_eq, R.made.2.2, h5, show (500 : Int32) ≤ nI 500 by decide, true_implies, not_true_eq_false, false_implies, and_true]
        exact hQ
      · unfold wX10_makes_p12
        simp only [n0, true_implies, not_true_eq_false, false_implies, and_true, forall_eq, a4, h5, show nI 500 = 500 from rfl]
        rw [e_fails]
        exact hQ
    · have h5' : ¬ (500 : Int32) ≤ nI (zM (m 1)) := nI_ge (b := 500) (by omega) (by decide)
      have h5'' : ¬ nI (zM (m 1)) = 500 := fun q => h5 (nI_inj (b := 500) (by omega) (by decide) q)
      have hM' : zM (m 1) < 500 := by omega
      have hXh : ∀ Q : Int32 → gMem → Prop, ((nI (szN k n) ≤ nI (zA (m 1) - zU (m 1)) → wX0_makeCell_p75 (nI k) (nI n) (nI (szN k n)) c Q) ∧ (¬ nI (szN k n) ≤ nI (zA (m 1) - zU (m 1)) → wX7_reachedInts c (fun r11 c10 => ((nI (szN k n) ≤ nI (zA (m 1)) - r11 → wX0_makeCell_p75 (nI k) (nI n) (nI (szN k n)) c10 Q) ∧ (¬ nI (szN k n) ≤ nI (zA (m 1)) - r11 → Q (-16) c10))))) → wX0_makeCell_p12 (nI k) (nI n) c Q := by
        intro Q hQ
        unfold wX0_makeCell_p12
        simp only [n0, true_implies, not_true_eq_false, false_implies, and_true]
        rw [x_intsFor hk hn]
        simp only [forall_eq, R.made.2.2, h5', true_implies, not_false_eq_true, false_implies, true_and]
        rw [x_free R]
        have : c 2 0 = nI (zA (m 1)) := R.1.1.1.1.trans a1
        simp only [this]
        exact hQ
      have hMh : ∀ Q : Int32 → gMem → Prop, ((nI (szN k n) ≤ nI (zA (m 1) - zU (m 1)) → wX10_makes_p127 (nI k) (nI n) (nI (szN k n)) m Q) ∧ (¬ nI (szN k n) ≤ nI (zA (m 1) - zU (m 1)) → wX10_reached m (fun r10 c9 => ∀ v11, v11 = c9 1 0 → ((r10 + nI (szN k n) ≤ v11 → roomM (nI k) (nI n) (nI (szN k n)) c9 Q) ∧ (¬ r10 + nI (szN k n) ≤ v11 → Q (-16) c9))))) → wX10_makes_p12 (nI k) (nI n) m Q := by
        intro Q hQ
        unfold wX10_makes_p12
        simp only [n0, true_implies, not_true_eq_false, false_implies, and_true, forall_eq, a4, h5'', not_false_eq_true, true_and]
        rw [e_sizeOf hk hn, a1, a6, nI_sub a8]
        unfold roomM at hQ
        simp only [forall_eq] at hQ
        exact hQ
      by_cases fits : zU (m 1) + szN k n ≤ zA (m 1)
      · have f1 : nI (szN k n) ≤ nI (zA (m 1) - zU (m 1)) := nI_le (by omega) (by omega)
        obtain ⟨c1, m1, X1, M1, R1, e1, o1⟩ := sim_addC R hk hn hM' fits
        refine ⟨nI (zM (m 1)), c1, m1, fun Q hQ => hXh Q ⟨fun _ => ?_, fun z => absurd f1 z⟩, fun Q hQ => hMh Q ⟨fun _ => M1 Q hQ, fun z => absurd f1 z⟩, R1.mono (by omega), o1, Or.inr (Or.inr ⟨zM (m 1), by rw [show zM (m1 1) = zM (m 1) + 1 from nn_nI e1 (by omega)]; omega, rfl⟩), by rw [show zM (m1 1) = zM (m 1) + 1 from nn_nI e1 (by omega)]; omega⟩
        unfold wX0_makeCell_p75
        intro P hP
        refine hP _ _ _ _ _ ?_
        unfold wX0_makeCell_p78_b
        simp only [show ¬ (2 : Int32) ≤ 0 by decide, true_implies, not_false_eq_true, false_implies, true_and]
        rw [x_free R]
        simp only [f1, true_implies, not_true_eq_false, false_implies, and_true]
        exact X1 Q hQ
      · have f1 : ¬ nI (szN k n) ≤ nI (zA (m 1) - zU (m 1)) := nI_ge (by omega) (by omega)
        obtain ⟨c1, m1, l, kk, X1, M1, R1, e1, o1, b1, g1, nd1⟩ := sim_reached R
        have hsum := sum_le R.1.2.1.1 g1 nd1
        by_cases fit2 : (l.map (aSz (m 1))).sum + szN k n ≤ zA (m 1)
        · obtain ⟨c2, m2, X2, M2, R2, f2, e2, o2⟩ := sim_room (l1 := nI k) (l3 := nI n) (n := szN k n) (l := l) (k := kk) R1 hT (by omega) (by rw [e1]; exact fits) (by rw [e1]; exact b1) (by rw [e1]; exact fit2)
          have zm2 : zM (m2 1) = zM (m 1) := (nn_cong e2).trans (by rw [e1])
          obtain ⟨c3, m3, X3, M3, R3, e3, o3⟩ := sim_addC R2 hk hn (by omega) f2
          rw [zm2] at e3
          refine ⟨nI (zM (m2 1)), c3, m3, fun Q hQ => hXh Q ⟨fun z => absurd z f1, fun _ => X1 _ ⟨fun _ => ?_, fun z => absurd ?_ z⟩⟩, fun Q hQ => hMh Q ⟨fun z => absurd z f1, fun _ => M1 _ ?_⟩, R3, by rw [o3, o2, o1], Or.inr (Or.inr ⟨zM (m2 1), by rw [show zM (m3 1) = zM (m 1) + 1 from nn_nI e3 (by omega)]; omega, rfl⟩), by rw [show zM (m3 1) = zM (m 1) + 1 from nn_nI e3 (by omega)]; omega⟩
          · unfold wX0_makeCell_p75
            exact X2 Q (X3 Q hQ)
          · rw [nI_sub (by omega)]; exact nI_le (by omega) (by omega)
          · intro v11 hv
            subst hv
            rw [e1, a1, nI_add]
            refine ⟨fun _ => M2 Q (M3 Q hQ), fun z => absurd ?_ z⟩
            exact nI_le fit2 (by omega)
        · refine ⟨-16, c1, m1, fun Q hQ => hXh Q ⟨fun z => absurd z f1, fun _ => X1 _ ⟨fun z => absurd z ?_, fun _ => hQ⟩⟩, fun Q hQ => hMh Q ⟨fun z => absurd z f1, fun _ => M1 _ ?_⟩, R1.mono (by omega), o1, Or.inr (Or.inl rfl), by rw [e1]; exact Nat.le_refl _⟩
          · rw [nI_sub (by omega)]; exact nI_ge (by omega) (by omega)
          · intro v11 hv
            subst hv
            rw [e1, a1, nI_add]
            exact ⟨fun z => absurd z (nI_ge (by omega) (by omega)), fun _ => hQ⟩
  by_cases hmn : aMany k
  · have hX : ∀ Q : Int32 → gMem → Prop, wX0_makeCell_p12 (nI k) y c Q → wX0_makeCell (nI k) y c Q := by
      intro Q hQ
      unfold wX0_makeCell
      rw [x_many1 hmn]
      simp only [i32_10, true_implies, not_false_eq_true, false_implies, true_and]; exact hQ
    have hMm : ∀ Q : Int32 → gMem → Prop, wX10_makes_p12 (nI k) y m Q → wX10_makes (nI k) y m Q := by
      intro Q hQ
      unfold wX10_makes
      rw [e_many1 hmn]
      simp only [i32_10, true_implies, not_false_eq_true, false_implies, true_and]; exact hQ
    rcases pk_ix y (n := 301) (by decide) with q | q | ⟨n, hn, rfl⟩
    · have n0 : ¬ (0 : Int32) ≤ y := fun z => by
        have h1 := Int32.le_iff_toInt_le.mp z
        have h2 := Int32.lt_iff_toInt_lt.mp q
        omega
      refine ⟨-14, c, m, fun Q hQ => hX Q ?_, fun Q hQ => hMm Q ?_, R', rfl, Or.inl rfl, Nat.le_refl _⟩
      · unfold wX0_makeCell_p12
        simp only [n0, true_implies, not_false_eq_true, false_implies, true_and]; exact hQ
      · unfold wX10_makes_p12
        simp only [n0, true_implies, not_false_eq_true, false_implies, true_and]
        rw [e_fails]; exact hQ
    · have h1 := Int32.le_iff_toInt_le.mp q
      rw [nI_toInt (by decide)] at h1
      have := hy hmn
      omega
    · obtain ⟨r, c1, m1, X1, M1, rest⟩ := core n (by omega)
      exact ⟨r, c1, m1, fun Q hQ => hX Q (X1 Q hQ), fun Q hQ => hMm Q (M1 Q hQ), rest⟩
  · obtain ⟨r, c1, m1, X1, M1, rest⟩ := core 0 (by omega)
    refine ⟨r, c1, m1, fun Q hQ => ?_, fun Q hQ => ?_, rest⟩
    · unfold wX0_makeCell
      rw [x_many0 hmn hk]
      simp only [true_implies, not_true_eq_false, false_implies, and_true]; exact X1 Q hQ
    · unfold wX10_makes
      rw [e_many0 hmn hk]
      simp only [true_implies, not_true_eq_false, false_implies, and_true]; exact M1 Q hQ
theorem op_make {x y : Int32} (R : Rel T c m) (hT : T < 2 ^ 28) : Sim (wX9_make x y c) (wX10_make x y m) (Rel (T + 1000)) := by
  have R' := R.mono (T' := T + 1000) (by omega)
  have out : ∀ (hx : ∀ Q : Int32 → gMem → Prop, wX9_isOutsideOfMaking x y c Q = Q 1 c) (hm : ∀ Q : Int32 → gMem → Prop, Q (-102) m → wX10_make x y m Q), Sim (wX9_make x y c) (wX10_make x y m) (Rel (T + 1000)) := by
    intro hx hm
    refine ⟨-102, c, m, fun Q hQ => ?_, fun Q hQ => hm Q hQ, R'⟩
    unfold wX9_make
    rw [hx]
    simp only [i32_10, true_implies, not_false_eq_true, false_implies, true_and]; exact hQ
  have z5 : (5 : Int64).toInt = 5 := by decide
  rcases pk_ix x (n := 6) (by decide) with q | q | ⟨k, hk, rfl⟩
  · refine out (fun Q => ?_) (fun Q hQ => ?_)
    · unfold wX9_isOutsideOfMaking wX9_isOutsideOfMaking_p24
      simp only [q, true_implies, not_true_eq_false, false_implies, and_true]
    · unfold wX10_make
      have q' := Int32.lt_iff_toInt_lt.mp q
      have z0 : (0 : Int32).toInt = 0 := by decide
      rw [e_inI0 (Or.inl (by rw [i64_0]; omega))]
      simp only [true_implies, not_true_eq_false, false_implies, and_true]; exact hQ
  · have q' := Int32.le_iff_toInt_le.mp q
    rw [nI_toInt (by decide)] at q'
    refine out (fun Q => ?_) (fun Q hQ => ?_)
    · unfold wX9_isOutsideOfMaking wX9_isOutsideOfMaking_p24
      have z0 : (0 : Int32).toInt = 0 := by decide
      have n0 : ¬ x < 0 := fun z => by have := Int32.lt_iff_toInt_lt.mp z; omega
      have n6 : (6 : Int32) ≤ x := q
      simp only [n0, n6, true_implies, not_true_eq_false, not_false_eq_true, false_implies, and_true, true_and]
    · unfold wX10_make
      rw [e_inI0 (Or.inr (by rw [z5]; omega))]
      simp only [true_implies, not_true_eq_false, false_implies, and_true]; exact hQ
  · have hk5 : k ≤ 5 := by omega
    have n0 : ¬ nI k < 0 := fun z => by
      have := Int32.lt_iff_toInt_lt.mp z
      rw [nI_toInt (by omega)] at this
      have z0 : (0 : Int32).toInt = 0 := by decide
      omega
    have n6 : ¬ (6 : Int32) ≤ nI k := nI_ge (b := 6) hk (by decide)
    have hin : ∀ Q : Int32 → gMem → Prop, wX10_in (nI k).toInt64 0 5 m Q = Q 1 m := fun Q => e_inI1 (by rw [i64_0, nI_toInt (by omega)]; omega) (by rw [z5, nI_toInt (by omega)]; omega)
    have done : (aMany k → y.toInt ≤ 300) → (∀ Q : Int32 → gMem → Prop, wX9_isOutsideOfMaking (nI k) y c Q = Q 0 c) → (∀ Q : Int32 → gMem → Prop, wX10_make_p29 (nI k) y m Q → wX10_make (nI k) y m Q) → Sim (wX9_make (nI k) y c) (wX10_make (nI k) y m) (Rel (T + 1000)) := by
      intro hy hx hm
      obtain ⟨r, c1, m1, X1, M1, R1, -⟩ := sim_makes (y := y) R hT hk5 hy
      refine ⟨r, mp c1 0 5 (fdA r), mp m1 0 5 (fdA r), fun Q hQ => ?_, fun Q hQ => hm Q ?_, R1.set5 _⟩
      · unfold wX9_make
        rw [hx]
        simp only [true_implies, not_true_eq_false, false_implies, and_true]
        refine X1 _ ?_
        rw [x_answer]; exact hQ
      · unfold wX10_make_p29
        refine M1 _ ?_
        rw [e_answers]; exact hQ
    by_cases hmn : aMany k
    · by_cases hy : y ≤ 300
      · have hy' : y.toInt ≤ 300 := by
          have := Int32.le_iff_toInt_le.mp hy
          have z : (300 : Int32).toInt = 300 := by decide
          omega
        refine done (fun _ => hy') (fun Q => ?_) (fun Q hQ => ?_)
        · unfold wX9_isOutsideOfMaking
          simp only [n0, n6, true_implies, not_false_eq_true, false_implies, true_and]
          rw [x_many1 hmn]
          simp only [i32_10, hy, true_implies, not_true_eq_false, not_false_eq_true, false_implies, true_and, and_true]
        · unfold wX10_make
          rw [hin]
          simp only [i32_10, true_implies, not_false_eq_true, false_implies, true_and]
          rw [e_many1 hmn]
          simp only [i32_10, hy, true_implies, not_true_eq_false, not_false_eq_true, false_implies, true_and, and_true]
          exact hQ
      · refine out (fun Q => ?_) (fun Q hQ => ?_)
        · unfold wX9_isOutsideOfMaking wX9_isOutsideOfMaking_p24
          simp only [n0, n6, true_implies, not_false_eq_true, false_implies, true_and]
          rw [x_many1 hmn]
          simp only [i32_10, hy, true_implies, not_false_eq_true, false_implies, true_and]
        · unfold wX10_make
          rw [hin]
          simp only [i32_10, true_implies, not_false_eq_true, false_implies, true_and]
          rw [e_many1 hmn]
          simp only [i32_10, hy, true_implies, not_false_eq_true, false_implies, true_and]
          exact hQ
    · refine done (fun z => absurd z hmn) (fun Q => ?_) (fun Q hQ => ?_)
      · unfold wX9_isOutsideOfMaking
        simp only [n0, n6, true_implies, not_false_eq_true, false_implies, true_and]
        rw [x_many0 hmn hk5]
        simp only [true_implies, not_true_eq_false, false_implies, and_true]
      · unfold wX10_make
        rw [hin]
        simp only [i32_10, true_implies, not_false_eq_true, false_implies, true_and]
        rw [e_many0 hmn hk5]
        simp only [true_implies, not_true_eq_false, false_implies, and_true]
        exact hQ
end MK2

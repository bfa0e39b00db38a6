/-! giving back, step by step on both sides -/
def gbF (c0 : gMem) (s : gS) : Prop := zM s ≤ 500 ∧ s 1 = nI (zM s) ∧ c0 2 2 = nI (zM s) ∧ (∀ h, h < zM s → s (1100 + 10 * h) = 0 ∨ s (1100 + 10 * h) = 1) ∧ (∀ h, h < zM s → aLv s h → s (1101 + 10 * h) = nI (aKd s h) ∧ aKd s h ≤ 5 ∧ ∃ p : Nat, p < 4000 ∧ c0 4 h = nI p ∧ c0 3 p = nI (8 * h + aKd s h)) ∧ (∀ h, h < zM s → ¬ aLv s h → c0 4 h = -1) ∧ ∀ h, h < zM s → c0 8 h = s (1105 + 10 * h)
def gbR (c0 m0 : gMem) (s : gS) (j : Nat) (c m : gMem) : Prop :=
  m 1 = gvS s j ∧ (∀ i, i ≠ 1 → i ≠ 4 → i ≠ 5 → m i = m0 i) ∧ (∀ i, i ≠ 2 → i ≠ 4 → i ≠ 64 → i ≠ 65 → i ≠ 66 → c i = c0 i) ∧ (∀ k, k ≠ 3 → c 2 k = c0 2 k) ∧ c 2 3 = m 1 2 ∧ (∀ h, h < 500 → c 4 h = if h < j ∧ ddB s h = true then -1 else c0 4 h) ∧ (∀ b, b < 14 → c 64 b = m 4 b) ∧ c 65 5 = nI (ndN s j) ∧ ∀ q, q < ndN s j → c 66 q = m 5 q
section GB2
variable {c0 m0 c m : gMem} {s : gS} {j : Nat}
theorem gbR.skip (hd : ¬ ddB s j = true) (h : gbR c0 m0 s j c m) : gbR c0 m0 s (j + 1) c m := by
  obtain ⟨h1, h2, h3, h4, h5, h6, h7, h8, h9⟩ := h
  have hn : ndN s (j + 1) = ndN s j := by
    show ndN s j + (if ddB s j then 1 else 0) = _
    rw [if_neg hd, Nat.add_zero]
  refine ⟨?_, h2, h3, h4, h5, fun q hq => ?_, h7, by rw [hn]; exact h8, by rw [hn]; exact h9⟩
  · rw [h1]
    show _ = (if ddB s j then _ else gvS s j)
    rw [if_neg hd]
  · rw [h6 q hq]
    by_cases hq2 : q < j ∧ ddB s q = true
    · rw [if_pos hq2, if_pos ⟨by omega, hq2.2⟩]
    · rw [if_neg hq2, if_neg]
      intro z
      by_cases hqj : q = j
      · subst hqj; exact hd z.2
      · exact hq2 ⟨by omega, z.2⟩
theorem gb_step (F : gbF c0 s) (h7 : s 7 = 0) (hj : j < zM s) (h : gbR c0 m0 s j c m) : ∃ c' m', (∀ Q, wX7_giveBackUnmarked_p7 (nI (j + 1)) c' Q → wX7_giveBackUnmarked_p7 (nI j) c Q) ∧ (∀ Q, wX10_giveBack_p2 (nI (j + 1)) m' Q → wX10_giveBack_p2 (nI j) m Q) ∧ gbR c0 m0 s (j + 1) c' m' := by
  obtain ⟨f1, f2, f3, f4, f5, f6, f8⟩ := F
  obtain ⟨h1, h2, h3, h4, h5, h6, h64, h65, h66⟩ := id h
  have c22 : c 2 2 = nI (zM s) := by rw [h4 2 (by decide)]; exact f3
  have m11 : m 1 1 = nI (zM s) := by rw [h1, gv_o (by decide) (by decide) (by omega) j (fun h hh => by omega)]; exact f2
  have hge : ¬ nI (zM s) ≤ nI j := nI_ge hj (by omega)
  have mlv : m 1 (1100 + 10 * j) = s (1100 + 10 * j) := by rw [h1, gv_is, if_neg (by omega)]
  have mo : ∀ w, w = 1 ∨ w = 5 → m 1 (1100 + w + 10 * j) = s (1100 + w + 10 * j) := fun w hw => by
    rw [h1, gv_o (by omega) (by omega) (by omega) j (fun h hh => by omega)]
  have m5 := mo 5 (by omega)
  have m1 := mo 1 (by omega)
  have c4 : c 4 j = c0 4 j := by rw [h6 j (by omega), if_neg (by omega)]
  have c8 : c 8 j = s (1105 + 10 * j) := by rw [h3 8 (by decide) (by decide) (by decide) (by decide) (by decide)]; exact f8 j hj
  by_cases hl : aLv s j
  · obtain ⟨k1, k2, p, hp, hc4, hc3⟩ := f5 j hj hl
    have hcc4 : c 4 j = nI p := c4.trans hc4
    have hcc3 : c 3 p = nI (8 * j + aKd s j) := by rw [h3 3 (by decide) (by decide) (by decide) (by decide) (by decide)]; exact hc3
    by_cases hm : s (1105 + 10 * j) = 0
    · have hd : ddB s j = true := ddB_t.mpr ⟨hl, hm⟩
      have hn : ndN s (j + 1) = ndN s j + 1 := by
        show ndN s j + (if ddB s j then 1 else 0) = _
        rw [if_pos hd]
      have hnle := ndN_le (s := s) j
      have m7 : m 1 7 = nI (ndN s j) := by rw [h1]; exact gv_7 h7 j
      -- the class
      have hX : ∃ c', (∀ Q, wX7_giveBackUnmarked_p7 (nI (j + 1)) c' Q → wX7_giveBackUnmarked_p7 (nI j) c Q) ∧ c' = mp (mp (mp (mp (if aKd s j = 4 then mp (mp c 64 11 (c 64 11 + 1)) 64 12 (c 64 12 + 1) else mp c 64 11 (c 64 11 + 1)) 4 j (-1)) 2 3 (c 2 3 - 1)) 66 (ndN s j) (nI j)) 65 5 (nI (ndN s j + 1)) := by
        refine ⟨_, ?_, rfl⟩
        · intro Q hQ P hP
          refine hP _ _ ?_
          unfold wX7_giveBackUnmarked_p7_b
          simp only [forall_eq, c22, hge, true_implies, not_false_eq_true, false_implies, true_and]
          rw [x_has1 c22 f1 hj hcc4 hp]
          simp only [i32_10, true_implies, not_false_eq_true, false_implies, true_and]
          rw [nI_clamp (by omega)]
          refine ⟨vp_in_nI (by omega) (by decide), ?_⟩
          simp only [forall_eq, c8, hm, true_implies, not_true_eq_false, false_implies, and_true]
          rw [x_kindOf (by omega) hcc4 hp hcc3 k2]
          unfold wX7_countGivenBack wX2_giveBack wX7_giveBackUnmarked_p81
          rw [nI_clamp (by omega)]
          simp only [forall_eq, mp_s, mp_n (show (65 : Nat) ≠ 64 by decide), mp_n (show (65 : Nat) ≠ 66 by decide), mp_n (show (65 : Nat) ≠ 2 by decide), mp_n (show (65 : Nat) ≠ 4 by decide), mp_n (show (2 : Nat) ≠ 4 by decide), mp_n (show (2 : Nat) ≠ 64 by decide), h65, up_n (show (12 : Nat) ≠ 11 by decide)]
          rw [nI_clamp (by omega), nI_1, nI_1]
          have key := hQ P hP
          by_cases hk4 : aKd s j = 4
          · have e4 : nI (aKd s j) = 4 := by rw [hk4]; rfl
            simp only [e4, true_implies, not_true_eq_false, false_implies, and_true]
            refine ⟨vp_in_nI (by omega) (by decide), vp_in_nI (by omega) (by decide), ?_⟩
            rw [if_pos hk4] at key
            exact key
          · have e4 : ¬ nI (aKd s j) = 4 := fun q => hk4 (nI_inj (b := 4) (by omega) (by decide) q)
            simp only [e4, true_implies, not_false_eq_true, false_implies, true_and]
            refine ⟨vp_in_nI (by omega) (by decide), vp_in_nI (by omega) (by decide), ?_⟩
            rw [if_neg hk4] at key
            exact key
      have hMm : ∃ m', (∀ Q, wX10_giveBack_p2 (nI (j + 1)) m' Q → wX10_giveBack_p2 (nI j) m Q) ∧ m' 1 = gvS s (j + 1) ∧ (∀ i, i ≠ 1 → i ≠ 4 → i ≠ 5 → m' i = m i) ∧ m' 4 = upd (upd (m 4) 12 (m 4 12 + (if aKd s j = 4 then 1 else 0))) 11 (m 4 11 + 1) ∧ m' 5 = upd (m 5) (ndN s j) (nI j) := by
        apply Exists.intro
        apply And.intro
        · intro Q hQ P hP
          refine hP _ _ ?_
          unfold wX10_giveBack_p2_b
          simp only [forall_eq, m11, hge, true_implies, not_false_eq_true, false_implies, true_and]
          rw [e_of0 (by omega), mlv, show s (1100 + 10 * j) = 1 from hl]
          simp only [true_implies, not_true_eq_false, false_implies, and_true]
          rw [e_of5 (by omega), show m 1 (1105 + 10 * j) = 0 from m5.trans hm]
          simp only [true_implies, not_true_eq_false, false_implies, and_true]
          rw [e_of1 (by omega), show m 1 (1101 + 10 * j) = nI (aKd s j) from m1.trans k1]
          have fin : wX10_giveBack_p54 P (nI j) (if aKd s j = 4 then 1 else 0) (m 4 12) 12 m Q := by
            unfold wX10_giveBack_p54
            rw [show (12 : Int32).toNatClampNeg = 12 by decide]
            refine ⟨(show vp_in (nI 12) 14 from vp_in_nI (by decide) (by decide)), ?_⟩
            simp only [forall_eq]
            rw [e_let0 (by omega)]
            simp only [forall_eq, mp_s, mp_n (show (1 : Nat) ≠ 4 by decide), mp_n (show (1 : Nat) ≠ 5 by decide), mp_n (show (4 : Nat) ≠ 1 by decide), up_n (show (7 : Nat) ≠ 2 by decide), up_n (show (7 : Nat) ≠ 1100 + 10 * j by omega), up_n (show (2 : Nat) ≠ 1100 + 10 * j by omega), up_n (show (11 : Nat) ≠ 12 by decide), m7]
            rw [nI_clamp (by omega)]
            refine ⟨vp_in_nI (by omega) (by decide), ?_⟩
            refine e_shelfC (by omega) 32 44 _ (by omega) (by omega) Q ?_
            rw [nI_1]
            exact hQ P hP
          by_cases hk4 : aKd s j = 4
          · have e4 : nI (aKd s j) = 4 := by rw [hk4]; rfl
            simp only [forall_eq, e4, true_implies, not_true_eq_false, false_implies, and_true]
            rw [if_pos hk4] at fin
            exact fin
          · have e4 : ¬ nI (aKd s j) = 4 := fun q => hk4 (nI_inj (b := 4) (by omega) (by decide) q)
            simp only [forall_eq, e4, true_implies, not_false_eq_true, false_implies, true_and]
            rw [if_neg hk4] at fin
            exact fin
        · refine ⟨?_, fun i i1 i4 i5 => ?_, ?_, ?_⟩
          · rw [mr_s]
            have hg : gvS s (j + 1) = shC j (upd (upd (upd (gvS s j) (1100 + 10 * j) 0) 2 (gvS s j 2 - 1)) 7 (gvS s j 7 + 1)) := by
              show (if ddB s j then _ else gvS s j) = _
              rw [if_pos hd]
            rw [hg]
            unfold shC
            funext k
            simp only [mp_s, mp_n (show (1 : Nat) ≠ 4 by decide), mp_n (show (1 : Nat) ≠ 5 by decide), h1, gv_7 h7 j]
          · rw [mr_n i1, mp_n i1, mp_n i5, mp_n i1, mp_n i1, mp_n i4, mp_n i4]
          · rw [mr_n (by decide), mp_n (by decide), mp_n (by decide), mp_n (by decide), mp_n (by decide), mp_s, mp_s]
          · rw [mr_n (by decide), mp_n (by decide), mp_s, mp_n (by decide), mp_n (by decide), mp_n (by decide), mp_n (by decide)]
      obtain ⟨c', X, ec⟩ := hX
      obtain ⟨m', M, e1, e2, e4, e5⟩ := hMm
      have g2 : m' 1 2 = m 1 2 - 1 := by
        rw [e1, h1]
        show (if ddB s j then shC j (upd (upd (upd (gvS s j) (1100 + 10 * j) 0) 2 (gvS s j 2 - 1)) 7 (gvS s j 7 + 1)) else gvS s j) 2 = _
        rw [if_pos hd]
        unfold shC
        rw [if_neg (by decide), up_n (by decide), up_s]
      have ec64 : ∀ b, b < 14 → c' 64 b = m' 4 b := by
        intro b hb
        rw [ec, e4, mp_n (by decide), mp_n (by decide), mp_n (by decide), mp_n (by decide)]
        have z11 := h64 11 (by decide)
        have z12 := h64 12 (by decide)
        by_cases hk4 : aKd s j = 4
        · rw [if_pos hk4, if_pos hk4, mp_s, mp_s, ← z11, ← z12]
          unfold upd
          by_cases hb1 : b = 11
          · subst hb1; simp
          · by_cases hb2 : b = 12
            · subst hb2; simp
            · simp [hb1, hb2, h64 b hb]
        · rw [if_neg hk4, if_neg hk4, mp_s, ← z11, ← z12]
          unfold upd
          by_cases hb1 : b = 11
          · subst hb1; simp
          · by_cases hb2 : b = 12
            · subst hb2; simp [z12]
            · simp [hb1, hb2, h64 b hb]
      have hif : ∀ i, i ≠ 64 → (if aKd s j = 4 then mp (mp c 64 11 (c 64 11 + 1)) 64 12 (c 64 12 + 1) else mp c 64 11 (c 64 11 + 1)) i = c i := by
        intro i hi
        split
        · rw [mp_n hi, mp_n hi]
        · rw [mp_n hi]
      refine ⟨c', m', X, M, e1, fun i i1 i4 i5 => (e2 i i1 i4 i5).trans (h2 i i1 i4 i5), fun i i2 i4 i64 i65 i66 => ?_, fun k hk => ?_, ?_, fun h hh => ?_, ec64, ?_, fun q hq => ?_⟩
      · rw [ec, mp_n i65, mp_n i66, mp_n i2, mp_n i4, hif i i64]; exact h3 i i2 i4 i64 i65 i66
      · rw [ec, mp_n (by decide), mp_n (by decide), mp_s, up_n hk, mp_n (by decide), hif 2 (by decide)]; exact h4 k hk
      · rw [ec, mp_n (by decide), mp_n (by decide), mp_s, up_s, g2, h5]
      · rw [ec, mp_n (by decide), mp_n (by decide), mp_n (by decide), mp_s, hif 4 (by decide)]
        by_cases hhj : h = j
        · subst hhj; rw [up_s, if_pos ⟨by omega, hd⟩]
        · rw [up_n hhj, h6 h hh]
          by_cases hq2 : h < j ∧ ddB s h = true
          · rw [if_pos hq2, if_pos ⟨by omega, hq2.2⟩]
          · rw [if_neg hq2, if_neg (fun z => hq2 ⟨by omega, z.2⟩)]
      · rw [ec, mp_s, up_s, hn]
      · rw [ec, mp_n (by decide), mp_s, e5, mp_n (by decide), mp_n (by decide), hif 66 (by decide)]
        rw [hn] at hq
        by_cases hqn : q = ndN s j
        · subst hqn; rw [up_s, up_s]
        · rw [up_n hqn, up_n hqn]; exact h66 q (by omega)
    · have hd : ¬ ddB s j = true := fun q => hm (ddB_t.mp q).2
      refine ⟨c, m, fun Q hQ P hP => hP _ _ ?_, fun Q hQ P hP => hP _ _ ?_, h.skip hd⟩
      · unfold wX7_giveBackUnmarked_p7_b wX7_giveBackUnmarked_p81
        simp only [forall_eq, c22, hge, true_implies, not_false_eq_true, false_implies, true_and]
        rw [x_has1 c22 f1 hj hcc4 hp]
        simp only [i32_10, true_implies, not_false_eq_true, false_implies, true_and]
        rw [nI_clamp (by omega)]
        refine ⟨vp_in_nI (by omega) (by decide), ?_⟩
        simp only [forall_eq, c8, hm, true_implies, not_false_eq_true, false_implies, true_and]
        rw [nI_1]; exact hQ P hP
      · unfold wX10_giveBack_p2_b wX10_giveBack_p149
        simp only [forall_eq, m11, hge, true_implies, not_false_eq_true, false_implies, true_and]
        rw [e_of0 (by omega), mlv, show s (1100 + 10 * j) = 1 from hl]
        simp only [true_implies, not_true_eq_false, false_implies, and_true]
        rw [e_of5 (by omega)]
        have : ¬ m 1 (1105 + 10 * j) = 0 := by rw [show m 1 (1105 + 10 * j) = _ from m5]; exact hm
        simp only [this, true_implies, not_false_eq_true, false_implies, true_and]
        rw [nI_1]; exact hQ P hP
  · have hd : ¬ ddB s j = true := fun q => hl (ddB_t.mp q).1
    refine ⟨c, m, fun Q hQ P hP => hP _ _ ?_, fun Q hQ P hP => hP _ _ ?_, h.skip hd⟩
    · unfold wX7_giveBackUnmarked_p7_b wX7_giveBackUnmarked_p81
      simp only [forall_eq, c22, hge, true_implies, not_false_eq_true, false_implies, true_and]
      rw [x_has0 c22 f1 hj (c4.trans (f6 j hj hl))]
      simp only [true_implies, not_true_eq_false, false_implies, and_true]
      rw [nI_1]; exact hQ P hP
    · unfold wX10_giveBack_p2_b wX10_giveBack_p149
      simp only [forall_eq, m11, hge, true_implies, not_false_eq_true, false_implies, true_and]
      rw [e_of0 (by omega)]
      have : ¬ m 1 (1100 + 10 * j) = 1 := by rw [mlv]; exact hl
      simp only [this, true_implies, not_false_eq_true, false_implies, true_and]
      rw [nI_1]; exact hQ P hP
theorem gb_all (F : gbF c0 s) (h7 : s 7 = 0) : ∀ (d j : Nat) (c m : gMem), j + d = zM s → gbR c0 m0 s j c m → ∃ c' m', (∀ Q, wX7_giveBackUnmarked_p7 (nI (zM s)) c' Q → wX7_giveBackUnmarked_p7 (nI j) c Q) ∧ (∀ Q, wX10_giveBack_p2 (nI (zM s)) m' Q → wX10_giveBack_p2 (nI j) m Q) ∧ gbR c0 m0 s (zM s) c' m' := by
  intro d
  induction d with
  | zero =>
    intro j c m hj h
    have : j = zM s := by omega
    subst this
    exact ⟨c, m, fun _ q => q, fun _ q => q, h⟩
  | succ d ih =>
    intro j c m hj h
    obtain ⟨c1, m1, X1, M1, h1⟩ := gb_step F h7 (by omega) h
    obtain ⟨c2, m2, X2, M2, h2⟩ := ih (j + 1) c1 m1 (by omega) h1
    exact ⟨c2, m2, fun Q q => X1 Q (X2 Q q), fun Q q => M1 Q (M2 Q q), h2⟩
end GB2

/-! image, load, undoStep; what a step keeps -/
def ovr (s : gS) (lo hi : Nat) (t : gS) : gS := fun j => if lo ≤ j ∧ j < hi then s j else t j
def kpF (s t : gS) : gS := ovr s 18100 (18100 + zR s) (ovr s 10100 (10100 + zR s) (ovr s 6100 (6100 + zA s) (ovr s 0 (1100 + 10 * zM s) t)))
theorem kpF_E {T : Nat} {s t : gS} (h : aSI T s) : kpE s (kpF s t) := by
  have hM := h.1.1.1.2.2.2.2.1
  have hA := h.1.1.1.2.2.1
  have hR := h.1.2.2.2.1.2.2
  refine ⟨fun k hk => ?_, fun k hk => ?_, fun k hk => ⟨?_, ?_⟩⟩
  · unfold kpF ovr; rw [if_neg (by omega), if_neg (by omega), if_neg (by omega), if_pos (by omega)]
  · unfold kpF ovr; rw [if_neg (by omega), if_neg (by omega), if_pos (by omega)]
  · unfold kpF ovr; rw [if_neg (by omega), if_pos (by omega)]
  · unfold kpF ovr; rw [if_pos (by omega)]
section IM
variable {T : Nat} {c m : gMem}
theorem mv_1_3 {hi : Nat} (hh : hi ≤ 26100) : ∀ (n k : Nat), k + n = hi → ∀ m : gMem, Dv (wX10_moves_p3 (nI hi) (nI k) m) (mr m 3 (ovr (m 1) k hi (m 3))) := by
  intro n
  induction n with
  | zero =>
    intro k hk m Q hQ P hP
    refine hP _ _ _ ?_
    unfold wX10_moves_p3_b
    simp only [show k = hi by omega, Int32.le_refl, true_implies, not_true_eq_false, not_false_eq_true, false_implies, true_and, and_true]
    have : ovr (m 1) k hi (m 3) = m 3 := by funext j; unfold ovr; rw [if_neg (by omega)]
    rw [this, mr_self] at hQ; exact hQ
  | succ n ih =>
    intro k hk m Q hQ P hP
    refine hP _ _ _ ?_
    unfold wX10_moves_p3_b
    rw [nI_clamp (by omega)]
    simp only [nI_ge (show k < hi by omega) (show hi < 2 ^ 31 by omega), vp_in_nI (show k < 26100 by omega) (show 26100 < 2 ^ 31 by decide), forall_eq, nI_1, true_implies, not_true_eq_false, not_false_eq_true, false_implies, true_and, and_true]
    refine ih (k + 1) (by omega) _ Q ?_ P hP
    have : mr (mp m 3 k (m 1 k)) 3 (ovr (mp m 3 k (m 1 k) 1) (k + 1) hi (mp m 3 k (m 1 k) 3)) = mr m 3 (ovr (m 1) k hi (m 3)) := by
      rw [mp_n (show (1 : Nat) ≠ 3 by decide), mp_s]
      unfold mp
      rw [mr_mr]
      congr 1
      funext j
      unfold ovr
      by_cases hj : j = k
      · subst hj; rw [if_neg (by omega), if_pos (by omega), up_s]
      · by_cases hj2 : k + 1 ≤ j ∧ j < hi
        · rw [if_pos hj2, if_pos (by omega)]
        · rw [if_neg hj2, if_neg (by omega), up_n hj]
    rw [this]; exact hQ
theorem kp_1_3 (h : aSI T (m 1)) : Dv (wX10_keep m) (mr m 3 (kpF (m 1) (m 3))) := by
  have hM := h.1.1.1.2.2.2.2.1
  have hA := h.1.1.1.2.2.1
  have e1 := h.1.1.1.2.2.2.1
  have e0 := h.1.1.1.1
  have hR := h.1.2.2.2.1
  have hR6 := hR.2.2
  intro Q hQ
  have n1 : ∀ f : gS, mr m 3 f 1 = m 1 := fun f => mr_n (by decide)
  unfold wX10_keep wX10_moves
  simp only [forall_eq]
  rw [e1, show (1100 : Int32) + 10 * nI (zM (m 1)) = nI (1100 + 10 * zM (m 1)) from by rw [show (10 : Int32) = nI 10 from rfl, show (1100 : Int32) = nI 1100 from rfl, pk_mul, nI_add]]
  refine mv_1_3 (by omega) (1100 + 10 * zM (m 1)) 0 (by omega) m _ ?_
  simp only [n1]
  rw [e0, show (6100 : Int32) + nI (zA (m 1)) = nI (6100 + zA (m 1)) from nI_add 6100 _]
  refine mv_1_3 (by omega) (zA (m 1)) 6100 (by omega) _ _ ?_
  simp only [n1, mr_mr, mr_s]
  rw [hR.1, show (10100 : Int32) + nI (zR (m 1)) = nI (10100 + zR (m 1)) from nI_add 10100 _]
  refine mv_1_3 (by omega) (zR (m 1)) 10100 (by omega) _ _ ?_
  simp only [n1, mr_mr, mr_s]
  rw [hR.1, show (18100 : Int32) + nI (zR (m 1)) = nI (18100 + zR (m 1)) from nI_add 18100 _]
  refine mv_1_3 (by omega) (zR (m 1)) 18100 (by omega) _ _ ?_
  simp only [n1, mr_mr, mr_s]
  exact hQ
theorem mv_1_2 {hi : Nat} (hh : hi ≤ 26100) : ∀ (n k : Nat), k + n = hi → ∀ m : gMem, Dv (wX10_moves_75_76_p3 (nI hi) (nI k) m) (mr m 2 (ovr (m 1) k hi (m 2))) := by
  intro n
  induction n with
  | zero =>
    intro k hk m Q hQ P hP
    refine hP _ _ _ ?_
    unfold wX10_moves_75_76_p3_b
    simp only [show k = hi by omega, Int32.le_refl, true_implies, not_true_eq_false, not_false_eq_true, false_implies, true_and, and_true]
    have : ovr (m 1) k hi (m 2) = m 2 := by funext j; unfold ovr; rw [if_neg (by omega)]
    rw [this, mr_self] at hQ; exact hQ
  | succ n ih =>
    intro k hk m Q hQ P hP
    refine hP _ _ _ ?_
    unfold wX10_moves_75_76_p3_b
    rw [nI_clamp (by omega)]
    simp only [nI_ge (show k < hi by omega) (show hi < 2 ^ 31 by omega), vp_in_nI (show k < 26100 by omega) (show 26100 < 2 ^ 31 by decide), forall_eq, nI_1, true_implies, not_true_eq_false, not_false_eq_true, false_implies, true_and, and_true]
    refine ih (k + 1) (by omega) _ Q ?_ P hP
    have : mr (mp m 2 k (m 1 k)) 2 (ovr (mp m 2 k (m 1 k) 1) (k + 1) hi (mp m 2 k (m 1 k) 2)) = mr m 2 (ovr (m 1) k hi (m 2)) := by
      rw [mp_n (show (1 : Nat) ≠ 2 by decide), mp_s]
      unfold mp
      rw [mr_mr]
      congr 1
      funext j
      unfold ovr
      by_cases hj : j = k
      · subst hj; rw [if_neg (by omega), if_pos (by omega), up_s]
      · by_cases hj2 : k + 1 ≤ j ∧ j < hi
        · rw [if_pos hj2, if_pos (by omega)]
        · rw [if_neg hj2, if_neg (by omega), up_n hj]
    rw [this]; exact hQ
theorem kp_1_2 (h : aSI T (m 1)) : Dv (wX10_keep_75_76 m) (mr m 2 (kpF (m 1) (m 2))) := by
  have hM := h.1.1.1.2.2.2.2.1
  have hA := h.1.1.1.2.2.1
  have e1 := h.1.1.1.2.2.2.1
  have e0 := h.1.1.1.1
  have hR := h.1.2.2.2.1
  have hR6 := hR.2.2
  intro Q hQ
  have n1 : ∀ f : gS, mr m 2 f 1 = m 1 := fun f => mr_n (by decide)
  unfold wX10_keep_75_76 wX10_moves_75_76
  simp only [forall_eq]
  rw [e1, show (1100 : Int32) + 10 * nI (zM (m 1)) = nI (1100 + 10 * zM (m 1)) from by rw [show (10 : Int32) = nI 10 from rfl, show (1100 : Int32) = nI 1100 from rfl, pk_mul, nI_add]]
  refine mv_1_2 (by omega) (1100 + 10 * zM (m 1)) 0 (by omega) m _ ?_
  simp only [n1]
  rw [e0, show (6100 : Int32) + nI (zA (m 1)) = nI (6100 + zA (m 1)) from nI_add 6100 _]
  refine mv_1_2 (by omega) (zA (m 1)) 6100 (by omega) _ _ ?_
  simp only [n1, mr_mr, mr_s]
  rw [hR.1, show (10100 : Int32) + nI (zR (m 1)) = nI (10100 + zR (m 1)) from nI_add 10100 _]
  refine mv_1_2 (by omega) (zR (m 1)) 10100 (by omega) _ _ ?_
  simp only [n1, mr_mr, mr_s]
  rw [hR.1, show (18100 : Int32) + nI (zR (m 1)) = nI (18100 + zR (m 1)) from nI_add 18100 _]
  refine mv_1_2 (by omega) (zR (m 1)) 18100 (by omega) _ _ ?_
  simp only [n1, mr_mr, mr_s]
  exact hQ
theorem mv_2_1 {hi : Nat} (hh : hi ≤ 26100) : ∀ (n k : Nat), k + n = hi → ∀ m : gMem, Dv (wX10_moves_76_75_p3 (nI hi) (nI k) m) (mr m 1 (ovr (m 2) k hi (m 1))) := by
  intro n
  induction n with
  | zero =>
    intro k hk m Q hQ P hP
    refine hP _ _ _ ?_
    unfold wX10_moves_76_75_p3_b
    simp only [show k = hi by omega, Int32.le_refl, true_implies, not_true_eq_false, not_false_eq_true, false_implies, true_and, and_true]
    have : ovr (m 2) k hi (m 1) = m 1 := by funext j; unfold ovr; rw [if_neg (by omega)]
    rw [this, mr_self] at hQ; exact hQ
  | succ n ih =>
    intro k hk m Q hQ P hP
    refine hP _ _ _ ?_
    unfold wX10_moves_76_75_p3_b
    rw [nI_clamp (by omega)]
    simp only [nI_ge (show k < hi by omega) (show hi < 2 ^ 31 by omega), vp_in_nI (show k < 26100 by omega) (show 26100 < 2 ^ 31 by decide), forall_eq, nI_1, true_implies, not_true_eq_false, not_false_eq_true, false_implies, true_and, and_true]
    refine ih (k + 1) (by omega) _ Q ?_ P hP
    have : mr (mp m 1 k (m 2 k)) 1 (ovr (mp m 1 k (m 2 k) 2) (k + 1) hi (mp m 1 k (m 2 k) 1)) = mr m 1 (ovr (m 2) k hi (m 1)) := by
      rw [mp_n (show (2 : Nat) ≠ 1 by decide), mp_s]
      unfold mp
      rw [mr_mr]
      congr 1
      funext j
      unfold ovr
      by_cases hj : j = k
      · subst hj; rw [if_neg (by omega), if_pos (by omega), up_s]
      · by_cases hj2 : k + 1 ≤ j ∧ j < hi
        · rw [if_pos hj2, if_pos (by omega)]
        · rw [if_neg hj2, if_neg (by omega), up_n hj]
    rw [this]; exact hQ
theorem kp_2_1 (h : aSI T (m 2)) : Dv (wX10_keep_76_75 m) (mr m 1 (kpF (m 2) (m 1))) := by
  have hM := h.1.1.1.2.2.2.2.1
  have hA := h.1.1.1.2.2.1
  have e1 := h.1.1.1.2.2.2.1
  have e0 := h.1.1.1.1
  have hR := h.1.2.2.2.1
  have hR6 := hR.2.2
  intro Q hQ
  have n1 : ∀ f : gS, mr m 1 f 2 = m 2 := fun f => mr_n (by decide)
  unfold wX10_keep_76_75 wX10_moves_76_75
  simp only [forall_eq]
  rw [e1, show (1100 : Int32) + 10 * nI (zM (m 2)) = nI (1100 + 10 * zM (m 2)) from by rw [show (10 : Int32) = nI 10 from rfl, show (1100 : Int32) = nI 1100 from rfl, pk_mul, nI_add]]
  refine mv_2_1 (by omega) (1100 + 10 * zM (m 2)) 0 (by omega) m _ ?_
  simp only [n1]
  rw [e0, show (6100 : Int32) + nI (zA (m 2)) = nI (6100 + zA (m 2)) from nI_add 6100 _]
  refine mv_2_1 (by omega) (zA (m 2)) 6100 (by omega) _ _ ?_
  simp only [n1, mr_mr, mr_s]
  rw [hR.1, show (10100 : Int32) + nI (zR (m 2)) = nI (10100 + zR (m 2)) from nI_add 10100 _]
  refine mv_2_1 (by omega) (zR (m 2)) 10100 (by omega) _ _ ?_
  simp only [n1, mr_mr, mr_s]
  rw [hR.1, show (18100 : Int32) + nI (zR (m 2)) = nI (18100 + zR (m 2)) from nI_add 18100 _]
  refine mv_2_1 (by omega) (zR (m 2)) 18100 (by omega) _ _ ?_
  simp only [n1, mr_mr, mr_s]
  exact hQ
theorem mv_3_1 {hi : Nat} (hh : hi ≤ 26100) : ∀ (n k : Nat), k + n = hi → ∀ m : gMem, Dv (wX10_moves_77_75_p3 (nI hi) (nI k) m) (mr m 1 (ovr (m 3) k hi (m 1))) := by
  intro n
  induction n with
  | zero =>
    intro k hk m Q hQ P hP
    refine hP _ _ _ ?_
    unfold wX10_moves_77_75_p3_b
    simp only [show k = hi by omega, Int32.le_refl, true_implies, not_true_eq_false, not_false_eq_true, false_implies, true_and, and_true]
    have : ovr (m 3) k hi (m 1) = m 1 := by funext j; unfold ovr; rw [if_neg (by omega)]
    rw [this, mr_self] at hQ; exact hQ
  | succ n ih =>
    intro k hk m Q hQ P hP
    refine hP _ _ _ ?_
    unfold wX10_moves_77_75_p3_b
    rw [nI_clamp (by omega)]
    simp only [nI_ge (show k < hi by omega) (show hi < 2 ^ 31 by omega), vp_in_nI (show k < 26100 by omega) (show 26100 < 2 ^ 31 by decide), forall_eq, nI_1, true_implies, not_true_eq_false, not_false_eq_true, false_implies, true_and, and_true]
    refine ih (k + 1) (by omega) _ Q ?_ P hP
    have : mr (mp m 1 k (m 3 k)) 1 (ovr (mp m 1 k (m 3 k) 3) (k + 1) hi (mp m 1 k (m 3 k) 1)) = mr m 1 (ovr (m 3) k hi (m 1)) := by
      rw [mp_n (show (3 : Nat) ≠ 1 by decide), mp_s]
      unfold mp
      rw [mr_mr]
      congr 1
      funext j
      unfold ovr
      by_cases hj : j = k
      · subst hj; rw [if_neg (by omega), if_pos (by omega), up_s]
      · by_cases hj2 : k + 1 ≤ j ∧ j < hi
        · rw [if_pos hj2, if_pos (by omega)]
        · rw [if_neg hj2, if_neg (by omega), up_n hj]
    rw [this]; exact hQ
theorem kp_3_1 (h : aSI T (m 3)) : Dv (wX10_keep_77_75 m) (mr m 1 (kpF (m 3) (m 1))) := by
  have hM := h.1.1.1.2.2.2.2.1
  have hA := h.1.1.1.2.2.1
  have e1 := h.1.1.1.2.2.2.1
  have e0 := h.1.1.1.1
  have hR := h.1.2.2.2.1
  have hR6 := hR.2.2
  intro Q hQ
  have n1 : ∀ f : gS, mr m 1 f 3 = m 3 := fun f => mr_n (by decide)
  unfold wX10_keep_77_75 wX10_moves_77_75
  simp only [forall_eq]
  rw [e1, show (1100 : Int32) + 10 * nI (zM (m 3)) = nI (1100 + 10 * zM (m 3)) from by rw [show (10 : Int32) = nI 10 from rfl, show (1100 : Int32) = nI 1100 from rfl, pk_mul, nI_add]]
  refine mv_3_1 (by omega) (1100 + 10 * zM (m 3)) 0 (by omega) m _ ?_
  simp only [n1]
  rw [e0, show (6100 : Int32) + nI (zA (m 3)) = nI (6100 + zA (m 3)) from nI_add 6100 _]
  refine mv_3_1 (by omega) (zA (m 3)) 6100 (by omega) _ _ ?_
  simp only [n1, mr_mr, mr_s]
  rw [hR.1, show (10100 : Int32) + nI (zR (m 3)) = nI (10100 + zR (m 3)) from nI_add 10100 _]
  refine mv_3_1 (by omega) (zR (m 3)) 10100 (by omega) _ _ ?_
  simp only [n1, mr_mr, mr_s]
  rw [hR.1, show (18100 : Int32) + nI (zR (m 3)) = nI (18100 + zR (m 3)) from nI_add 18100 _]
  refine mv_3_1 (by omega) (zR (m 3)) 18100 (by omega) _ _ ?_
  simp only [n1, mr_mr, mr_s]
  exact hQ
theorem Rel.ci (R : Rel T c m) : aCI 1 c := by
  obtain ⟨a1, a2, a3, a4, a5, a6, a7, a8, a9⟩ := id R.1.2.1.1.1
  exact ⟨zU (m 1), by omega, by rw [← a6]; exact R.1.1.1.2.1, R.1.1.2.1.2⟩
theorem op_image (R : Rel T c m) : Sim (wX9_image c) (wX10_image m) (Rel T) := by
  obtain ⟨hN, e1, e2, e3, e4, e5, e6⟩ := id R
  obtain ⟨c1, X, F, S, C⟩ := bcm_22_1 (T := T) R.1.1 R.1.2.1 e5.2.1
  have M := kp_1_2 (m := m) R.1.2
  have E := kpF_E (t := m 2) R.1.2
  have h2 : c1 2 3 = m 1 2 := by rw [F 2 (by decide)]; exact R.1.1.1.2.2.2
  refine ⟨m 1 2, mp c1 0 8 1, mp (mr m 2 (kpF (m 1) (m 2))) 0 3 1, fun Q hQ => ?_, fun Q hQ => ?_, ⟨?_, ?_⟩, ?_, ?_, ?_, ?_, ?_, ?_⟩
  · unfold wX9_image
    refine X _ ?_
    simp only [forall_eq]
    rw [mp_n (by decide), h2]; exact hQ
  · unfold wX10_image
    refine M _ ?_
    simp only [forall_eq]
    rw [mp_n (by decide), mr_n (by decide)]; exact hQ
  · rw [mp_n (by decide), mr_n (by decide)]
    exact aSR_cong (fun i h1 h2 => by rw [mp_n (by omega), F i (by omega)]) R.1.1
  · rw [mp_n (by decide), mr_n (by decide)]; exact R.1.2
  · rw [mp_s, mp_s, up_n (by decide), up_n (by decide), F 0 (by decide), mr_n (by decide)]; exact e1
  · rw [mp_s, mp_s, up_n (by decide), up_n (by decide), F 0 (by decide), mr_n (by decide)]; exact e2
  · rw [mp_n (by decide), mp_s, up_n (by decide), F 69 (by decide), mr_n (by decide)]; exact e3
  · intro b hb
    rw [mp_n (by decide), mp_n (by decide), F 64 (by decide), mr_n (by decide)]; exact e4 b hb
  · refine ⟨by rw [mp_s, mp_s, up_s, up_s], aCI_cong (fun i h1 h2 => mp_n (by omega)) C, Or.inr ⟨by rw [mp_s, up_s], ?_, ?_, ?_⟩⟩
    · rw [mp_n (by decide), mr_s]
      exact E.SR R.1.2 (aSR_cong (fun i h1 h2 => mp_n (by omega)) S)
    · rw [mp_n (by decide), mr_s]; exact E.SI R.1.2
    · rw [mp_n (by decide), mr_s, mp_n (by decide), mr_n (by decide)]; exact E.1 0 (by omega)
  · exact aIm_cong (fun i h1 h2 => by rw [mp_n (by omega), F i (by omega)]) (by rw [mp_s, up_n (by decide), F 0 (by decide)]) (by rw [mp_s, up_n (by decide), mr_n (by decide)]) (by rw [mp_n (by decide), mr_n (by decide)]) (by rw [mp_n (by decide), mr_n (by decide)]) e6
/-- what step() keeps before it goes on -/
theorem sim_keep (R : Rel T c m) : ∃ c' m', Dv (fun Q => wX6_become c (fun c1 => ∀ c2, c2 = mp c1 0 10 1 → Q c2)) c' ∧ Dv (wX10_keepUndo m) m' ∧ Rel T c' m' ∧ m' 1 = m 1 := by
  obtain ⟨hN, e1, e2, e3, e4, e5, e6⟩ := id R
  obtain ⟨c1, X, F, S, C⟩ := bcm_43_1 (T := T) R.1.1 R.1.2.1 e6.2.1
  have M := kp_1_3 (m := m) R.1.2
  have E := kpF_E (t := m 3) R.1.2
  refine ⟨mp c1 0 10 1, mp (mr m 3 (kpF (m 1) (m 3))) 0 4 1, fun Q hQ => X _ ?_, fun Q hQ => ?_, ⟨⟨?_, ?_⟩, ?_, ?_, ?_, ?_, ?_, ?_⟩, by rw [mp_n (by decide), mr_n (by decide)]⟩
  · simp only [forall_eq]; exact hQ
  · unfold wX10_keepUndo
    refine M _ ?_
    simp only [forall_eq]; exact hQ
  · rw [mp_n (by decide), mr_n (by decide)]
    exact aSR_cong (fun i h1 h2 => by rw [mp_n (by omega), F i (by omega)]) R.1.1
  · rw [mp_n (by decide), mr_n (by decide)]; exact R.1.2
  · rw [mp_s, mp_s, up_n (by decide), up_n (by decide), F 0 (by decide), mr_n (by decide)]; exact e1
  · rw [mp_s, mp_s, up_n (by decide), up_n (by decide), F 0 (by decide), mr_n (by decide)]; exact e2
  · rw [mp_n (by decide), mp_s, up_n (by decide), F 69 (by decide), mr_n (by decide)]; exact e3
  · intro b hb
    rw [mp_n (by decide), mp_n (by decide), F 64 (by decide), mr_n (by decide)]; exact e4 b hb
  · exact aIm_cong (fun i h1 h2 => by rw [mp_n (by omega), F i (by omega)]) (by rw [mp_s, up_n (by decide), F 0 (by decide)]) (by rw [mp_s, up_n (by decide), mr_n (by decide)]) (by rw [mp_n (by decide), mr_n (by decide)]) (by rw [mp_n (by decide), mr_n (by decide)]) e5
  · refine ⟨by rw [mp_s, mp_s, up_s, up_s], aCI_cong (fun i h1 h2 => mp_n (by omega)) C, Or.inr ⟨by rw [mp_s, up_s], ?_, ?_, ?_⟩⟩
    · rw [mp_n (by decide), mr_s]
      exact E.SR R.1.2 (aSR_cong (fun i h1 h2 => mp_n (by omega)) S)
    · rw [mp_n (by decide), mr_s]; exact E.SI R.1.2
    · rw [mp_n (by decide), mr_s, mp_n (by decide), mr_n (by decide)]; exact E.1 0 (by omega)
theorem op_load (R : Rel T c m) : Sim (wX9_load c) (wX10_load m) (Rel T) := by
  obtain ⟨hN, e1, e2, e3, e4, e5, e6⟩ := id R
  have hc8 : c 0 8 = m 0 3 := e5.1
  rcases e5.2.2 with h0 | ⟨h1, hS, hI, hA⟩
  · refine ⟨-104, c, m, fun Q hQ => ?_, fun Q hQ => ?_, R⟩
    · unfold wX9_load; simp only [forall_eq, hc8, h0, true_implies, not_true_eq_false, false_implies, and_true]; exact hQ
    · unfold wX10_load; simp only [forall_eq, h0, true_implies, not_true_eq_false, false_implies, and_true]; exact hQ
  · obtain ⟨c1, X, F, S, C⟩ := bcm_1_22 (T := T) hS hI.1 R.ci
    have M := kp_2_1 (m := m) hI
    have E := kpF_E (t := m 1) hI
    refine ⟨1, mp c1 0 10 0, mp (mr m 1 (kpF (m 2) (m 1))) 0 4 0, fun Q hQ => ?_, fun Q hQ => ?_, ⟨?_, ?_⟩, ?_, ?_, ?_, ?_, ?_, ?_⟩
    · unfold wX9_load; simp only [forall_eq, hc8, h1, i32_10, true_implies, not_false_eq_true, false_implies, true_and]
      exact X _ hQ
    · unfold wX10_load; simp only [forall_eq, h1, i32_10, true_implies, not_false_eq_true, false_implies, true_and]
      exact M _ hQ
    · rw [mp_n (by decide), mr_s]
      exact E.SR hI (aSR_cong (fun i q1 q2 => mp_n (by omega)) S)
    · rw [mp_n (by decide), mr_s]; exact E.SI hI
    · rw [mp_s, mp_s, up_n (by decide), up_n (by decide), F 0 (by decide), mr_n (by decide)]; exact e1
    · rw [mp_s, mp_s, up_n (by decide), up_n (by decide), F 0 (by decide), mr_n (by decide)]; exact e2
    · rw [mp_n (by decide), mp_s, up_n (by decide), F 69 (by decide), mr_n (by decide)]; exact e3
    · intro b hb
      rw [mp_n (by decide), mp_n (by decide), F 64 (by decide), mr_n (by decide)]; exact e4 b hb
    · exact aIm_cong (fun i q1 q2 => by rw [mp_n (by omega), F i (by omega)]) (by rw [mp_s, up_n (by decide), F 0 (by decide)]) (by rw [mp_s, up_n (by decide), mr_n (by decide)]) (by rw [mp_n (by decide), mr_n (by decide)]) (by rw [mp_n (by decide), mr_s, E.1 0 (by omega)]; exact hA) e5
    · exact ⟨by rw [mp_s, mp_s, up_s, up_s], aCI_cong (fun i q1 q2 => by rw [mp_n (by omega), F i (by omega)]) e6.2.1, Or.inl (by rw [mp_s, up_s])⟩
theorem op_undoStep (R : Rel T c m) : Sim (wX9_undoStep c) (wX10_undoStep m) (Rel T) := by
  obtain ⟨hN, e1, e2, e3, e4, e5, e6⟩ := id R
  have hc8 : c 0 10 = m 0 4 := e6.1
  rcases e6.2.2 with h0 | ⟨h1, hS, hI, hA⟩
  · refine ⟨-104, c, m, fun Q hQ => ?_, fun Q hQ => ?_, R⟩
    · unfold wX9_undoStep; simp only [forall_eq, hc8, h0, true_implies, not_true_eq_false, false_implies, and_true]; exact hQ
    · unfold wX10_undoStep; simp only [forall_eq, h0, true_implies, not_true_eq_false, false_implies, and_true]; exact hQ
  · obtain ⟨c1, X, F, S, C⟩ := bcm_1_43 (T := T) hS hI.1 R.ci
    have M := kp_3_1 (m := m) hI
    have E := kpF_E (t := m 1) hI
    refine ⟨1, mp c1 0 10 0, mp (mr m 1 (kpF (m 3) (m 1))) 0 4 0, fun Q hQ => ?_, fun Q hQ => ?_, ⟨?_, ?_⟩, ?_, ?_, ?_, ?_, ?_, ?_⟩
    · unfold wX9_undoStep; simp only [forall_eq, hc8, h1, i32_10, true_implies, not_false_eq_true, false_implies, true_and]
      exact X _ hQ
    · unfold wX10_undoStep; simp only [forall_eq, h1, i32_10, true_implies, not_false_eq_true, false_implies, true_and]
      exact M _ hQ
    · rw [mp_n (by decide), mr_s]
      exact E.SR hI (aSR_cong (fun i q1 q2 => mp_n (by omega)) S)
    · rw [mp_n (by decide), mr_s]; exact E.SI hI
    · rw [mp_s, mp_s, up_n (by decide), up_n (by decide), F 0 (by decide), mr_n (by decide)]; exact e1
    · rw [mp_s, mp_s, up_n (by decide), up_n (by decide), F 0 (by decide), mr_n (by decide)]; exact e2
    · rw [mp_n (by decide), mp_s, up_n (by decide), F 69 (by decide), mr_n (by decide)]; exact e3
    · intro b hb
      rw [mp_n (by decide), mp_n (by decide), F 64 (by decide), mr_n (by decide)]; exact e4 b hb
    · exact aIm_cong (fun i q1 q2 => by rw [mp_n (by omega), F i (by omega)]) (by rw [mp_s, up_n (by decide), F 0 (by decide)]) (by rw [mp_s, up_n (by decide), mr_n (by decide)]) (by rw [mp_n (by decide), mr_n (by decide)]) (by rw [mp_n (by decide), mr_s, E.1 0 (by omega)]; exact hA) e5
    · exact ⟨by rw [mp_s, mp_s, up_s, up_s], aCI_cong (fun i q1 q2 => by rw [mp_n (by omega), F i (by omega)]) e6.2.1, Or.inl (by rw [mp_s, up_s])⟩
end IM

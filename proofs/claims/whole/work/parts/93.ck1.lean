/-! check: the form of a paper -/
def ckC (pv : Nat → Int32) (L K : Nat) (c : gMem) : Prop := c 70 0 = 1 ∧ c 70 1 = nI L ∧ c 70 2 = nI K ∧ ∀ j, j < L → c 16 j = pv j
def ckM (pv : Nat → Int32) (L : Nat) (m : gMem) : Prop := m 1 15 = nI L ∧ ∀ j, j < L → m 1 (10100 + j) = pv j
def ckS (pv : Nat → Int32) : Nat → Nat
  | 0 => 25
  | i + 1 => ckS pv i + (6 + (pv (ckS pv i + 5)).toNatClampNeg)
/-- a paper that is well formed -/
def ckG (pv : Nat → Int32) (L K : Nat) : Prop := 24 < L ∧ pv 24 = nI K ∧ K ≤ 500 ∧ (∀ i, i < K → ckS pv i + 5 < L ∧ ∃ n : Nat, n ≤ 300 ∧ pv (ckS pv i + 5) = nI n ∧ ckS pv (i + 1) = ckS pv i + 6 + n) ∧ ckS pv K < L ∧ ∃ n : Nat, n ≤ 500 ∧ pv (ckS pv K) = nI n ∧ ckS pv K + 2 + n = L
section CK
variable {pv : Nat → Int32} {L K : Nat} {c m : gMem}
theorem in_both {x : Int32} {N : Nat} {b64 : Int64} {b32 : Int32} (hN : N < 2 ^ 30) (hN1 : 1 ≤ N) (h64 : b64.toInt = (N : Int) - 1) (h32 : b32 = nI (N - 1)) : ((∀ (m : gMem) (Q : Int32 → gMem → Prop), wX10_in x.toInt64 0 b64 m Q = Q 0 m) ∧ (∀ (c : gMem) (Q : Int32 → gMem → Prop), wX1_isIn x 0 b32 c Q = Q 0 c) ∧ ∀ j, j < N → x ≠ nI j) ∨ ∃ j, j < N ∧ x = nI j ∧ (∀ (m : gMem) (Q : Int32 → gMem → Prop), wX10_in x.toInt64 0 b64 m Q = Q 1 m) ∧ ∀ (c : gMem) (Q : Int32 → gMem → Prop), wX1_isIn x 0 b32 c Q = Q 1 c := by
  have z0 : (0 : Int32).toInt = 0 := by decide
  rcases pk_ix x (n := N) (by omega) with q | q | ⟨j, hj, e⟩
  · left
    have q' := Int32.lt_iff_toInt_lt.mp q
    refine ⟨fun m Q => e_inI0 (Or.inl (by rw [i64_0]; omega)), fun c Q => ?_, fun j hj e => ?_⟩
    · unfold wX1_isIn
      simp only [q, true_implies, not_true_eq_false, false_implies, and_true]
    · rw [e, nI_toInt (by omega)] at q'; omega
  · left
    have q' := Int32.le_iff_toInt_le.mp q
    rw [nI_toInt (by omega)] at q'
    have n0 : ¬ x < 0 := fun z => by have := Int32.lt_iff_toInt_lt.mp z; omega
    have n1 : b32 < x := by
      rw [h32]; refine Int32.lt_iff_toInt_lt.mpr ?_
      rw [nI_toInt (by omega)]; omega
    refine ⟨fun m Q => e_inI0 (Or.inr (by omega)), fun c Q => ?_, fun j hj e => ?_⟩
    · unfold wX1_isIn
      simp only [n0, n1, true_implies, not_true_eq_false, not_false_eq_true, false_implies, and_true, true_and]
    · rw [e, nI_toInt (by omega)] at q'; omega
  · right
    subst e
    have n0 : ¬ nI j < 0 := fun z => by have := Int32.lt_iff_toInt_lt.mp z; rw [nI_toInt (by omega)] at this; omega
    have n1 : ¬ b32 < nI j := fun z => by
      rw [h32] at z
      have := Int32.lt_iff_toInt_lt.mp z
      rw [nI_toInt (by omega), nI_toInt (by omega)] at this; omega
    refine ⟨j, hj, rfl, fun m Q => e_inI1 (by rw [i64_0, nI_toInt (by omega)]; omega) (by rw [nI_toInt (by omega)]; omega), fun c Q => ?_⟩
    unfold wX1_isIn
    simp only [n0, n1, true_implies, not_false_eq_true, false_implies, true_and]
theorem e_paper {j : Nat} (hj : j < L) (hL : L ≤ 6527) (h : ckM pv L m) {Q : Int32 → gMem → Prop} : wX10_paper (nI j) m Q = Q (pv j) m := by
  unfold wX10_paper
  rw [show (10100 : Int32) + nI j = nI (10100 + j) from nI_add 10100 _, nI_clamp (by omega)]
  simp only [vp_in_nI (show 10100 + j < 26100 by omega) (show 26100 < 2 ^ 31 by decide), forall_eq, true_and]
  rw [h.2 j hj]
theorem ck_form (hL : L ≤ 6527) (h24 : 24 < L) (hK : K ≤ 500) (pK : pv 24 = nI K) : ∀ (d i : Nat) (c m : gMem), i + d = K → ckC pv L K c → ckM pv L m → (∀ j, j < i → ckS pv j + 5 < L ∧ ∃ n : Nat, n ≤ 300 ∧ pv (ckS pv j + 5) = nI n ∧ ckS pv (j + 1) = ckS pv j + 6 + n) → ckS pv i ≤ 7000 → (∀ j, j < i → m 8 j = nI (ckS pv j)) → ∃ r m', Di (wX1_firstWrongInForm_p47 (nI (ckS pv i)) (nI i) c) r c ∧ Di (wX10_formWrong_p33 (nI L) (nI (ckS pv i)) (nI i) m) r m' ∧ (∀ a, a ≠ 0 → a ≠ 8 → m' a = m a) ∧ (∀ a, a ≠ 14 → m' 0 a = m 0 a) ∧ (r = -1 → ckG pv L K ∧ (∀ j, j < K → m' 8 j = nI (ckS pv j)) ∧ m' 0 14 = nI (ckS pv K)) ∧ (r = -1 ∨ ∃ q : Nat, q ≤ 7000 ∧ r = nI q) := by
  intro d
  induction d with
  | zero =>
    intro i c m hi hc hm hg hat hs
    have : i = K := by omega
    subst this
    by_cases hlt : ckS pv i < L
    · have l1 : nI (ckS pv i) < nI L := nI_lt hlt (by omega)
      have hX : ∀ (Q : Int32 → gMem → Prop), wX1_isIn (pv (ckS pv i)) 0 500 c (fun r9 c8 => ((r9 = 0 → Q (nI (ckS pv i)) c8) ∧ (¬ r9 = 0 → ∀ v11, v11 = c8 70 1 → c8 70 0 = 1 ∧ vp_in (nI (ckS pv i)) 6527 ∧ ∀ v13, v13 = c8 16 (nI (ckS pv i)).toNatClampNeg → ((v11 = (nI (ckS pv i) + v13) + 2 → Q (-1) c8) ∧ (¬ v11 = (nI (ckS pv i) + v13) + 2 → Q (nI (ckS pv i)) c8))))) → wX1_firstWrongInForm_p47 (nI (ckS pv i)) (nI i) c Q := by
        intro Q hQ P hP
        refine hP _ _ _ ?_
        unfold wX1_firstWrongInForm_p47_b
        simp only [forall_eq, hc.1, hc.2.1, hc.2.2.1, Int32.le_refl, l1, true_implies, not_true_eq_false, false_implies, and_true, true_and]
        rw [nI_clamp (by omega), hc.2.2.2 _ hlt]
        refine ⟨vp_in_nI (by omega) (by decide), ?_⟩
        simp only [forall_eq] at hQ
        rw [nI_clamp (by omega)] at hQ
        exact hQ
      have hm1 : ckM pv L (mp m 0 14 (nI (ckS pv i))) := ⟨by rw [mp_n (by decide)]; exact hm.1, fun j hj => by rw [mp_n (by decide)]; exact hm.2 j hj⟩
      have hM : ∀ (Q : Int32 → gMem → Prop), wX10_in (pv (ckS pv i)).toInt64 0 500 (mp m 0 14 (nI (ckS pv i))) (fun r9 c8 => ((r9 = 0 → Q (nI (ckS pv i)) c8) ∧ (¬ r9 = 0 → wX10_paper (nI (ckS pv i)) c8 (fun r12 c11 => (((nI (ckS pv i) + 2) + r12 = nI L → Q (-1) c11) ∧ (¬ (nI (ckS pv i) + 2) + r12 = nI L → Q (nI (ckS pv i)) c11)))))) → wX10_formWrong_p33 (nI L) (nI (ckS pv i)) (nI i) m Q := by
        intro Q hQ P hP
        refine hP _ _ _ _ ?_
        unfold wX10_formWrong_p33_b
        rw [show (24 : Int32) = nI 24 from rfl, e_paper h24 hL hm, pK]
        simp only [Int32.le_refl, l1, true_implies, not_true_eq_false, false_implies, and_true, forall_eq]
        rw [e_paper hlt hL hm1]
        exact hQ
      have fr : (∀ a, a ≠ 0 → a ≠ 8 → mp m 0 14 (nI (ckS pv i)) a = m a) ∧ ∀ a, a ≠ 14 → mp m 0 14 (nI (ckS pv i)) 0 a = m 0 a := ⟨fun a h0 _ => mp_n h0, fun a ha => by rw [mp_s, up_n ha]⟩
      rcases in_both (x := pv (ckS pv i)) (N := 501) (b64 := 500) (b32 := 500) (by decide) (by decide) (by decide) rfl with ⟨q1, q2, q3⟩ | ⟨n, hn, en, q1, q2⟩
      · refine ⟨nI (ckS pv i), mp m 0 14 (nI (ckS pv i)), fun Q hQ => hX Q ?_, fun Q hQ => hM Q ?_, fr.1, fr.2, fun z => absurd z (nI_m1 (by omega)), Or.inr ⟨_, hat, rfl⟩⟩
        · rw [q2]
          simp only [true_implies, not_true_eq_false, false_implies, and_true]; exact hQ
        · rw [q1]
          simp only [true_implies, not_true_eq_false, false_implies, and_true]; exact hQ
      · have eX : (nI L = (nI (ckS pv i) + nI n) + 2) = (ckS pv i + 2 + n = L) := propext (by
          rw [nI_add, show nI (ckS pv i + n) + 2 = nI (ckS pv i + n + 2) from nI_add _ 2, nI_eq (by omega) (by omega)]; omega)
        have eM : ((nI (ckS pv i) + 2) + nI n = nI L) = (ckS pv i + 2 + n = L) := propext (by
          rw [show nI (ckS pv i) + 2 = nI (ckS pv i + 2) from nI_add _ 2, nI_add, nI_eq (by omega) (by omega)])
        by_cases e : ckS pv i + 2 + n = L
        · refine ⟨-1, mp m 0 14 (nI (ckS pv i)), fun Q hQ => hX Q ?_, fun Q hQ => hM Q ?_, fr.1, fr.2, fun _ => ⟨⟨h24, pK, hK, hg, hlt, n, by omega, en, e⟩, fun j hj => by rw [mp_n (by decide)]; exact hs j hj, by rw [mp_s, up_s]⟩, Or.inl rfl⟩
          · rw [q2]
            simp only [i32_10, true_implies, not_false_eq_true, false_implies, true_and, forall_eq, hc.1, hc.2.1]
            rw [nI_clamp (by omega), hc.2.2.2 _ hlt, en, eX]
            refine ⟨vp_in_nI (by omega) (by decide), fun _ => hQ, fun z => absurd e z⟩
          · rw [q1]
            simp only [i32_10, true_implies, not_false_eq_true, false_implies, true_and]
            rw [e_paper hlt hL hm1, en, eM]
            exact ⟨fun _ => hQ, fun z => absurd e z⟩
        · refine ⟨nI (ckS pv i), mp m 0 14 (nI (ckS pv i)), fun Q hQ => hX Q ?_, fun Q hQ => hM Q ?_, fr.1, fr.2, fun z => absurd z (nI_m1 (by omega)), Or.inr ⟨_, hat, rfl⟩⟩
          · rw [q2]
            simp only [i32_10, true_implies, not_false_eq_true, false_implies, true_and, forall_eq, hc.1, hc.2.1]
            rw [nI_clamp (by omega), hc.2.2.2 _ hlt, en, eX]
            refine ⟨vp_in_nI (by omega) (by decide), fun z => absurd z e, fun _ => hQ⟩
          · rw [q1]
            simp only [i32_10, true_implies, not_false_eq_true, false_implies, true_and]
            rw [e_paper hlt hL hm1, en, eM]
            exact ⟨fun z => absurd z e, fun _ => hQ⟩
    · have l1 : ¬ nI (ckS pv i) < nI L := fun z => hlt ((nI_ltI (by omega) (by omega)).mp z)
      refine ⟨nI L, m, fun Q hQ P hP => hP _ _ _ ?_, fun Q hQ P hP => hP _ _ _ _ ?_, fun _ _ _ => rfl, fun _ _ => rfl, fun z => absurd z (nI_m1 (by omega)), Or.inr ⟨_, by omega, rfl⟩⟩
      · unfold wX1_firstWrongInForm_p47_b
        simp only [forall_eq, hc.2.1, hc.2.2.1, Int32.le_refl, l1, true_implies, not_true_eq_false, not_false_eq_true, false_implies, and_true, true_and]
        exact hQ
      · unfold wX10_formWrong_p33_b
        rw [show (24 : Int32) = nI 24 from rfl, e_paper h24 hL hm, pK]
        simp only [Int32.le_refl, l1, true_implies, not_true_eq_false, not_false_eq_true, false_implies, and_true, true_and]
        exact hQ
  | succ d ih =>
    intro i c m hi hc hm hg hat hs
    have hik : ¬ nI K ≤ nI i := nI_ge (by omega) (by omega)
    have e5 : nI (ckS pv i) + 5 = nI (ckS pv i + 5) := nI_add _ 5
    by_cases hlt : ckS pv i + 5 < L
    · have l1 : nI (ckS pv i + 5) < nI L := nI_lt hlt (by omega)
      have hX : ∀ (P : Int32 → Int32 → gMem → Prop) (Q : Int32 → gMem → Prop), wX1_isIn (pv (ckS pv i + 5)) 0 300 c (fun r23 c22 => ((r23 = 0 → Q (nI (ckS pv i + 5)) c22) ∧ (¬ r23 = 0 → c22 70 0 = 1 ∧ vp_in (nI (ckS pv i + 5)) 6527 ∧ ∀ v26, v26 = c22 16 (nI (ckS pv i + 5)).toNatClampNeg → P (nI (ckS pv i) + (6 + v26)) (nI i + 1) c22))) → wX1_firstWrongInForm_p47_b P (nI (ckS pv i)) (nI i) c Q := by
        intro P Q hQ
        unfold wX1_firstWrongInForm_p47_b
        rw [e5]
        simp only [forall_eq, hc.1, hc.2.1, hc.2.2.1, hik, l1, true_implies, not_true_eq_false, not_false_eq_true, false_implies, and_true, true_and]
        rw [nI_clamp (by omega), hc.2.2.2 _ hlt]
        refine ⟨vp_in_nI (by omega) (by decide), ?_⟩
        simp only [forall_eq] at hQ
        rw [nI_clamp (by omega)] at hQ
        exact hQ
      have hM : ∀ (P : Int32 → Int32 → Int32 → gMem → Prop) (Q : Int32 → gMem → Prop), wX10_in (pv (ckS pv i + 5)).toInt64 0 300 m (fun r18 c17 => ((r18 = 0 → Q (nI (ckS pv i + 5)) c17) ∧ (¬ r18 = 0 → vp_in (nI i) 501 ∧ ∀ c20, c20 = mp c17 8 (nI i).toNatClampNeg (nI (ckS pv i)) → wX10_paper (nI (ckS pv i + 5)) c20 (fun r23 c22 => P (nI L) (nI (ckS pv i) + (6 + r23)) (nI i + 1) c22)))) → wX10_formWrong_p33_b P (nI L) (nI (ckS pv i)) (nI i) m Q := by
        intro P Q hQ
        unfold wX10_formWrong_p33_b
        rw [e5, show (24 : Int32) = nI 24 from rfl, e_paper h24 hL hm, pK]
        simp only [hik, l1, true_implies, not_true_eq_false, not_false_eq_true, false_implies, and_true, true_and]
        rw [e_paper hlt hL hm]
        exact hQ
      rcases in_both (x := pv (ckS pv i + 5)) (N := 301) (b64 := 300) (b32 := 300) (by decide) (by decide) (by decide) rfl with ⟨q1, q2, q3⟩ | ⟨n, hn, en, q1, q2⟩
      · refine ⟨nI (ckS pv i + 5), m, fun Q hQ P hP => hP _ _ _ (hX P Q ?_), fun Q hQ P hP => hP _ _ _ _ (hM P Q ?_), fun _ _ _ => rfl, fun _ _ => rfl, fun z => absurd z (nI_m1 (by omega)), Or.inr ⟨_, by omega, rfl⟩⟩
        · rw [q2]
          simp only [true_implies, not_true_eq_false, false_implies, and_true]; exact hQ
        · rw [q1]
          simp only [true_implies, not_true_eq_false, false_implies, and_true]; exact hQ
      · have est : ckS pv (i + 1) = ckS pv i + 6 + n := by
          show ckS pv i + (6 + (pv (ckS pv i + 5)).toNatClampNeg) = _
          rw [en, nI_clamp (by omega)]; omega
        have hm1 : ckM pv L (mp m 8 i (nI (ckS pv i))) := ⟨by rw [mp_n (by decide)]; exact hm.1, fun j hj => by rw [mp_n (by decide)]; exact hm.2 j hj⟩
        obtain ⟨r, m', X1, M1, f1, f2, f3, f4⟩ := ih (i + 1) c (mp m 8 i (nI (ckS pv i))) (by omega) hc hm1 (fun j hj => by
          by_cases e : j = i
          · subst e; exact ⟨hlt, n, by omega, en, est⟩
          · exact hg j (by omega)) (by omega) (fun j hj => by
          rw [mp_s]
          by_cases e : j = i
          · subst e; rw [up_s]
          · rw [up_n e]; exact hs j (by omega))
        have en2 : nI (ckS pv i) + (6 + nI n) = nI (ckS pv (i + 1)) := by
          rw [show (6 : Int32) + nI n = nI (6 + n) from nI_add 6 n, nI_add, est]; congr 1; omega
        refine ⟨r, m', fun Q hQ P hP => hP _ _ _ (hX P Q ?_), fun Q hQ P hP => hP _ _ _ _ (hM P Q ?_), fun a h0 h8 => by rw [f1 a h0 h8, mp_n h8], fun a ha => by rw [f2 a ha, mp_n (by decide)], f3, f4⟩
        · rw [q2]
          simp only [i32_10, true_implies, not_false_eq_true, false_implies, true_and, forall_eq, hc.1]
          rw [nI_clamp (by omega), hc.2.2.2 _ hlt, en, en2, nI_1]
          exact ⟨vp_in_nI (by omega) (by decide), X1 Q hQ P hP⟩
        · rw [q1]
          simp only [i32_10, true_implies, not_false_eq_true, false_implies, true_and, forall_eq]
          rw [nI_clamp (by omega), e_paper hlt hL hm1, en, en2, nI_1]
          exact ⟨vp_in_nI (by omega) (by decide), M1 Q hQ P hP⟩
    · have l1 : ¬ nI (ckS pv i + 5) < nI L := fun z => hlt ((nI_ltI (by omega) (by omega)).mp z)
      refine ⟨nI L, m, fun Q hQ P hP => hP _ _ _ ?_, fun Q hQ P hP => hP _ _ _ _ ?_, fun _ _ _ => rfl, fun _ _ => rfl, fun z => absurd z (nI_m1 (by omega)), Or.inr ⟨_, by omega, rfl⟩⟩
      · unfold wX1_firstWrongInForm_p47_b
        rw [e5]
        simp only [forall_eq, hc.2.1, hc.2.2.1, hik, l1, true_implies, not_false_eq_true, false_implies, true_and]
        exact hQ
      · unfold wX10_formWrong_p33_b
        rw [e5, show (24 : Int32) = nI 24 from rfl, e_paper h24 hL hm, pK]
        simp only [hik, l1, true_implies, not_false_eq_true, false_implies, true_and]
        exact hQ
end CK

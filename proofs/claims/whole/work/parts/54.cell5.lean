/-! key, find -/
section C5
variable {T : Nat} {c m : gMem}
theorem tab_facts (R : Rel T c m) {h : Nat} (hh : h < zM (m 1)) (hl : aLv (m 1) h) (hk : aKd (m 1) h = 5) : aSz (m 1) h = 2 + 2 * aMn (m 1) h ∧ aLk (m 1) h = aMn (m 1) h ∧ aLo (m 1) h = 2 := by
  refine ⟨?_, ?_, ?_⟩
  · unfold aSz szN; rw [hk]; simp
  · unfold aLk lkN; rw [hk]; simp
  · unfold aLo loN; rw [hk]; simp
theorem e_keyAt {h n p i : Nat} (hh : h < 500) (h2 : m 1 (1102 + 10 * h) = nI p) (h3 : m 1 (1103 + 10 * h) = nI n) {Q : Int32 → gMem → Prop} : wX10_keyAt (nI h) (nI i) m Q = Q (nI (6100 + p + (2 + n + i))) m := by
  unfold wX10_keyAt
  rw [e_of2 hh, e_of3 hh, h2, h3, show (6100 : Int32) = nI 6100 from rfl, show (2 : Int32) = nI 2 from rfl, nI_add, nI_add, nI_add, nI_add, show 6100 + p + 2 + n + i = 6100 + p + (2 + n + i) by omega]
theorem nI_ne5 {k : Nat} (hk : k ≤ 5) (h : k ≠ 5) : ¬ nI k = 5 := fun q => h (nI_inj (b := 5) (by omega) (by omega) q)
theorem op_key {l1 l2 l3 : Int32} (R : Rel T c m) : Sim (wX9_key l1 l2 l3 c) (wX10_key l1 l2 l3 m) (Rel T) := by
  have hM := R.made.2.1
  rcases pk_ix l1 (n := zM (m 1)) (by omega) with q | q | ⟨h, hh, rfl⟩
  · exact ⟨-101, c, m, fun Q hQ => by unfold wX9_key; rw [x_made0 R.made.2.2 (Or.inl q)]; simpa using hQ, fun Q hQ => by unfold wX10_key; rw [e_made0 R.made.1 R.made.2.1 (Or.inl q)]; simpa using hQ, R⟩
  · exact ⟨-101, c, m, fun Q hQ => by unfold wX9_key; rw [x_made0 R.made.2.2 (Or.inr q)]; simpa using hQ, fun Q hQ => by unfold wX10_key; rw [e_made0 R.made.1 R.made.2.1 (Or.inr q)]; simpa using hQ, R⟩
  have R1 := R.set12 1
  have hm1 : ∀ v : Int32, mp m 0 12 v 1 = m 1 := fun v => mp_n (by decide)
  by_cases hl : aLv (m 1) h
  · have fF := R.cF hh hl
    obtain ⟨f1, f2, f3, f4, f5, f6, f7, f8, f9, f10, f11, f12, f13, f14, f15, f16⟩ := id fF
    by_cases hk : aKd (m 1) h = 5
    · obtain ⟨t1, t2, t3⟩ := tab_facts R hh hl hk
      have hcn : c 3 (aPl (m 1) h + 1) = nI (aMn (m 1) h) := f13 (Or.inr (Or.inr hk))
      have bey : (l2 < 0 ∨ nI (aMn (m 1) h) ≤ l2) → Sim (wX9_key (nI h) l2 l3 c) (wX10_key (nI h) l2 l3 m) (Rel T) := by
        intro q
        refine by_wrong R1 (-12) 2 (fun Q hQ => ?_) (fun Q hQ => ?_)
        · unfold wX9_key wX0_setKey
          rw [pub_made1 R hh, cellR R hh hl (w := 5) (x := 5) rfl (by decide), isaN5.mpr hk, x_countOf f1 f11 (by omega), hcn]
          by_cases h0 : l2 < 0
          · simpa [h0, x_answer, fd12] using hQ
          · simp only [if_true, h0, true_implies, not_true_eq_false, false_implies, and_true, not_false_eq_true, true_and, show ¬ l2 < nI (aMn (m 1) h) from Int32.not_lt.mpr (q.resolve_left h0), x_answer, fd12]
            exact hQ
        · unfold wX10_key wX10_key_p60 wX10_key_p79
          rw [pub_madeM R hh, e_live R hh hl, e_of1 f1, f2, hk, e_of3 f1, f5, e_inN0 q (by omega)]
          have := e_byF (m := mp m 0 12 1) (Q := Q) (v := 2) (by decide)
          simpa [show nI 5 = (5 : Int32) from rfl, this] using hQ
      rcases pk_ix l2 (n := aMn (m 1) h) (by omega) with q | q | ⟨j, hj, rfl⟩
      · exact bey (Or.inl q)
      · exact bey (Or.inr q)
      · have hS := wr_S0 (v := l3) (j := 2 + aMn (m 1) h + j) R.1.2.1 hh hl (by omega) (by omega) (fun _ => by omega) ⟨fun i hi => by omega, fun q => by omega⟩
        have hL := wr_L (v := l3) (j := 2 + aMn (m 1) h + j) R.1.2.1 hh hl (by omega) (fun i hi => by omega) R.1.2.2
        have hR := wr_SR (v := l3) R.1.1 R.1.2.1 (p := aPl (m 1) h + (2 + aMn (m 1) h + j)) (by omega)
        have R2 := R1.now (Nat.le_refl _) hR ⟨hS, hL⟩ (fun q hq => mp_n (by omega)) (by rw [hm1]; exact up_n (by omega))
        have e1 : nI (aPl (m 1) h) + 2 + nI (aMn (m 1) h) + nI j = nI (aPl (m 1) h + (2 + aMn (m 1) h + j)) := by
          rw [show (2 : Int32) = nI 2 from rfl, nI_add, nI_add, nI_add]; congr 1; omega
        refine ⟨1, _, _, fun Q hQ => ?_, fun Q hQ => ?_, R2.set5 0⟩
        · unfold wX9_key wX0_setKey
          rw [pub_made1 R hh, cellR R hh hl (w := 5) (x := 5) rfl (by decide), isaN5.mpr hk, x_countOf f1 f11 (by omega), hcn]
          simp only [if_true, true_implies, not_true_eq_false, false_implies, and_true, nI_pos (show j < 2 ^ 31 by omega), not_false_eq_true, true_and, nI_lt hj (show aMn (m 1) h < 2 ^ 31 by omega), vp_in_nI f1 (show 500 < 2 ^ 31 by decide), nI_clamp (show h < 2 ^ 31 by omega), forall_eq, f11, e1, vp_in_nI (show aPl (m 1) h + (2 + aMn (m 1) h + j) < 4000 by omega) (show 4000 < 2 ^ 31 by decide), nI_clamp (show aPl (m 1) h + (2 + aMn (m 1) h + j) < 2 ^ 31 by omega), x_answer, show fdA 1 = 0 by decide]
          exact hQ
        · unfold wX10_key wX10_key_p60 wX10_key_p79
          rw [pub_madeM R hh, e_live R hh hl, e_of1 f1, f2, hk, e_of3 f1, f5, e_inN1 hj (by omega)]
          simp only [e_keyAt f1 f4 f5, show nI 5 = (5 : Int32) from rfl, i32_10, true_implies, not_true_eq_false, false_implies, and_true, not_false_eq_true, true_and, vp_in_nI (show 6100 + aPl (m 1) h + (2 + aMn (m 1) h + j) < 26100 by omega) (show 26100 < 2 ^ 31 by decide), nI_clamp (show 6100 + aPl (m 1) h + (2 + aMn (m 1) h + j) < 2 ^ 31 by omega), forall_eq]
          rw [mp_comm (i := 1) (a := 0) (by decide), e_by0, mp_n (by decide), mp_s, up_s]
          have e5 : mp (mp m 0 12 1) 1 (6100 + aPl (m 1) h + (2 + aMn (m 1) h + j)) l3 = mr (mp m 0 12 1) 1 (upd (m 1) (6100 + (aPl (m 1) h + (2 + aMn (m 1) h + j))) l3) := by
            unfold mp; rw [mr_n (by decide), Nat.add_assoc 6100]
          rw [e5]
          exact hQ
    · have hi : isaN 5 (aKd (m 1) h) = false := by rw [← Bool.not_eq_true]; exact fun q => hk (isaN5.mp q)
      refine by_wrong R1 (-13) 3 (fun Q hQ => ?_) (fun Q hQ => ?_)
      · unfold wX9_key wX0_setKey
        rw [pub_made1 R hh, cellR R hh hl (w := 5) (x := 5) rfl (by decide), hi]
        simpa [x_answer, fd13] using hQ
      · unfold wX10_key wX10_key_p60 wX10_key_p79
        rw [pub_madeM R hh, e_live R hh hl, e_of1 f1, f2]
        have := e_byF (m := mp m 0 12 1) (Q := Q) (v := 3) (by decide)
        simpa [nI_ne5 f3 hk, this] using hQ
  · refine by_wrong R1 (-11) 1 (fun Q hQ => ?_) (fun Q hQ => ?_)
    · unfold wX9_key wX0_setKey
      rw [pub_made1 R hh, cellG R (Or.inr ⟨h, hh, rfl, hl⟩)]
      simpa [x_answer, fd11] using hQ
    · unfold wX10_key wX10_key_p60 wX10_key_p79
      rw [pub_madeM R hh, e_gone R (Or.inr ⟨h, hh, rfl, hl⟩)]
      have := e_byF (m := mp m 0 12 1) (Q := Q) (v := 1) (by decide)
      simpa [this] using hQ
/-- the first place from i on, of d places, where w is v -/
def fkN (w : Nat → Int32) (v : Int32) : Nat → Nat → Int32
  | _, 0 => -1
  | i, d + 1 => if w i = v then nI i else fkN w v (i + 1) d
theorem x_find_loop {v : Int32} {n a : Nat} (ha : a + n ≤ 4000) : ∀ (d i : Nat), i + d = n → Di (wX0_placeOfKey_p42 v (nI n) (nI a) (nI i) c) (fkN (fun j => c 3 (a + j)) v i d) c := by
  intro d
  induction d with
  | zero =>
    intro i hi Q hQ P hP
    have : i = n := by omega
    subst this
    refine hP _ _ _ _ _ ?_
    unfold wX0_placeOfKey_p42_b
    simp only [Int32.le_refl, true_implies, not_true_eq_false, false_implies, and_true]
    exact hQ
  | succ d ih =>
    intro i hi Q hQ P hP
    refine hP _ _ _ _ _ ?_
    unfold wX0_placeOfKey_p42_b
    rw [nI_add, nI_clamp (by omega)]
    simp only [nI_ge (show i < n by omega) (show n < 2 ^ 31 by omega), true_implies, not_false_eq_true, false_implies, true_and, vp_in_nI (show a + i < 4000 by omega) (show 4000 < 2 ^ 31 by decide), forall_eq, nI_1]
    by_cases hv : c 3 (a + i) = v
    · simp only [hv, true_implies, not_true_eq_false, false_implies, and_true]
      have : fkN (fun j => c 3 (a + j)) v i (d + 1) = nI i := if_pos hv
      rw [this] at hQ; exact hQ
    · simp only [hv, true_implies, not_false_eq_true, false_implies, true_and]
      have : fkN (fun j => c 3 (a + j)) v i (d + 1) = fkN (fun j => c 3 (a + j)) v (i + 1) d := if_neg hv
      rw [this] at hQ
      exact ih (i + 1) (by omega) Q hQ P hP
theorem fkN_cong {w w' : Nat → Int32} {v : Int32} : ∀ (d i : Nat), (∀ j, i ≤ j → j < i + d → w j = w' j) → fkN w v i d = fkN w' v i d := by
  intro d
  induction d with
  | zero => intro i _; rfl
  | succ d ih =>
    intro i h
    show (if w i = v then nI i else fkN w v (i + 1) d) = (if w' i = v then nI i else fkN w' v (i + 1) d)
    rw [h i (Nat.le_refl _) (by omega), ih (i + 1) (fun j a b => h j (by omega) (by omega))]
theorem fkN_fd {w : Nat → Int32} {v : Int32} : ∀ (d i : Nat), i + d < 2 ^ 31 → fdA (fkN w v i d) = 0 := by
  intro d
  induction d with
  | zero => intro i _; exact fdA_m1
  | succ d ih =>
    intro i h
    show fdA (if w i = v then nI i else fkN w v (i + 1) d) = 0
    split
    · exact fdA_nI (by omega)
    · exact ih (i + 1) (by omega)
theorem e_find_loop {h n p : Nat} {v : Int32} {s : gS} (hh : h < 500) (h2 : s (1102 + 10 * h) = nI p) (h3 : s (1103 + 10 * h) = nI n) (hn : n ≤ 300) (hp : p ≤ 4000) : ∀ (i : Nat), i ≤ n → ∀ m : gMem, m 1 = s → m 0 12 = fkN (fun j => s (6100 + p + (2 + n + j))) v i (n - i) → ∀ Q : Int32 → gMem → Prop, Q (fkN (fun j => s (6100 + p + (2 + n + j))) v 0 n) (mp (mp m 0 12 (fkN (fun j => s (6100 + p + (2 + n + j))) v 0 n)) 0 5 0) → wX10_find_p62 (nI h) v 0 (nI i - 1) m Q := by
  intro i
  induction i with
  | zero =>
    intro hi m hm hg Q hQ P hP
    refine hP _ _ _ _ _ ?_
    unfold wX10_find_p62_b
    rw [show nI 0 - 1 = (-1 : Int32) by decide]
    simp only [ne_m1_lt, true_implies, not_true_eq_false, false_implies, and_true, e_by0]
    rw [Nat.sub_zero] at hg
    rw [hg]
    rw [mp_id hg] at hQ
    exact hQ
  | succ i ih =>
    intro hi m hm hg Q hQ P hP
    refine hP _ _ _ _ _ ?_
    unfold wX10_find_p62_b wX10_find_p93
    rw [nI_pred, e_keyAt hh (by rw [hm]; exact h2) (by rw [hm]; exact h3), nI_clamp (by omega), hm]
    simp only [nI_pos (show i < 2 ^ 31 by omega), true_implies, not_false_eq_true, false_implies, true_and, vp_in_nI (show 6100 + p + (2 + n + i) < 26100 by omega) (show 26100 < 2 ^ 31 by decide), forall_eq]
    have hrec : fkN (fun j => s (6100 + p + (2 + n + j))) v i (n - i) = if s (6100 + p + (2 + n + i)) = v then nI i else fkN (fun j => s (6100 + p + (2 + n + j))) v (i + 1) (n - (i + 1)) := by
      rw [show n - i = (n - (i + 1)) + 1 by omega]; rfl
    have step : ∀ x : Int32, x = fkN (fun j => s (6100 + p + (2 + n + j))) v i (n - i) → P (nI h) v 0 (nI i + -1) (mp m 0 12 x) := by
      intro x hx
      have e1 : nI i + -1 = nI i - 1 := by
        rw [Int32.sub_eq_add_neg]
      rw [e1]
      refine ih (by omega) (mp m 0 12 x) (by rw [mp_n (by decide)]; exact hm) (by rw [mp_s, up_s]; exact hx) Q ?_ P hP
      have e2 : ∀ y : Int32, mp (mp m 0 12 x) 0 12 y = mp m 0 12 y := by
        intro y
        unfold mp; rw [mr_s, mr_mr]; congr 1
        funext q
        by_cases hq : q = 12
        · subst hq; rw [up_s, up_s]
        · rw [up_n hq, up_n hq, up_n hq]
      rw [e2]; exact hQ
    refine ⟨fun hv => step _ ?_, fun hv => step _ ?_⟩
    · rw [hrec, if_pos hv]
    · rw [hrec, if_neg hv]; exact hg
theorem op_find {l1 l2 : Int32} (R : Rel T c m) : Sim (wX9_find l1 l2 c) (wX10_find l1 l2 m) (Rel T) := by
  have hM := R.made.2.1
  rcases pk_ix l1 (n := zM (m 1)) (by omega) with q | q | ⟨h, hh, rfl⟩
  · exact ⟨-101, c, m, fun Q hQ => by unfold wX9_find; rw [x_made0 R.made.2.2 (Or.inl q)]; simpa using hQ, fun Q hQ => by unfold wX10_find; rw [e_made0 R.made.1 R.made.2.1 (Or.inl q)]; simpa using hQ, R⟩
  · exact ⟨-101, c, m, fun Q hQ => by unfold wX9_find; rw [x_made0 R.made.2.2 (Or.inr q)]; simpa using hQ, fun Q hQ => by unfold wX10_find; rw [e_made0 R.made.1 R.made.2.1 (Or.inr q)]; simpa using hQ, R⟩
  have R1 := R.set12 (-1)
  have hm1 : ∀ v : Int32, mp m 0 12 v 1 = m 1 := fun v => mp_n (by decide)
  have nof : ∀ (f : Int32), ¬ f = 0 → ¬ f ≤ 0 → ∀ Q : Int32 → gMem → Prop, Q ((-10) - f) (mp (mp m 0 12 (-1)) 0 5 f) → wX10_find_p38 (nI h) l2 f m Q := by
    intro f hf hf2 Q hQ
    unfold wX10_find_p38 wX10_find_p60
    simp only [forall_eq, hf, false_implies, not_false_eq_true, true_implies, true_and]
    intro P hP
    refine hP _ _ _ _ _ ?_
    unfold wX10_find_p62_b
    simp only [ne_m1_lt, true_implies, not_true_eq_false, false_implies, and_true]
    rw [e_byF hf2]; exact hQ
  by_cases hl : aLv (m 1) h
  · have fF := R.cF hh hl
    obtain ⟨f1, f2, f3, f4, f5, f6, f7, f8, f9, f10, f11, f12, f13, f14, f15, f16⟩ := id fF
    by_cases hk : aKd (m 1) h = 5
    · obtain ⟨t1, t2, t3⟩ := tab_facts R hh hl hk
      have hcn : c 3 (aPl (m 1) h + 1) = nI (aMn (m 1) h) := f13 (Or.inr (Or.inr hk))
      have hcg : fkN (fun j => c 3 (aPl (m 1) h + 2 + aMn (m 1) h + j)) l2 0 (aMn (m 1) h) = fkN (fun j => m 1 (6100 + aPl (m 1) h + (2 + aMn (m 1) h + j))) l2 0 (aMn (m 1) h) := by
        refine fkN_cong _ _ (fun j _ hj => ?_)
        have := fF.word R.1.1.2.1 (j := 2 + aMn (m 1) h + j) (by omega)
        rw [show aPl (m 1) h + 2 + aMn (m 1) h + j = aPl (m 1) h + (2 + aMn (m 1) h + j) by omega]; exact this
      have hfd := fkN_fd (w := fun j => m 1 (6100 + aPl (m 1) h + (2 + aMn (m 1) h + j))) (v := l2) (aMn (m 1) h) 0 (by omega)
      refine ⟨fkN (fun j => m 1 (6100 + aPl (m 1) h + (2 + aMn (m 1) h + j))) l2 0 (aMn (m 1) h), _, _, fun Q hQ => ?_, fun Q hQ => ?_, (R.set12 (fkN (fun j => m 1 (6100 + aPl (m 1) h + (2 + aMn (m 1) h + j))) l2 0 (aMn (m 1) h))).set5 0⟩
      · unfold wX9_find wX0_placeOfKey
        rw [pub_made1 R hh, cellR R hh hl (w := 5) (x := 5) rfl (by decide), isaN5.mpr hk, x_countOf f1 f11 (by omega), hcn]
        have e1 : nI (aPl (m 1) h) + 2 + nI (aMn (m 1) h) = nI (aPl (m 1) h + 2 + aMn (m 1) h) := by
          rw [show (2 : Int32) = nI 2 from rfl, nI_add, nI_add]
        simp only [if_true, true_implies, not_true_eq_false, false_implies, and_true, vp_in_nI f1 (show 500 < 2 ^ 31 by decide), nI_clamp (show h < 2 ^ 31 by omega), forall_eq, f11, e1, true_and]
        refine x_find_loop (by omega) (aMn (m 1) h) 0 (by omega) _ ?_
        rw [x_answer, hcg, hfd]; exact hQ
      · unfold wX10_find wX10_find_p38 wX10_find_p60
        rw [pub_madeM R hh, e_live R hh hl, e_of1 f1, f2, hk]
        simp only [show nI 5 = (5 : Int32) from rfl, true_implies, not_true_eq_false, false_implies, and_true, forall_eq]
        rw [e_of3 f1, hm1, f5]
        refine e_find_loop (s := m 1) f1 f4 f5 f6 (by omega) (aMn (m 1) h) (Nat.le_refl _) (mp m 0 12 (-1)) (hm1 _) (by rw [Nat.sub_self, mp_s, up_s]; rfl) Q ?_
        have e2 : ∀ y : Int32, mp (mp m 0 12 (-1)) 0 12 y = mp m 0 12 y := by
          intro y
          unfold mp; rw [mr_s, mr_mr]; congr 1
          funext q
          by_cases hq : q = 12
          · subst hq; rw [up_s, up_s]
          · rw [up_n hq, up_n hq, up_n hq]
        rw [e2]; exact hQ
    · have hi : isaN 5 (aKd (m 1) h) = false := by rw [← Bool.not_eq_true]; exact fun q => hk (isaN5.mp q)
      refine by_wrong R1 (-13) 3 (fun Q hQ => ?_) (fun Q hQ => ?_)
      · unfold wX9_find wX0_placeOfKey
        rw [pub_made1 R hh, cellR R hh hl (w := 5) (x := 5) rfl (by decide), hi]
        simpa [x_answer, fd13] using hQ
      · unfold wX10_find
        rw [pub_madeM R hh, e_live R hh hl, e_of1 f1, f2]
        simp only [nI_ne5 f3 hk, true_implies, not_false_eq_true, false_implies, true_and, not_true_eq_false, and_true]
        exact nof 3 (by decide) (by decide) Q hQ
  · refine by_wrong R1 (-11) 1 (fun Q hQ => ?_) (fun Q hQ => ?_)
    · unfold wX9_find wX0_placeOfKey
      rw [pub_made1 R hh, cellG R (Or.inr ⟨h, hh, rfl, hl⟩)]
      simpa [x_answer, fd11] using hQ
    · unfold wX10_find
      rw [pub_madeM R hh, e_gone R (Or.inr ⟨h, hh, rfl, hl⟩)]
      simp only [i32_10, true_implies, not_false_eq_true, false_implies, true_and]
      exact nof 1 (by decide) (by decide) Q hQ
end C5

/-! link, get, weaken, look: the class's methods beside the reference's -/
theorem i32_10 : ((1 : Int32) = 0) = False := by decide
theorem i32_01 : ((0 : Int32) = 1) = False := by decide
section C1
variable {T : Nat} {c m : gMem}
theorem cellR (R : Rel T c m) {h : Nat} (hh : h < zM (m 1)) (hl : aLv (m 1) h) {w : Nat} {x : Int32} (hx : x = nI w) (hw : w < 6) {Q : Int32 → gMem → Prop} : wX0_wrongAs x (nI h) c Q = Q (if isaN w (aKd (m 1) h) then 0 else -13) c := by
  obtain ⟨f1, f2, f3, f4, f5, f6, f7, f8, f9, f10, f11, f12, f13, f14, f15, f16⟩ := R.cF hh hl
  unfold wX0_wrongAs
  rw [x_live R hh hl]
  simp only [i32_10, false_implies, not_false_eq_true, true_implies, true_and]
  rw [x_isA hx hw f1 f11 (by omega) f12 f3]
  cases isaN w (aKd (m 1) h) <;> simp
theorem cellG (R : Rel T c m) {x y : Int32} (h : aGn (m 1) x) {Q : Int32 → gMem → Prop} : wX0_wrongAs y x c Q = Q (-11) c := by
  unfold wX0_wrongAs
  rw [x_gone R h]
  simp
theorem cellLR (R : Rel T c m) {h : Nat} (hh : h < zM (m 1)) (hl : aLv (m 1) h) {Q : Int32 → gMem → Prop} : wX0_wrongForLinks (nI h) c Q = Q (if aKd (m 1) h = 2 then -13 else 0) c := by
  obtain ⟨f1, f2, f3, f4, f5, f6, f7, f8, f9, f10, f11, f12, f13, f14, f15, f16⟩ := R.cF hh hl
  unfold wX0_wrongForLinks
  rw [x_live R hh hl]
  simp only [i32_10, false_implies, not_false_eq_true, true_implies, true_and]
  rw [x_isA (x := 2) (w := 2) rfl (by decide) f1 f11 (by omega) f12 f3]
  by_cases hk : aKd (m 1) h = 2
  · simp [hk, isaN]
  · simp [hk, isaN]
theorem cellLG (R : Rel T c m) {x : Int32} (h : aGn (m 1) x) {Q : Int32 → gMem → Prop} : wX0_wrongForLinks x c Q = Q (-11) c := by
  unfold wX0_wrongForLinks
  rw [x_gone R h]
  simp
theorem nI_ne2 {k : Nat} (hk : k ≤ 5) (h : k ≠ 2) : ¬ nI k = 2 := fun q => h (nI_inj (b := 2) (by omega) (by omega) q)
theorem sim_setLink {x i t : Int32} (R : Rel T c m) (hx : aRg (m 1) x) (ht : aRg (m 1) t) : Sim (wX0_setLink x i t c) (wX10_linked x i t m) (Rel T) := by
  have hM := R.made.2.1
  rcases hx.cases with hg | ⟨h, hh, rfl, hl⟩
  · refine ⟨-11, c, m, fun Q hQ => ?_, fun Q hQ => ?_, R⟩
    · unfold wX0_setLink; rw [cellLG R hg]; simpa using hQ
    · unfold wX10_linked; rw [e_gone R hg]; simpa [e_fails] using hQ
  obtain ⟨f1, f2, f3, f4, f5, f6, f7, f8, f9, f10, f11, f12, f13, f14, f15, f16⟩ := R.cF hh hl
  by_cases hk : aKd (m 1) h = 2
  · refine ⟨-13, c, m, fun Q hQ => ?_, fun Q hQ => ?_, R⟩
    · unfold wX0_setLink; rw [cellLR R hh hl, if_pos hk]; simpa using hQ
    · unfold wX10_linked; rw [e_live R hh hl, e_of1 f1, f2, hk]; simpa [e_fails, show nI 2 = (2 : Int32) from rfl] using hQ
  have hk2 := nI_ne2 f3 hk
  rcases ht.tgt.symm with ⟨t', ht', rfl, hld⟩ | hv
  · refine ⟨-11, c, m, fun Q hQ => ?_, fun Q hQ => ?_, R⟩
    · unfold wX0_setLink; rw [cellLR R hh hl, if_neg hk, x_tgt0 R ht' hld]; simpa using hQ
    · unfold wX10_linked; rw [e_live R hh hl, e_of1 f1, f2, e_gone R (Or.inr ⟨t', ht', rfl, hld⟩)]; simpa [e_fails, hk2, nI_m1 (show t' < 2 ^ 31 by omega)] using hQ
  have em : ∀ Q : Int32 → gMem → Prop, wX10_linked_p46 (nI h) i t m Q → wX10_linked (nI h) i t m Q := by
    intro Q hQ
    unfold wX10_linked
    rw [e_live R hh hl, e_of1 f1, f2]
    rcases hv with rfl | ⟨t', ht', rfl, hlv⟩
    · simpa [hk2] using hQ
    · rw [e_live R ht' hlv]; simpa [hk2, nI_m1 (show t' < 2 ^ 31 by omega)] using hQ
  have hsz : aSz (m 1) h ≤ 602 := szN_le f6
  rcases pk_ix i (n := aLk (m 1) h) (by omega) with q | q | ⟨j, hj, rfl⟩
  · refine ⟨-12, c, m, fun Q hQ => ?_, fun Q hQ => em Q ?_, R⟩
    · unfold wX0_setLink; rw [cellLR R hh hl, if_neg hk, x_tgt1 R hv]; simpa [q] using hQ
    · unfold wX10_linked_p46; rw [e_linksOf f1 f2 f3 f5, e_inN0 (n := lkN (aKd (m 1) h) (aMn (m 1) h)) (Or.inl q) (show aLk (m 1) h < 2 ^ 30 by omega)]; simpa [e_fails] using hQ
  · have hi0 : ¬ i < 0 := by
      intro q0
      have h1 := Int32.le_iff_toInt_le.mp q
      have h2 := Int32.lt_iff_toInt_lt.mp q0
      rw [nI_toInt (by omega)] at h1
      have e : (0 : Int32).toInt = 0 := by decide
      omega
    refine ⟨-12, c, m, fun Q hQ => ?_, fun Q hQ => em Q ?_, R⟩
    · unfold wX0_setLink; rw [cellLR R hh hl, if_neg hk, x_tgt1 R hv, x_linksOf f1 f11 (by omega) f12 f3 (fun q => f13 (q.elim Or.inl (fun q => Or.inr (Or.inr q))))]
      simp only [true_implies, hi0, false_implies, not_false_eq_true, true_and, show ¬ i < nI (lkN (aKd (m 1) h) (aMn (m 1) h)) from Int32.not_lt.mpr q, not_true_eq_false, and_true]
      exact hQ
    · unfold wX10_linked_p46; rw [e_linksOf f1 f2 f3 f5, e_inN0 (n := lkN (aKd (m 1) h) (aMn (m 1) h)) (Or.inr q) (show aLk (m 1) h < 2 ^ 30 by omega)]; simpa [e_fails] using hQ
  · obtain ⟨c', s', X, M, hr, hI, hf, hq⟩ := sim_relink R.1.1 R.1.2 hh hl hj hv
    have M' := M m
    rw [mr_self] at M'
    refine ⟨1, c', mr m 1 s', fun Q hQ => ?_, fun Q hQ => em Q ?_, R.now (Nat.le_refl _) hr hI hf (hq.1 0 (by simp))⟩
    · unfold wX0_setLink; rw [cellLR R hh hl, if_neg hk, x_tgt1 R hv, x_linksOf f1 f11 (by omega) f12 f3 (fun q => f13 (q.elim Or.inl (fun q => Or.inr (Or.inr q))))]
      simp only [true_implies, nI_pos (show j < 2 ^ 31 by omega), false_implies, not_false_eq_true, true_and, show nI j < nI (lkN (aKd (m 1) h) (aMn (m 1) h)) from nI_lt hj (by show aLk (m 1) h < 2 ^ 31; omega), not_true_eq_false, and_true]
      exact X _ hQ
    · unfold wX10_linked_p46; rw [e_linksOf f1 f2 f3 f5, e_inN1 (n := lkN (aKd (m 1) h) (aMn (m 1) h)) hj (show aLk (m 1) h < 2 ^ 30 by omega)]
      simp only [i32_10, false_implies, not_false_eq_true, true_implies, true_and]
      exact M' _ hQ
theorem op_link {l1 l2 l3 : Int32} (R : Rel T c m) : Sim (wX9_link l1 l2 l3 c) (wX10_link l1 l2 l3 m) (Rel T) := by
  rcases pk_ix l1 (n := zM (m 1)) (by have := R.made.2.1; omega) with q | q | ⟨h, hh, rfl⟩
  · exact ⟨-101, c, m, fun Q hQ => by unfold wX9_link; rw [x_made0 R.made.2.2 (Or.inl q)]; simpa using hQ, fun Q hQ => by unfold wX10_link wX10_link_p16; rw [e_made0 R.made.1 R.made.2.1 (Or.inl q)]; simpa using hQ, R⟩
  · exact ⟨-101, c, m, fun Q hQ => by unfold wX9_link; rw [x_made0 R.made.2.2 (Or.inr q)]; simpa using hQ, fun Q hQ => by unfold wX10_link wX10_link_p16; rw [e_made0 R.made.1 R.made.2.1 (Or.inr q)]; simpa using hQ, R⟩
  · rcases R.rg l3 with hr | ⟨h1, h2⟩
    · obtain ⟨r, c', m', a1, a2, a3⟩ := pub_answer (sim_setLink (i := l2) R (Or.inr ⟨h, hh, rfl⟩) hr)
      refine ⟨r, c', m', fun Q hQ => ?_, fun Q hQ => ?_, a3⟩
      · unfold wX9_link
        rw [x_made1 R.made.2.2 R.made.2.1 hh]
        have e : ∀ P : Int32 → gMem → Prop, wX9_isUnknownTarget l3 c P = P 0 c := fun P => by
          rcases hr with rfl | ⟨t, ht, rfl⟩
          · exact x_unkN
          · exact x_unk1 R.made.2.2 R.made.2.1 ht
        rw [e]
        simp only [i32_10, false_implies, not_false_eq_true, true_implies, true_and, not_true_eq_false, and_true]
        exact a1 _ hQ
      · unfold wX10_link
        rw [e_made1 R.made.1 R.made.2.1 hh]
        have e : ∀ P : Int32 → gMem → Prop, wX10_mayBe l3 m P = P 1 m := fun P => by
          rcases hr with rfl | ⟨t, ht, rfl⟩
          · exact e_mayN
          · exact e_may1 R.made.1 R.made.2.1 ht
        rw [e]
        simp only [i32_10, false_implies, not_false_eq_true, true_implies, true_and, not_true_eq_false, and_true]
        exact a2 _ hQ
    · refine ⟨-101, c, m, fun Q hQ => ?_, fun Q hQ => ?_, R⟩
      · unfold wX9_link
        rw [x_made1 R.made.2.2 R.made.2.1 hh, x_unk0 R.made.2.2 h2 h1]; simpa using hQ
      · unfold wX10_link wX10_link_p16
        rw [e_made1 R.made.1 R.made.2.1 hh, e_may0 R.made.1 R.made.2.1 h2 h1]; simpa using hQ
end C1

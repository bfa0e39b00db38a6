/-! measure() and links(): what they count -/
def bump (c : gMem) (i j : Nat) : gMem := mp c i j (c i j + 1)
theorem mp_id {c : gMem} {i j : Nat} {v : Int32} (h : c i j = v) : mp c i j v = c := by
  funext a
  by_cases ha : a = i
  · subst ha
    rw [mp_s]
    funext b
    by_cases hb : b = j
    · subst hb; rw [up_s, h]
    · rw [up_n hb]
  · rw [mp_n ha]
theorem Rel.bump {T : Nat} {c m : gMem} {b : Nat} (hb : b < 14) (R : Rel T c m) : Rel T (bump c 64 b) (bump m 4 b) := by
  show Rel T (mp c 64 b (c 64 b + 1)) (mp m 4 b (m 4 b + 1))
  rw [R.2.2.2.2.1 b hb]
  exact R.set64 hb
theorem bump_comm {c : gMem} {i a b : Nat} (h : a ≠ b) : bump (bump c i a) i b = bump (bump c i b) i a := by
  unfold bump
  funext q
  by_cases hq : q = i
  · subst hq
    simp only [mp_s]
    funext j
    by_cases h1 : j = a
    · subst h1
      rw [up_n h, up_s, up_s, up_n h]
    · by_cases h2 : j = b
      · subst h2; rw [up_s, up_n h1, up_n h1, up_s]
      · rw [up_n h2, up_n h1, up_n h1, up_n h2]
  · simp only [mp_n hq]
section BO
variable {T : Nat} {c m : gMem}

theorem op_measure {l1 : Int32} (R : Rel T c m) : Sim (wX9_measure l1 c) (wX10_measure l1 m) (Rel T) := by
  rcases pk_ix l1 (n := zM (m 1)) (by have := R.made.2.1; omega) with q | q | ⟨h, hh, rfl⟩
  · exact ⟨-101, c, m, fun Q hQ => by unfold wX9_measure; rw [x_made0 R.made.2.2 (Or.inl q)]; simpa using hQ, fun Q hQ => by unfold wX10_measure; rw [e_made0 R.made.1 R.made.2.1 (Or.inl q)]; simpa using hQ, R⟩
  · exact ⟨-101, c, m, fun Q hQ => by unfold wX9_measure; rw [x_made0 R.made.2.2 (Or.inr q)]; simpa using hQ, fun Q hQ => by unfold wX10_measure; rw [e_made0 R.made.1 R.made.2.1 (Or.inr q)]; simpa using hQ, R⟩
  · by_cases hl : aLv (m 1) h
    · obtain ⟨f1, f2, f3, f4, f5, f6, f7, f8, f9, f10, f11, f12, f13, f14, f15, f16⟩ := R.cF hh hl
      have f16' : 2 ≤ aSz (m 1) h := f16
      have eM : ∀ (m' : gMem) (Q : Int32 → gMem → Prop), m' 1 = m 1 → wX10_sizeAt (nI h) m' Q = Q (nI (aSz (m 1) h)) m' := fun m' Q e => e_sizeAt f1 (by rw [e]; exact f2) f3 (by rw [e]; exact f5) f6
      have eX : ∀ (c' : gMem) (Q : Int32 → gMem → Prop), c' 3 = c 3 → c' 4 = c 4 → wX2_intsOf (nI h) c' Q = Q (nI (aSz (m 1) h)) c' := fun c' Q e3 e4 => x_intsOf f1 (by rw [e4]; exact f11) (by omega) (by rw [e3]; exact f12) f3 (fun q => by rw [e3]; exact f13 q) f6
      have hxk : ∀ Q : Int32 → gMem → Prop, wX2_kindOf (nI h) c Q = Q (nI (aKd (m 1) h)) c := fun Q => x_kindOf f1 f11 (by omega) f12 f3
      generalize aKd (m 1) h = k at *
      generalize aSz (m 1) h = z at *
      have key : ∀ (c' m' : gMem), (∀ Q : gMem → Prop, Q c' → wX9_countBodies ((gs_n 1).2.2.getD k 0) ((gs_n 2).2.2.getD k 0) c Q) → (∀ Q : Int32 → gMem → Prop, Q (nI z) (mp m' 0 5 (fdA (nI z))) → wX10_measure (nI h) m Q) → c' 3 = c 3 → c' 4 = c 4 → Rel T c' m' → Sim (wX9_measure (nI h) c) (wX10_measure (nI h) m) (Rel T) := by
        intro c' m' hx hm e3 e4 R'
        refine ⟨nI z, _, _, fun Q hQ => ?_, hm, R'.set5 (fdA (nI z))⟩
        unfold wX9_measure
        rw [x_made1 R.made.2.2 R.made.2.1 hh, x_live R hh hl, hxk]
        simp only [nI_clamp (show k < 2 ^ 31 by omega), vp_in_nI (show k < 6 by omega) (show 6 < 2 ^ 31 by decide), forall_eq, true_and, true_implies, false_implies, not_false_eq_true, show ((1 : Int32) = 0) = False by decide]
        refine hx _ ?_
        rw [eX c' _ e3 e4, x_answer]
        exact hQ
      have hmm : ∀ (Q : Int32 → gMem → Prop), wX10_of (nI h) 1 m Q = Q (nI k) m := fun Q => by rw [e_of1 f1, f2]
      rcases (by omega : k = 0 ∨ k = 1 ∨ k = 2 ∨ k = 3 ∨ k = 4 ∨ k = 5) with rfl | rfl | rfl | rfl | rfl | rfl
      · refine key (bump c 64 0) (bump m 4 0) (fun Q hQ => ?_) (fun Q hQ => ?_) (by simp [bump, mp, mr]) (by simp [bump, mp, mr]) (R.bump (by decide))
        · unfold wX9_countBodies
          simpa [gs_n, bump, vp_in, mp_s, mp_n, up_s, up_n] using hQ
        · unfold wX10_measure wX10_measure_p56 wX10_measure_p61 wX10_measure_p80 wX10_measure_p99 wX10_measure_p104 wX10_measure_p123 wX10_measure_p142
          rw [e_made1 R.made.1 R.made.2.1 hh, e_live R hh hl, hmm]
          skip
          simpa [show nI 0 = (0 : Int32) from rfl, vp_in, mp_n, mp_s, up_n, up_s, mp_id, eM, e_answers, bump] using hQ
      · refine key (bump c 64 2) (bump m 4 2) (fun Q hQ => ?_) (fun Q hQ => ?_) (by simp [bump, mp, mr]) (by simp [bump, mp, mr]) (R.bump (by decide))
        · unfold wX9_countBodies
          simpa [gs_n, bump, vp_in, mp_s, mp_n, up_s, up_n] using hQ
        · unfold wX10_measure wX10_measure_p56 wX10_measure_p61 wX10_measure_p80 wX10_measure_p99 wX10_measure_p104 wX10_measure_p123 wX10_measure_p142
          rw [e_made1 R.made.1 R.made.2.1 hh, e_live R hh hl, hmm]
          skip
          simpa [show nI 1 = (1 : Int32) from rfl, vp_in, mp_n, mp_s, up_n, up_s, mp_id, eM, e_answers, bump] using hQ
      · refine key (bump c 64 4) (bump m 4 4) (fun Q hQ => ?_) (fun Q hQ => ?_) (by simp [bump, mp, mr]) (by simp [bump, mp, mr]) (R.bump (by decide))
        · unfold wX9_countBodies
          simpa [gs_n, bump, vp_in, mp_s, mp_n, up_s, up_n] using hQ
        · unfold wX10_measure wX10_measure_p56 wX10_measure_p61 wX10_measure_p80 wX10_measure_p99 wX10_measure_p104 wX10_measure_p123 wX10_measure_p142
          rw [e_made1 R.made.1 R.made.2.1 hh, e_live R hh hl, hmm]
          skip
          simpa [show nI 2 = (2 : Int32) from rfl, vp_in, mp_n, mp_s, up_n, up_s, mp_id, eM, e_answers, bump] using hQ
      · refine key (bump c 64 0) (bump m 4 0) (fun Q hQ => ?_) (fun Q hQ => ?_) (by simp [bump, mp, mr]) (by simp [bump, mp, mr]) (R.bump (by decide))
        · unfold wX9_countBodies
          simpa [gs_n, bump, vp_in, mp_s, mp_n, up_s, up_n] using hQ
        · unfold wX10_measure wX10_measure_p56 wX10_measure_p61 wX10_measure_p80 wX10_measure_p99 wX10_measure_p104 wX10_measure_p123 wX10_measure_p142
          rw [e_made1 R.made.1 R.made.2.1 hh, e_live R hh hl, hmm]
          skip
          simpa [show nI 3 = (3 : Int32) from rfl, vp_in, mp_n, mp_s, up_n, up_s, mp_id, eM, e_answers, bump] using hQ
      · refine key (bump (bump c 64 1) 64 0) (bump (bump m 4 1) 4 0) (fun Q hQ => ?_) (fun Q hQ => ?_) (by simp [bump, mp, mr]) (by simp [bump, mp, mr]) ((R.bump (by decide)).bump (by decide))
        · unfold wX9_countBodies
          simpa [gs_n, bump, vp_in, mp_s, mp_n, up_s, up_n] using hQ
        · unfold wX10_measure wX10_measure_p56 wX10_measure_p61 wX10_measure_p80 wX10_measure_p99 wX10_measure_p104 wX10_measure_p123 wX10_measure_p142
          rw [e_made1 R.made.1 R.made.2.1 hh, e_live R hh hl, hmm]
          rw [bump_comm (by decide)] at hQ
          simpa [show nI 4 = (4 : Int32) from rfl, vp_in, mp_n, mp_s, up_n, up_s, mp_id, eM, e_answers, bump] using hQ
      · refine key (bump (bump c 64 3) 64 2) (bump (bump m 4 3) 4 2) (fun Q hQ => ?_) (fun Q hQ => ?_) (by simp [bump, mp, mr]) (by simp [bump, mp, mr]) ((R.bump (by decide)).bump (by decide))
        · unfold wX9_countBodies
          simpa [gs_n, bump, vp_in, mp_s, mp_n, up_s, up_n] using hQ
        · unfold wX10_measure wX10_measure_p56 wX10_measure_p61 wX10_measure_p80 wX10_measure_p99 wX10_measure_p104 wX10_measure_p123 wX10_measure_p142
          rw [e_made1 R.made.1 R.made.2.1 hh, e_live R hh hl, hmm]
          rw [bump_comm (by decide)] at hQ
          simpa [show nI 5 = (5 : Int32) from rfl, vp_in, mp_n, mp_s, up_n, up_s, mp_id, eM, e_answers, bump] using hQ
    · refine ⟨-11, _, _, fun Q hQ => ?_, fun Q hQ => ?_, R.set5 (fdA (-11))⟩
      · unfold wX9_measure
        rw [x_made1 R.made.2.2 R.made.2.1 hh, x_gone R (Or.inr ⟨h, hh, rfl, hl⟩)]
        simpa [x_answer] using hQ
      · unfold wX10_measure
        rw [e_made1 R.made.1 R.made.2.1 hh, e_gone R (Or.inr ⟨h, hh, rfl, hl⟩)]
        simpa [e_answers, e_fails] using hQ
theorem op_links {l1 : Int32} (R : Rel T c m) : Sim (wX9_links l1 c) (wX10_links l1 m) (Rel T) := by
  rcases pk_ix l1 (n := zM (m 1)) (by have := R.made.2.1; omega) with q | q | ⟨h, hh, rfl⟩
  · exact ⟨-101, c, m, fun Q hQ => by unfold wX9_links; rw [x_made0 R.made.2.2 (Or.inl q)]; simpa using hQ, fun Q hQ => by unfold wX10_links; rw [e_made0 R.made.1 R.made.2.1 (Or.inl q)]; simpa using hQ, R⟩
  · exact ⟨-101, c, m, fun Q hQ => by unfold wX9_links; rw [x_made0 R.made.2.2 (Or.inr q)]; simpa using hQ, fun Q hQ => by unfold wX10_links; rw [e_made0 R.made.1 R.made.2.1 (Or.inr q)]; simpa using hQ, R⟩
  · by_cases hl : aLv (m 1) h
    · obtain ⟨f1, f2, f3, f4, f5, f6, f7, f8, f9, f10, f11, f12, f13, f14, f15, f16⟩ := R.cF hh hl
      have f16' : 2 ≤ aSz (m 1) h := f16
      have eM : ∀ (m' : gMem) (Q : Int32 → gMem → Prop), m' 1 = m 1 → wX10_linksOf (nI h) m' Q = Q (nI (aLk (m 1) h)) m' := fun m' Q e => e_linksOf f1 (by rw [e]; exact f2) f3 (by rw [e]; exact f5)
      have eX : ∀ (c' : gMem) (Q : Int32 → gMem → Prop), c' 3 = c 3 → c' 4 = c 4 → wX2_linksOf (nI h) c' Q = Q (nI (aLk (m 1) h)) c' := fun c' Q e3 e4 => x_linksOf f1 (by rw [e4]; exact f11) (by omega) (by rw [e3]; exact f12) f3 (fun q => by rw [e3]; exact f13 (q.elim Or.inl (fun q => Or.inr (Or.inr q))))
      have hxk : ∀ Q : Int32 → gMem → Prop, wX2_kindOf (nI h) c Q = Q (nI (aKd (m 1) h)) c := fun Q => x_kindOf f1 f11 (by omega) f12 f3
      generalize aKd (m 1) h = k at *
      generalize aLk (m 1) h = z at *
      have key : ∀ (c' m' : gMem), (∀ Q : gMem → Prop, Q c' → wX9_countBodies ((gs_n 3).2.2.getD k 0) ((gs_n 4).2.2.getD k 0) c Q) → (∀ Q : Int32 → gMem → Prop, Q (nI z) (mp m' 0 5 (fdA (nI z))) → wX10_links (nI h) m Q) → c' 3 = c 3 → c' 4 = c 4 → Rel T c' m' → Sim (wX9_links (nI h) c) (wX10_links (nI h) m) (Rel T) := by
        intro c' m' hx hm e3 e4 R'
        refine ⟨nI z, _, _, fun Q hQ => ?_, hm, R'.set5 (fdA (nI z))⟩
        unfold wX9_links
        rw [x_made1 R.made.2.2 R.made.2.1 hh, x_live R hh hl, hxk]
        simp only [nI_clamp (show k < 2 ^ 31 by omega), vp_in_nI (show k < 6 by omega) (show 6 < 2 ^ 31 by decide), forall_eq, true_and, true_implies, false_implies, not_false_eq_true, show ((1 : Int32) = 0) = False by decide]
        refine hx _ ?_
        rw [eX c' _ e3 e4, x_answer]
        exact hQ
      have hmm : ∀ (Q : Int32 → gMem → Prop), wX10_of (nI h) 1 m Q = Q (nI k) m := fun Q => by rw [e_of1 f1, f2]
      rcases (by omega : k = 0 ∨ k = 1 ∨ k = 2 ∨ k = 3 ∨ k = 4 ∨ k = 5) with rfl | rfl | rfl | rfl | rfl | rfl
      · refine key (bump c 64 5) (bump m 4 5) (fun Q hQ => ?_) (fun Q hQ => ?_) (by simp [bump, mp, mr]) (by simp [bump, mp, mr]) (R.bump (by decide))
        · unfold wX9_countBodies
          simpa [gs_n, bump, vp_in, mp_s, mp_n, up_s, up_n] using hQ
        · unfold wX10_links wX10_links_p56 wX10_links_p61 wX10_links_p81 wX10_links_p86 wX10_links_p106 wX10_links_p111 wX10_links_p131
          rw [e_made1 R.made.1 R.made.2.1 hh, e_live R hh hl, hmm]
          skip
          simpa [show nI 0 = (0 : Int32) from rfl, vp_in, mp_n, mp_s, up_n, up_s, mp_id, eM, e_answers, bump] using hQ
      · refine key (bump c 64 7) (bump m 4 7) (fun Q hQ => ?_) (fun Q hQ => ?_) (by simp [bump, mp, mr]) (by simp [bump, mp, mr]) (R.bump (by decide))
        · unfold wX9_countBodies
          simpa [gs_n, bump, vp_in, mp_s, mp_n, up_s, up_n] using hQ
        · unfold wX10_links wX10_links_p56 wX10_links_p61 wX10_links_p81 wX10_links_p86 wX10_links_p106 wX10_links_p111 wX10_links_p131
          rw [e_made1 R.made.1 R.made.2.1 hh, e_live R hh hl, hmm]
          skip
          simpa [show nI 1 = (1 : Int32) from rfl, vp_in, mp_n, mp_s, up_n, up_s, mp_id, eM, e_answers, bump] using hQ
      · refine key (bump c 64 8) (bump m 4 8) (fun Q hQ => ?_) (fun Q hQ => ?_) (by simp [bump, mp, mr]) (by simp [bump, mp, mr]) (R.bump (by decide))
        · unfold wX9_countBodies
          simpa [gs_n, bump, vp_in, mp_s, mp_n, up_s, up_n] using hQ
        · unfold wX10_links wX10_links_p56 wX10_links_p61 wX10_links_p81 wX10_links_p86 wX10_links_p106 wX10_links_p111 wX10_links_p131
          rw [e_made1 R.made.1 R.made.2.1 hh, e_live R hh hl, hmm]
          skip
          simpa [show nI 2 = (2 : Int32) from rfl, vp_in, mp_n, mp_s, up_n, up_s, mp_id, eM, e_answers, bump] using hQ
      · refine key (bump (bump c 64 6) 64 5) (bump (bump m 4 6) 4 5) (fun Q hQ => ?_) (fun Q hQ => ?_) (by simp [bump, mp, mr]) (by simp [bump, mp, mr]) ((R.bump (by decide)).bump (by decide))
        · unfold wX9_countBodies
          simpa [gs_n, bump, vp_in, mp_s, mp_n, up_s, up_n] using hQ
        · unfold wX10_links wX10_links_p56 wX10_links_p61 wX10_links_p81 wX10_links_p86 wX10_links_p106 wX10_links_p111 wX10_links_p131
          rw [e_made1 R.made.1 R.made.2.1 hh, e_live R hh hl, hmm]
          rw [bump_comm (by decide)] at hQ
          simpa [show nI 3 = (3 : Int32) from rfl, vp_in, mp_n, mp_s, up_n, up_s, mp_id, eM, e_answers, bump] using hQ
      · refine key (bump (bump c 64 6) 64 5) (bump (bump m 4 6) 4 5) (fun Q hQ => ?_) (fun Q hQ => ?_) (by simp [bump, mp, mr]) (by simp [bump, mp, mr]) ((R.bump (by decide)).bump (by decide))
        · unfold wX9_countBodies
          simpa [gs_n, bump, vp_in, mp_s, mp_n, up_s, up_n] using hQ
        · unfold wX10_links wX10_links_p56 wX10_links_p61 wX10_links_p81 wX10_links_p86 wX10_links_p106 wX10_links_p111 wX10_links_p131
          rw [e_made1 R.made.1 R.made.2.1 hh, e_live R hh hl, hmm]
          rw [bump_comm (by decide)] at hQ
          simpa [show nI 4 = (4 : Int32) from rfl, vp_in, mp_n, mp_s, up_n, up_s, mp_id, eM, e_answers, bump] using hQ
      · refine key (bump c 64 7) (bump m 4 7) (fun Q hQ => ?_) (fun Q hQ => ?_) (by simp [bump, mp, mr]) (by simp [bump, mp, mr]) (R.bump (by decide))
        · unfold wX9_countBodies
          simpa [gs_n, bump, vp_in, mp_s, mp_n, up_s, up_n] using hQ
        · unfold wX10_links wX10_links_p56 wX10_links_p61 wX10_links_p81 wX10_links_p86 wX10_links_p106 wX10_links_p111 wX10_links_p131
          rw [e_made1 R.made.1 R.made.2.1 hh, e_live R hh hl, hmm]
          skip
          simpa [show nI 5 = (5 : Int32) from rfl, vp_in, mp_n, mp_s, up_n, up_s, mp_id, eM, e_answers, bump] using hQ
    · refine ⟨-11, _, _, fun Q hQ => ?_, fun Q hQ => ?_, R.set5 (fdA (-11))⟩
      · unfold wX9_links
        rw [x_made1 R.made.2.2 R.made.2.1 hh, x_gone R (Or.inr ⟨h, hh, rfl, hl⟩)]
        simpa [x_answer] using hQ
      · unfold wX10_links
        rw [e_made1 R.made.1 R.made.2.1 hh, e_gone R (Or.inr ⟨h, hh, rfl, hl⟩)]
        simpa [e_answers, e_fails] using hQ
end BO

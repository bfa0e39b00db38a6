/-! get, weaken, look, number -/
theorem mp_comm {c : gMem} {i j a b : Nat} {v w : Int32} (h : i ≠ a) : mp (mp c i j v) a b w = mp (mp c a b w) i j v := by
  funext q
  by_cases h1 : q = a
  · subst h1; rw [mp_s, mp_n (Ne.symm h), mp_n (Ne.symm h), mp_s]
  · rw [mp_n h1]
    by_cases h2 : q = i
    · subst h2; rw [mp_s, mp_s, mp_n h]
    · rw [mp_n h2, mp_n h2, mp_n h1]
section C2
variable {T : Nat} {c m : gMem}
theorem mr12 {v : Int32} : mr (mp m 0 12 v) 1 (m 1) = mp m 0 12 v := by
  have : m 1 = mp m 0 12 v 1 := (mp_n (by decide)).symm
  rw [this]; exact mr_self
theorem sim_gets {x i : Int32} (R : Rel T c m) (hx : aRg (m 1) x) : SimG (wX0_linkOf x i c) (wX10_gets x i m) (Rel T) := by
  have hM := R.made.2.1
  rcases hx.cases with hg | ⟨h, hh, rfl, hl⟩
  · refine ⟨-11, 1, c, m, fun Q hQ => ?_, fun Q hQ => ?_, R, Or.inr ⟨1, by decide, by decide, rfl, by decide⟩⟩
    · unfold wX0_linkOf; rw [cellLG R hg]; simpa using hQ
    · unfold wX10_gets; rw [e_gone R hg]; simpa using hQ
  obtain ⟨f1, f2, f3, f4, f5, f6, f7, f8, f9, f10, f11, f12, f13, f14, f15, f16⟩ := R.cF hh hl
  by_cases hk : aKd (m 1) h = 2
  · refine ⟨-13, 3, c, m, fun Q hQ => ?_, fun Q hQ => ?_, R, Or.inr ⟨3, by decide, by decide, rfl, by decide⟩⟩
    · unfold wX0_linkOf; rw [cellLR R hh hl, if_pos hk]; simpa using hQ
    · unfold wX10_gets; rw [e_live R hh hl, e_of1 f1, f2, hk]; simpa [show nI 2 = (2 : Int32) from rfl] using hQ
  have hk2 := nI_ne2 f3 hk
  have hsz : aSz (m 1) h ≤ 602 := szN_le f6
  have hm0 : ∀ Q : Int32 → gMem → Prop, (i < 0 ∨ nI (aLk (m 1) h) ≤ i) → Q 2 m → wX10_gets (nI h) i m Q := by
    intro Q q hQ
    unfold wX10_gets; rw [e_live R hh hl, e_of1 f1, f2, e_linksOf f1 f2 f3 f5, e_inN0 (n := lkN (aKd (m 1) h) (aMn (m 1) h)) q (show aLk (m 1) h < 2 ^ 30 by omega)]; simpa [hk2] using hQ
  rcases pk_ix i (n := aLk (m 1) h) (by omega) with q | q | ⟨j, hj, rfl⟩
  · refine ⟨-12, 2, c, m, fun Q hQ => ?_, fun Q hQ => hm0 Q (Or.inl q) hQ, R, Or.inr ⟨2, by decide, by decide, rfl, by decide⟩⟩
    unfold wX0_linkOf wX0_linkOf_p28; rw [cellLR R hh hl, if_neg hk]; simpa [q] using hQ
  · refine ⟨-12, 2, c, m, fun Q hQ => ?_, fun Q hQ => hm0 Q (Or.inr q) hQ, R, Or.inr ⟨2, by decide, by decide, rfl, by decide⟩⟩
    unfold wX0_linkOf wX0_linkOf_p28; rw [cellLR R hh hl, if_neg hk, x_linksOf f1 f11 (by omega) f12 f3 (fun q => f13 (q.elim Or.inl (fun q => Or.inr (Or.inr q))))]
    simp only [show ¬ i < nI (lkN (aKd (m 1) h) (aMn (m 1) h)) from Int32.not_lt.mpr q, true_implies, false_implies, not_false_eq_true, not_true_eq_false, true_and, and_true]
    by_cases hi0 : i < 0 <;> simpa [hi0] using hQ
  · have hw := ln_word R.1.1 R.1.2.1.1 hh hl hj
    have hin := aLn_in R.1.2.1.1.1 R.1.2.1.1.2.1 hh hl hj
    have hlo : aLo (m 1) h = loN (aKd (m 1) h) := rfl
    refine ⟨aLn (m 1) h j, 0, c, mp m 0 12 (aLn (m 1) h j), fun Q hQ => ?_, fun Q hQ => ?_, R.set12 _, Or.inl ⟨rfl, by rw [mp_s, up_s], fdA_hv hM ((R.1.2.1.1.2.2.2.1 h hh hl).1 j hj).rg⟩⟩
    · unfold wX0_linkOf; rw [cellLR R hh hl, if_neg hk, x_linksOf f1 f11 (by omega) f12 f3 (fun q => f13 (q.elim Or.inl (fun q => Or.inr (Or.inr q)))), x_linkPlace f1 f11 (by omega) f12 f3, nI_add, nI_clamp (by omega)]
      rw [show aPl (m 1) h + loN (aKd (m 1) h) + j = aPl (m 1) h + (aLo (m 1) h + j) by omega]
      simp only [true_implies, nI_pos (show j < 2 ^ 31 by omega), false_implies, not_false_eq_true, true_and, show nI j < nI (lkN (aKd (m 1) h) (aMn (m 1) h)) from nI_lt hj (by show aLk (m 1) h < 2 ^ 31; omega), not_true_eq_false, and_true, vp_in_nI (show aPl (m 1) h + (aLo (m 1) h + j) < 4000 by omega) (show 4000 < 2 ^ 31 by decide), forall_eq, hw]
      exact hQ
    · unfold wX10_gets; rw [e_live R hh hl, e_of1 f1, f2, e_linksOf f1 f2 f3 f5, e_inN1 (n := lkN (aKd (m 1) h) (aMn (m 1) h)) hj (show aLk (m 1) h < 2 ^ 30 by omega), e_linkAt f1 f2 f3 f4, nI_clamp (by omega)]
      have evv : m 1 (6100 + aPl (m 1) h + loN (aKd (m 1) h) + j) = aLn (m 1) h j := rfl
      simp only [hk2, i32_10, true_implies, false_implies, not_false_eq_true, not_true_eq_false, and_true, true_and, vp_in_nI (show 6100 + aPl (m 1) h + loN (aKd (m 1) h) + j < 26100 by omega) (show 26100 < 2 ^ 31 by decide), forall_eq, evv]
      exact hQ
theorem pub_made1 (R : Rel T c m) {h : Nat} (hh : h < zM (m 1)) {A : gMem → Prop} {B : gMem → Prop} : (wX2_wasMade (nI h) c (fun r c1 => (r = 0 → A c1) ∧ (¬ r = 0 → B c1))) = B c := by
  rw [x_made1 R.made.2.2 R.made.2.1 hh]; simp
theorem pub_madeM (R : Rel T c m) {h : Nat} (hh : h < zM (m 1)) {A : gMem → Prop} {B : gMem → Prop} : (wX10_isMade (nI h) m (fun r c1 => (r = 0 → A c1) ∧ (¬ r = 0 → B c1))) = B m := by
  rw [e_made1 R.made.1 R.made.2.1 hh]; simp
theorem op_get {l1 l2 : Int32} (R : Rel T c m) : Sim (wX9_get l1 l2 c) (wX10_get l1 l2 m) (Rel T) := by
  rcases pk_ix l1 (n := zM (m 1)) (by have := R.made.2.1; omega) with q | q | ⟨h, hh, rfl⟩
  · exact ⟨-101, c, m, fun Q hQ => by unfold wX9_get; rw [x_made0 R.made.2.2 (Or.inl q)]; simpa using hQ, fun Q hQ => by unfold wX10_get; rw [e_made0 R.made.1 R.made.2.1 (Or.inl q)]; simpa using hQ, R⟩
  · exact ⟨-101, c, m, fun Q hQ => by unfold wX9_get; rw [x_made0 R.made.2.2 (Or.inr q)]; simpa using hQ, fun Q hQ => by unfold wX10_get; rw [e_made0 R.made.1 R.made.2.1 (Or.inr q)]; simpa using hQ, R⟩
  · obtain ⟨r, c', m', a1, a2, a3⟩ := pub_by (sim_gets (i := l2) R (Or.inr ⟨h, hh, rfl⟩))
    exact ⟨r, c', m', fun Q hQ => by unfold wX9_get; rw [pub_made1 R hh]; exact a1 _ hQ, fun Q hQ => by unfold wX10_get; rw [pub_madeM R hh]; exact a2 _ hQ, a3⟩
theorem isaN3 {k : Nat} : isaN 3 k = true ↔ k = 3 ∨ k = 4 := by unfold isaN; simp
theorem sim_weakens {x t : Int32} (R : Rel T c m) (hx : aRg (m 1) x) (ht : aRg (m 1) t) : Sim (wX0_setWeakLink x t c) (wX10_weakens x t m) (Rel T) := by
  have hM := R.made.2.1
  rcases hx.cases with hg | ⟨h, hh, rfl, hl⟩
  · refine ⟨-11, c, m, fun Q hQ => ?_, fun Q hQ => ?_, R⟩
    · unfold wX0_setWeakLink; rw [cellG R hg]; simpa using hQ
    · unfold wX10_weakens; rw [e_gone R hg]; simpa [e_fails] using hQ
  obtain ⟨f1, f2, f3, f4, f5, f6, f7, f8, f9, f10, f11, f12, f13, f14, f15, f16⟩ := R.cF hh hl
  rcases Decidable.em (aKd (m 1) h = 3 ∨ aKd (m 1) h = 4) |>.symm with hk | hk
  · have hi : isaN 3 (aKd (m 1) h) = false := by rw [← Bool.not_eq_true]; exact fun q => hk (isaN3.mp q)
    refine ⟨-13, c, m, fun Q hQ => ?_, fun Q hQ => ?_, R⟩
    · unfold wX0_setWeakLink; rw [cellR R hh hl (w := 3) (x := 3) rfl (by decide), hi]; simpa using hQ
    · unfold wX10_weakens; rw [e_live R hh hl, e_isWeak0 f1 f2 f3 hk]; simpa [e_fails] using hQ
  rcases ht.tgt.symm with ⟨t', ht', rfl, hld⟩ | hv
  · refine ⟨-11, c, m, fun Q hQ => ?_, fun Q hQ => ?_, R⟩
    · unfold wX0_setWeakLink; rw [cellR R hh hl (w := 3) (x := 3) rfl (by decide), isaN3.mpr hk, x_tgt0 R ht' hld]; simpa using hQ
    · unfold wX10_weakens; rw [e_live R hh hl, e_isWeak1 f1 f2 hk, e_gone R (Or.inr ⟨t', ht', rfl, hld⟩)]; simpa [e_fails, nI_m1 (show t' < 2 ^ 31 by omega)] using hQ
  have hz3 : 3 ≤ aSz (m 1) h := by unfold aSz szN; rcases hk with hk | hk <;> rw [hk] <;> simp
  have hlk : ∀ i, i < aLk (m 1) h → 2 ≠ aLo (m 1) h + i := by
    intro i hi
    unfold aLk lkN at hi; unfold aLo loN
    rcases hk with hk | hk <;> rw [hk] at hi ⊢ <;> simp at hi ⊢ <;> omega
  have hS := wr_S0 (v := t) (j := 2) R.1.2.1 hh hl (by decide) (by omega) (fun _ => Nat.le_refl _) ⟨fun i hi q => absurd q (hlk i hi), fun _ _ => hv⟩
  have hL := wr_L (v := t) (j := 2) R.1.2.1 hh hl (by omega) hlk R.1.2.2
  have hR := wr_SR (v := t) R.1.1 R.1.2.1 (p := aPl (m 1) h + 2) (by omega)
  refine ⟨1, mp c 3 (aPl (m 1) h + 2) t, mr m 1 (upd (m 1) (6100 + (aPl (m 1) h + 2)) t), fun Q hQ => ?_, fun Q hQ => ?_, R.now (Nat.le_refl _) hR ⟨hS, hL⟩ (fun q hq => mp_n (by omega)) (up_n (by omega))⟩
  · unfold wX0_setWeakLink; rw [cellR R hh hl (w := 3) (x := 3) rfl (by decide), isaN3.mpr hk, x_tgt1 R hv, x_weakPlace f1 f11, nI_clamp (by omega)]
    simp only [if_true, true_implies, not_true_eq_false, false_implies, and_true, vp_in_nI (show aPl (m 1) h + 2 < 4000 by omega) (show 4000 < 2 ^ 31 by decide), true_and, forall_eq]
    exact hQ
  · have e44 : wX10_weakens_p44 (nI h) t m Q := by
      unfold wX10_weakens_p44
      rw [e_weakAt f1 f4, nI_clamp (by omega)]
      refine ⟨vp_in_nI (by omega) (by decide), fun c3 e3 => ?_⟩
      subst e3
      exact hQ
    unfold wX10_weakens; rw [e_live R hh hl, e_isWeak1 f1 f2 hk]
    rcases hv with rfl | ⟨t', ht', rfl, hlv⟩
    · simpa using e44
    · rw [e_live R ht' hlv]; simpa [nI_m1 (show t' < 2 ^ 31 by omega)] using e44
theorem op_weaken {l1 l2 : Int32} (R : Rel T c m) : Sim (wX9_weaken l1 l2 c) (wX10_weaken l1 l2 m) (Rel T) := by
  rcases pk_ix l1 (n := zM (m 1)) (by have := R.made.2.1; omega) with q | q | ⟨h, hh, rfl⟩
  · exact ⟨-101, c, m, fun Q hQ => by unfold wX9_weaken; rw [x_made0 R.made.2.2 (Or.inl q)]; simpa using hQ, fun Q hQ => by unfold wX10_weaken wX10_weaken_p16; rw [e_made0 R.made.1 R.made.2.1 (Or.inl q)]; simpa using hQ, R⟩
  · exact ⟨-101, c, m, fun Q hQ => by unfold wX9_weaken; rw [x_made0 R.made.2.2 (Or.inr q)]; simpa using hQ, fun Q hQ => by unfold wX10_weaken wX10_weaken_p16; rw [e_made0 R.made.1 R.made.2.1 (Or.inr q)]; simpa using hQ, R⟩
  · rcases R.rg l2 with hr | ⟨h1, h2⟩
    · obtain ⟨r, c', m', a1, a2, a3⟩ := pub_answer (sim_weakens R (Or.inr ⟨h, hh, rfl⟩) hr)
      refine ⟨r, c', m', fun Q hQ => ?_, fun Q hQ => ?_, a3⟩
      · unfold wX9_weaken
        rw [pub_made1 R hh]
        have e : ∀ P : Int32 → gMem → Prop, wX9_isUnknownTarget l2 c P = P 0 c := fun P => by
          rcases hr with rfl | ⟨t, ht, rfl⟩
          · exact x_unkN
          · exact x_unk1 R.made.2.2 R.made.2.1 ht
        rw [e]
        simp only [true_implies, not_true_eq_false, false_implies, and_true]
        exact a1 _ hQ
      · unfold wX10_weaken
        rw [pub_madeM R hh]
        have e : ∀ P : Int32 → gMem → Prop, wX10_mayBe l2 m P = P 1 m := fun P => by
          rcases hr with rfl | ⟨t, ht, rfl⟩
          · exact e_mayN
          · exact e_may1 R.made.1 R.made.2.1 ht
        rw [e]
        simp only [i32_10, false_implies, not_false_eq_true, true_implies, true_and]
        exact a2 _ hQ
    · refine ⟨-101, c, m, fun Q hQ => ?_, fun Q hQ => ?_, R⟩
      · unfold wX9_weaken
        rw [pub_made1 R hh, x_unk0 R.made.2.2 h2 h1]; simpa using hQ
      · unfold wX10_weaken wX10_weaken_p16
        rw [pub_madeM R hh, e_may0 R.made.1 R.made.2.1 h2 h1]; simpa using hQ
theorem sim_looks {x : Int32} (R : Rel T c m) (hx : aRg (m 1) x) : SimG (wX0_lookAt x c) (wX10_looks x m) (Rel T) := by
  have hM := R.made.2.1
  rcases hx.cases with hg | ⟨h, hh, rfl, hl⟩
  · refine ⟨-11, 1, c, m, fun Q hQ => ?_, fun Q hQ => ?_, R, Or.inr ⟨1, by decide, by decide, rfl, by decide⟩⟩
    · unfold wX0_lookAt; rw [cellG R hg]; simpa using hQ
    · unfold wX10_looks; rw [e_gone R hg]; simpa using hQ
  have fF := R.cF hh hl
  obtain ⟨f1, f2, f3, f4, f5, f6, f7, f8, f9, f10, f11, f12, f13, f14, f15, f16⟩ := id fF
  rcases Decidable.em (aKd (m 1) h = 3 ∨ aKd (m 1) h = 4) |>.symm with hk | hk
  · have hi : isaN 3 (aKd (m 1) h) = false := by rw [← Bool.not_eq_true]; exact fun q => hk (isaN3.mp q)
    refine ⟨-13, 3, c, m, fun Q hQ => ?_, fun Q hQ => ?_, R, Or.inr ⟨3, by decide, by decide, rfl, by decide⟩⟩
    · unfold wX0_lookAt; rw [cellR R hh hl (w := 3) (x := 3) rfl (by decide), hi]; simpa using hQ
    · unfold wX10_looks; rw [e_live R hh hl, e_isWeak0 f1 f2 f3 hk]; simpa using hQ
  have hz3 : 3 ≤ aSz (m 1) h := by unfold aSz szN; rcases hk with hk | hk <;> rw [hk] <;> simp
  have hv : aHv (m 1) (m 1 (6100 + aPl (m 1) h + 2)) := (R.1.2.1.1.2.2.2.1 h hh hl).2 hk
  have hw := fF.word R.1.1.2.1 (j := 2) (by omega)
  have hmw : m 1 (6100 + aPl (m 1) h + 2) = m 1 (6100 + aPl (m 1) h + 2) := rfl
  generalize hvv : m 1 (6100 + aPl (m 1) h + 2) = v at hv hw
  have hX : ∀ (c' : gMem), Dv (wX7_mark v 4 (nI h) 0 c) c' → Di (wX0_lookAt (nI h) c) v c' := by
    intro c' hd Q hQ
    unfold wX0_lookAt; rw [cellR R hh hl (w := 3) (x := 3) rfl (by decide), isaN3.mpr hk, x_weakPlace f1 f11, nI_clamp (by omega)]
    simp only [if_true, true_implies, not_true_eq_false, false_implies, and_true, vp_in_nI (show aPl (m 1) h + 2 < 4000 by omega) (show 4000 < 2 ^ 31 by decide), true_and, forall_eq, hw]
    exact hd _ hQ
  have R1 := R.set12 v
  have hm1 : mp m 0 12 v 1 = m 1 := mp_n (by decide)
  have hgot : mp m 0 12 v 0 12 = v := by rw [mp_s, up_s]
  have hMm : ∀ (m' : gMem), (m 1 3 = 1 → Dv (wX10_mark v 4 (nI h) 0 (mp m 0 12 v)) m') → (¬ m 1 3 = 1 → m' = mp m 0 12 v) → Di (wX10_looks (nI h) m) 0 m' := by
    intro m' h1 h2 Q hQ
    unfold wX10_looks; rw [e_live R hh hl, e_isWeak1 f1 f2 hk, e_weakAt f1 f4, nI_clamp (by omega)]
    simp only [i32_10, true_implies, not_true_eq_false, false_implies, not_false_eq_true, and_true, vp_in_nI (show 6100 + aPl (m 1) h + 2 < 26100 by omega) (show 26100 < 2 ^ 31 by decide), true_and, forall_eq, hvv, hm1, hgot]
    refine ⟨fun q => h1 q _ hQ, fun q => ?_⟩
    rw [← h2 q]; exact hQ
  rcases R.1.2.1.2.1.1.1 with h3 | h3
  · have c6 : c 6 0 = 0 := by rw [← h3]; exact R.1.1.2.2.2.1.1
    refine ⟨v, 0, c, mp m 0 12 v, hX c (fun Q hQ => by rw [x_markOff c6]; exact hQ), hMm _ (fun q => absurd (h3.symm.trans q) (by decide)) (fun _ => rfl), R1, Or.inl ⟨rfl, hgot, fdA_hv hM hv.rg⟩⟩
  · obtain ⟨c1, X1, M1, r1, S1, MS1, F1⟩ := sim_mark (w := 4) (a := nI h) (b := 0) R.1.1 R.1.2.1 hv h3
    have M' := M1 (mp m 0 12 v)
    rw [mr12] at M'
    have R2 := R1.now (Nat.le_refl _) r1 ⟨S1, MS1.L R.1.2.1.1 R.1.2.1.2.1 R.1.2.2⟩ (fun q hq => F1 q (by omega)) (by rw [hm1]; exact MS1.1.1.1 0 (by simp))
    refine ⟨v, 0, c1, _, hX c1 X1, hMm _ (fun _ => M') (fun q => absurd h3 q), R2, Or.inl ⟨rfl, by rw [mr_n (by decide)]; exact hgot, fdA_hv hM hv.rg⟩⟩
theorem op_look {l1 : Int32} (R : Rel T c m) : Sim (wX9_look l1 c) (wX10_look l1 m) (Rel T) := by
  rcases pk_ix l1 (n := zM (m 1)) (by have := R.made.2.1; omega) with q | q | ⟨h, hh, rfl⟩
  · exact ⟨-101, c, m, fun Q hQ => by unfold wX9_look; rw [x_made0 R.made.2.2 (Or.inl q)]; simpa using hQ, fun Q hQ => by unfold wX10_look; rw [e_made0 R.made.1 R.made.2.1 (Or.inl q)]; simpa using hQ, R⟩
  · exact ⟨-101, c, m, fun Q hQ => by unfold wX9_look; rw [x_made0 R.made.2.2 (Or.inr q)]; simpa using hQ, fun Q hQ => by unfold wX10_look; rw [e_made0 R.made.1 R.made.2.1 (Or.inr q)]; simpa using hQ, R⟩
  · obtain ⟨r, c', m', a1, a2, a3⟩ := pub_by (sim_looks R (Or.inr ⟨h, hh, rfl⟩))
    exact ⟨r, c', m', fun Q hQ => by unfold wX9_look; rw [pub_made1 R hh]; exact a1 _ hQ, fun Q hQ => by unfold wX10_look; rw [pub_madeM R hh]; exact a2 _ hQ, a3⟩
end C2

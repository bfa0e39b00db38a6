/-! what run needs of the calls that it makes -/
def SimH (wx wm : (Int32 → gMem → Prop) → Prop) (R : gMem → gMem → Prop) : Prop := ∃ r f c' m', Di wx r c' ∧ Di wm f m' ∧ R c' m' ∧ (f = 0 ∧ m' 0 12 = r ∧ fdA r = 0 ∧ aRg (m' 1) r ∨ ∃ j : Nat, 1 ≤ j ∧ j ≤ 8 ∧ f = nI j ∧ r = (-10) - nI j)
def fdO (r : Int32) : Prop := 0 ≤ r ∨ ((-18) ≤ r ∧ r ≤ (-11))
section RG
variable {T : Nat} {c m : gMem}
theorem sim_getsH {x i : Int32} (R : Rel T c m) (hx : aRg (m 1) x) : SimH (wX0_linkOf x i c) (wX10_gets x i m) (Rel T) := by
  have hM := R.made.2.1
  rcases hx.cases with hg | ⟨h, hh, rfl, hl⟩
  · refine ⟨-11, 1, c, m, fun Q hQ => ?_, fun Q hQ => ?_, R, Or.inr ⟨1, by decide, by decide, rfl, by decide⟩⟩
    · unfold wX0_linkOf; rw [cellLG R hg]; simpa using hQ
    · unfold wX10_gets; rw [e_gone R hg]; simpa using hQ
  obtain ⟨f1, f2, f3, f4, f5, f6, f7, f8, f9, f10, f11, f12, f13, f14, f15, f16⟩ := R.cF hh hl
  by_cases hk : aKd (m 1) h = 2
  · refine ⟨-13, 3, c, m, fun Q hQ => ?_, fun Q hQ => ?_, R, Or.inr ⟨3, by decide, by decide, rfl, by decide⟩⟩
    · unfold wX0_linkOf; rw [cellLR R hh hl, if_pos hk]; simpa using hQ
    · unfold wX10_gets; rw [e_live R hh hl, e_of1 f1, f2, hk]; simpa [show nI 2 = (2 : Int32) from rfl] using hQ
  have hk2 := nI_ne2 f3 hk
  have hsz : aSz (m 1) h ≤ 602 := szN_le f6
  have hm0 : ∀ Q : Int32 → gMem → Prop, (i < 0 ∨ nI (aLk (m 1) h) ≤ i) → Q 2 m → wX10_gets (nI h) i m Q := by
    intro Q q hQ
    unfold wX10_gets; rw [e_live R hh hl, e_of1 f1, f2, e_linksOf f1 f2 f3 f5, e_inN0 (n := lkN (aKd (m 1) h) (aMn (m 1) h)) q (show aLk (m 1) h < 2 ^ 30 by omega)]; simpa [hk2] using hQ
  rcases pk_ix i (n := aLk (m 1) h) (by omega) with q | q | ⟨j, hj, rfl⟩
  · refine ⟨-12, 2, c, m, fun Q hQ => ?_, fun Q hQ => hm0 Q (Or.inl q) hQ, R, Or.inr ⟨2, by decide, by decide, rfl, by decide⟩⟩
    unfold wX0_linkOf wX0_linkOf_p28; rw [cellLR R hh hl, if_neg hk]; simpa [q] using hQ
  · refine ⟨-12, 2, c, m, fun Q hQ => ?_, fun Q hQ => hm0 Q (Or.inr q) hQ, R, Or.inr ⟨2, by decide, by decide, rfl, by decide⟩⟩
    unfold wX0_linkOf wX0_linkOf_p28; rw [cellLR R hh hl, if_neg hk, x_linksOf f1 f11 (by omega) f12 f3 (fun q => f13 (q.elim Or.inl (fun q => Or.inr (Or.inr q))))]
    simp only [show ¬ i < nI (lkN (aKd (m 1) h) (aMn (m 1) h)) from Int32.not_lt.mpr q, true_implies, false_implies, not_false_eq_true, not_true_eq_false, true_and, and_true]
    by_cases hi0 : i < 0 <;> simpa [hi0] using hQ
  · have hw := ln_word R.1.1 R.1.2.1.1 hh hl hj
    have hin := aLn_in R.1.2.1.1.1 R.1.2.1.1.2.1 hh hl hj
    have hlo : aLo (m 1) h = loN (aKd (m 1) h) := rfl
    refine ⟨aLn (m 1) h j, 0, c, mp m 0 12 (aLn (m 1) h j), fun Q hQ => ?_, fun Q hQ => ?_, R.set12 _, Or.inl ⟨rfl, by rw [mp_s, up_s], fdA_hv hM ((R.1.2.1.1.2.2.2.1 h hh hl).1 j hj).rg, by rw [mp_n (by decide)]; exact ((R.1.2.1.1.2.2.2.1 h hh hl).1 j hj).rg⟩⟩
    · unfold wX0_linkOf; rw [cellLR R hh hl, if_neg hk, x_linksOf f1 f11 (by omega) f12 f3 (fun q => f13 (q.elim Or.inl (fun q => Or.inr (Or.inr q)))), x_linkPlace f1 f11 (by omega) f12 f3, nI_add, nI_clamp (by omega)]
      rw [show aPl (m 1) h + loN (aKd (m 1) h) + j = aPl (m 1) h + (aLo (m 1) h + j) by omega]
      simp only [true_implies, nI_pos (show j < 2 ^ 31 by omega), false_implies, not_false_eq_true, true_and, show nI j < nI (lkN (aKd (m 1) h) (aMn (m 1) h)) from nI_lt hj (by show aLk (m 1) h < 2 ^ 31; omega), not_true_eq_false, and_true, vp_in_nI (show aPl (m 1) h + (aLo (m 1) h + j) < 4000 by omega) (show 4000 < 2 ^ 31 by decide), forall_eq, hw]
      exact hQ
    · unfold wX10_gets; rw [e_live R hh hl, e_of1 f1, f2, e_linksOf f1 f2 f3 f5, e_inN1 (n := lkN (aKd (m 1) h) (aMn (m 1) h)) hj (show aLk (m 1) h < 2 ^ 30 by omega), e_linkAt f1 f2 f3 f4, nI_clamp (by omega)]
      have evv : m 1 (6100 + aPl (m 1) h + loN (aKd (m 1) h) + j) = aLn (m 1) h j := rfl
      simp only [hk2, i32_10, true_implies, false_implies, not_false_eq_true, not_true_eq_false, and_true, true_and, vp_in_nI (show 6100 + aPl (m 1) h + loN (aKd (m 1) h) + j < 26100 by omega) (show 26100 < 2 ^ 31 by decide), forall_eq, evv]
      exact hQ
theorem sim_looksH {x : Int32} (R : Rel T c m) (hx : aRg (m 1) x) : SimH (wX0_lookAt x c) (wX10_looks x m) (Rel T) := by
  have hM := R.made.2.1
  rcases hx.cases with hg | ⟨h, hh, rfl, hl⟩
  · refine ⟨-11, 1, c, m, fun Q hQ => ?_, fun Q hQ => ?_, R, Or.inr ⟨1, by decide, by decide, rfl, by decide⟩⟩
    · unfold wX0_lookAt; rw [cellG R hg]; simpa using hQ
    · unfold wX10_looks; rw [e_gone R hg]; simpa using hQ
  have fF := R.cF hh hl
  obtain ⟨f1, f2, f3, f4, f5, f6, f7, f8, f9, f10, f11, f12, f13, f14, f15, f16⟩ := id fF
  rcases Decidable.em (aKd (m 1) h = 3 ∨ aKd (m 1) h = 4) |>.symm with hk | hk
  · have hi : isaN 3 (aKd (m 1) h) = false := by rw [← Bool.not_eq_true]; exact fun q => hk (isaN3.mp q)
    refine ⟨-13, 3, c, m, fun Q hQ => ?_, fun Q hQ => ?_, R, Or.inr ⟨3, by decide, by decide, rfl, by decide⟩⟩
    · unfold wX0_lookAt; rw [cellR R hh hl (w := 3) (x := 3) rfl (by decide), hi]; simpa using hQ
    · unfold wX10_looks; rw [e_live R hh hl, e_isWeak0 f1 f2 f3 hk]; simpa using hQ
  have hz3 : 3 ≤ aSz (m 1) h := by unfold aSz szN; rcases hk with hk | hk <;> rw [hk] <;> simp
  have hv : aHv (m 1) (m 1 (6100 + aPl (m 1) h + 2)) := (R.1.2.1.1.2.2.2.1 h hh hl).2 hk
  have hw := fF.word R.1.1.2.1 (j := 2) (by omega)
  have hmw : m 1 (6100 + aPl (m 1) h + 2) = m 1 (6100 + aPl (m 1) h + 2) := rfl
  generalize hvv : m 1 (6100 + aPl (m 1) h + 2) = v at hv hw
  have hX : ∀ (c' : gMem), Dv (wX7_mark v 4 (nI h) 0 c) c' → Di (wX0_lookAt (nI h) c) v c' := by
    intro c' hd Q hQ
    unfold wX0_lookAt; rw [cellR R hh hl (w := 3) (x := 3) rfl (by decide), isaN3.mpr hk, x_weakPlace f1 f11, nI_clamp (by omega)]
    simp only [if_true, true_implies, not_true_eq_false, false_implies, and_true, vp_in_nI (show aPl (m 1) h + 2 < 4000 by omega) (show 4000 < 2 ^ 31 by decide), true_and, forall_eq, hw]
    exact hd _ hQ
  have R1 := R.set12 v
  have hm1 : mp m 0 12 v 1 = m 1 := mp_n (by decide)
  have hgot : mp m 0 12 v 0 12 = v := by rw [mp_s, up_s]
  have hMm : ∀ (m' : gMem), (m 1 3 = 1 → Dv (wX10_mark v 4 (nI h) 0 (mp m 0 12 v)) m') → (¬ m 1 3 = 1 → m' = mp m 0 12 v) → Di (wX10_looks (nI h) m) 0 m' := by
    intro m' h1 h2 Q hQ
    unfold wX10_looks; rw [e_live R hh hl, e_isWeak1 f1 f2 hk, e_weakAt f1 f4, nI_clamp (by omega)]
    simp only [i32_10, true_implies, not_true_eq_false, false_implies, not_false_eq_true, and_true, vp_in_nI (show 6100 + aPl (m 1) h + 2 < 26100 by omega) (show 26100 < 2 ^ 31 by decide), true_and, forall_eq, hvv, hm1, hgot]
    refine ⟨fun q => h1 q _ hQ, fun q => ?_⟩
    rw [← h2 q]; exact hQ
  rcases R.1.2.1.2.1.1.1 with h3 | h3
  · have c6 : c 6 0 = 0 := by rw [← h3]; exact R.1.1.2.2.2.1.1
    refine ⟨v, 0, c, mp m 0 12 v, hX c (fun Q hQ => by rw [x_markOff c6]; exact hQ), hMm _ (fun q => absurd (h3.symm.trans q) (by decide)) (fun _ => rfl), R1, Or.inl ⟨rfl, hgot, fdA_hv hM hv.rg, by rw [hm1]; exact hv.rg⟩⟩
  · obtain ⟨c1, X1, M1, r1, S1, MS1, F1⟩ := sim_mark (w := 4) (a := nI h) (b := 0) R.1.1 R.1.2.1 hv h3
    have M' := M1 (mp m 0 12 v)
    rw [mr12] at M'
    have R2 := R1.now (Nat.le_refl _) r1 ⟨S1, MS1.L R.1.2.1.1 R.1.2.1.2.1 R.1.2.2⟩ (fun q hq => F1 q (by omega)) (by rw [hm1]; exact MS1.1.1.1 0 (by simp))
    refine ⟨v, 0, c1, _, hX c1 X1, hMm _ (fun _ => M') (fun q => absurd h3 q), R2, Or.inl ⟨rfl, by rw [mr_n (by decide)]; exact hgot, fdA_hv hM hv.rg, by rw [mr_s]; exact hv.rg.imp id (fun ⟨t, a, b⟩ => ⟨t, by rw [MS1.1.1.m]; exact a, b⟩)⟩⟩
theorem fd_of {r : Int32} (h : fdO r) {Q : Int32 → gMem → Prop} : wX10_findingOf r m Q = Q (fdA r) m := by
  unfold wX10_findingOf
  rcases h with h | ⟨h1, h2⟩
  · have e : fdA r = 0 := by
      unfold fdA
      rw [if_neg]
      rintro ⟨_, z⟩
      have a := Int32.le_iff_toInt_le.mp h
      have b := Int32.le_iff_toInt_le.mp z
      have z0 : (0 : Int32).toInt = 0 := by decide
      have z1 : (-11 : Int32).toInt = -11 := by decide
      omega
    simp only [h, e, true_implies, not_true_eq_false, false_implies, and_true]
  · have n0 : ¬ 0 ≤ r := fun z => by
      have a := Int32.le_iff_toInt_le.mp z
      have b := Int32.le_iff_toInt_le.mp h2
      have z0 : (0 : Int32).toInt = 0 := by decide
      have z1 : (-11 : Int32).toInt = -11 := by decide
      omega
    have e : fdA r = (-10) - r := by unfold fdA; rw [if_pos ⟨h1, h2⟩]
    simp only [n0, e, true_implies, not_false_eq_true, false_implies, true_and]
theorem rg_wrongForLinks {l1 : Int32} {Q : Int32 → gMem → Prop} (h : wX0_wrongForLinks l1 c Q) : ∃ r c', Q r c' ∧ fdO r := by
  unfold wX0_wrongForLinks at h
  obtain ⟨r2, c1, h, -⟩ := fr_wX2_has h
  by_cases hc : r2 = 0
  · exact ⟨_, c1, h.1 hc, by unfold fdO; decide⟩
  · have h := h.2 hc
    obtain ⟨r5, c4, h, -⟩ := fr_wX2_isA h
    by_cases hc : r5 = 0
    · exact ⟨_, c4, h.1 hc, by unfold fdO; decide⟩
    · exact ⟨_, c4, h.2 hc, by unfold fdO; decide⟩
theorem rg_wrongAs {l1 l2 : Int32} {Q : Int32 → gMem → Prop} (h : wX0_wrongAs l1 l2 c Q) : ∃ r c', Q r c' ∧ fdO r := by
  unfold wX0_wrongAs at h
  obtain ⟨r2, c1, h, -⟩ := fr_wX2_has h
  by_cases hc : r2 = 0
  · exact ⟨_, c1, h.1 hc, by unfold fdO; decide⟩
  · have h := h.2 hc
    obtain ⟨r5, c4, h, -⟩ := fr_wX2_isA h
    by_cases hc : r5 = 0
    · exact ⟨_, c4, h.1 hc, by unfold fdO; decide⟩
    · exact ⟨_, c4, h.2 hc, by unfold fdO; decide⟩
theorem rg_setLink {l1 l2 l3 : Int32} {Q : Int32 → gMem → Prop} (h : wX0_setLink l1 l2 l3 c Q) : ∃ r c', Q r c' ∧ fdO r := by
  unfold wX0_setLink at h
  obtain ⟨r2, c1, h, hr⟩ := rg_wrongForLinks h
  by_cases hc : r2 = 0
  · have h := h.1 hc
    obtain ⟨r5, c4, h, -⟩ := fr_wX0_isGoneTarget h
    by_cases hc : r5 = 0
    · have h := h.1 hc
      by_cases hc : l2 < 0
      · exact ⟨_, c4, h.1 hc, by unfold fdO; decide⟩
      · have h := h.2 hc
        obtain ⟨r9, c8, h, -⟩ := fr_wX2_linksOf h
        by_cases hc : l2 < r9
        · have h := h.1 hc
          obtain ⟨c11, h, -⟩ := fr_wX0_changeLink h
          exact ⟨_, c11, h, by unfold fdO; decide⟩
        · exact ⟨_, c8, h.2 hc, by unfold fdO; decide⟩
    · exact ⟨_, c4, h.2 hc, by unfold fdO; decide⟩
  · exact ⟨_, c1, h.2 hc, hr⟩
theorem rg_setWeakLink {l1 l2 : Int32} {Q : Int32 → gMem → Prop} (h : wX0_setWeakLink l1 l2 c Q) : ∃ r c', Q r c' ∧ fdO r := by
  unfold wX0_setWeakLink at h
  obtain ⟨r2, c1, h, hr⟩ := rg_wrongAs h
  by_cases hc : r2 = 0
  · have h := h.1 hc
    obtain ⟨r5, c4, h, -⟩ := fr_wX0_isGoneTarget h
    by_cases hc : r5 = 0
    · have h := h.1 hc
      obtain ⟨r8, c7, h, -⟩ := fr_wX2_weakPlace h
      exact ⟨_, _, h.2 _ rfl, by unfold fdO; decide⟩
    · exact ⟨_, c4, h.2 hc, by unfold fdO; decide⟩
  · exact ⟨_, c1, h.2 hc, hr⟩
theorem rg_setShelf {l1 l2 l3 : Int32} {Q : Int32 → gMem → Prop} (h : wX0_setShelf l1 l2 l3 c Q) : ∃ r c', Q r c' ∧ fdO r := by
  unfold wX0_setShelf wX0_setShelf_p44 at h
  obtain ⟨r2, c1, h, -⟩ := fr_wX0_isGoneTarget h
  by_cases hc : r2 = 0
  · have h := h.1 hc
    by_cases hc : l2 < 0
    · exact ⟨_, c1, h.1 hc, by unfold fdO; decide⟩
    · have h := h.2 hc
      by_cases hc : l2 < 8
      · have h := h.1 hc
        by_cases hc : l3 = -1
        · exact ⟨_, _, (h.1 hc).2 _ rfl, by unfold fdO; decide⟩
        · have h := h.2 hc
          obtain ⟨r8, c7, h, -⟩ := fr_wX2_isA h
          by_cases hc : r8 = 0
          · exact ⟨_, c7, h.1 hc, by unfold fdO; decide⟩
          · exact ⟨_, _, (h.2 hc).2 _ rfl, by unfold fdO; decide⟩
      · exact ⟨_, c1, h.2 hc, by unfold fdO; decide⟩
  · exact ⟨_, c1, h.2 hc, by unfold fdO; decide⟩
/-- an end that was reached is the only one -/
theorem Di.fr {w : (Int32 → gMem → Prop) → Prop} {r : Int32} {c c' : gMem} (hd : Di w r c') (hf : ∀ Q : Int32 → gMem → Prop, w Q → ∃ r c', Q r c' ∧ c' 17 = c 17) : c' 17 = c 17 := by
  obtain ⟨r2, c2, ⟨_, h2⟩, h3⟩ := hf _ (hd (fun r2 c2 => r2 = r ∧ c2 = c') ⟨rfl, rfl⟩)
  rw [← h2]; exact h3
theorem Di.rg {w : (Int32 → gMem → Prop) → Prop} {r : Int32} {c' : gMem} (hd : Di w r c') (hf : ∀ Q : Int32 → gMem → Prop, w Q → ∃ r c', Q r c' ∧ fdO r) : fdO r := by
  obtain ⟨r2, c2, ⟨h1, _⟩, h3⟩ := hf _ (hd (fun r2 c2 => r2 = r ∧ c2 = c') ⟨rfl, rfl⟩)
  rw [← h1]; exact h3
/-- a register is set -/
theorem Rel.reg {r : Nat} {v : Int32} (R : Rel T c m) (hr : r < 8) (hv : aRg (m 1) v) : Rel T (mp c 19 r v) (mp m 1 (76 + r) v) := by
  obtain ⟨n, j, i1, i2, i3, i4, i5⟩ := R.1.2.1.2.2.2.2
  have r9 := R.1.1.2.2.2.2.2.2.2.2.1
  have e : mp m 1 (76 + r) v = mr m 1 (upd (m 1) (76 + r) v) := rfl
  rw [e]
  refine pg_now R (fun q h1 h2 h3 => up_n (by omega)) (fun i hi => mp_n (by omega)) ⟨n, j, by rw [up_n (by omega)]; exact i1, i2, by rw [up_n (by omega)]; exact i3, i4, fun q hq => by rw [up_n (by omega), up_n (by omega), up_n (by omega), up_n (by omega)]; exact i5 q hq⟩ (fun q hq => ?_) ⟨fun k hk => ?_, fun k hk => ?_, fun q hq => ?_⟩
  · by_cases e : q = r
    · subst e; rw [up_s]; exact hv
    · rw [up_n (by omega)]; exact R.1.2.1.1.2.2.2.2.2.2 q hq
  · show mp c 19 r v 17 k = _
    rw [mp_n (by decide), up_n (by omega)]; exact r9.1 k hk
  · have hn : nn (upd (m 1) (76 + r) v) 11 = nn (m 1) 11 := nn_cong (up_n (by omega))
    rw [hn] at hk
    have h40 : nn (m 1) 11 = n := nn_nI i1 (by omega)
    show mp c 19 r v 18 k = _
    rw [mp_n (by decide), up_n (by omega)]; exact r9.2.1 k hk
  · show mp c 19 r v 19 q = _
    rw [mp_s]
    by_cases e : q = r
    · subst e; rw [up_s, up_s]
    · rw [up_n e, up_n (by omega)]; exact r9.2.2 q hq
theorem into_ok {ra : Nat} {r : Int32} (R : Rel T c m) (ha : ra < 8) (hg : m 0 12 = r) (hr : aRg (m 1) r) : ∃ c' m', (∀ Q : Int32 → gMem → Prop, Q r c' → wX9_intoRegister (nI ra) r c Q) ∧ (∀ Q : Int32 → gMem → Prop, Q 0 m' → wX10_into (nI ra) 0 m Q) ∧ Rel T c' m' ∧ c' 17 = c 17 := by
  refine ⟨mp c 19 ra r, mp m 1 (76 + ra) r, fun Q hQ => ?_, fun Q hQ => ?_, R.reg ha hr, mp_n (by decide)⟩
  · unfold wX9_intoRegister
    rw [x_findingIn, fdA_hv R.made.2.1 hr, nI_clamp (by omega)]
    simp only [true_implies, not_true_eq_false, false_implies, and_true, forall_eq]
    exact ⟨vp_in_nI ha (by decide), hQ⟩
  · unfold wX10_into wX10_into_p28
    rw [show (76 : Int32) + nI ra = nI (76 + ra) from nI_add 76 _, nI_clamp (by omega)]
    simp only [true_implies, not_true_eq_false, false_implies, and_true, forall_eq, hg]
    exact ⟨vp_in_nI (by omega) (by decide), hQ⟩
theorem into_no {ra j : Nat} (ha : ra < 8) (h1 : 1 ≤ j) (h8 : j ≤ 8) : (∀ Q : Int32 → gMem → Prop, Q ((-10) - nI j) c → wX9_intoRegister (nI ra) ((-10) - nI j) c Q) ∧ (∀ Q : Int32 → gMem → Prop, Q (nI j) m → wX10_into (nI ra) (nI j) m Q) := by
  have nz : ¬ nI j = 0 := fun q => by have := nI_inj (b := 0) (by omega) (by decide) q; omega
  refine ⟨fun Q hQ => ?_, fun Q hQ => ?_⟩
  · unfold wX9_intoRegister
    rw [x_findingIn, fdA_fl h1 h8]
    simp only [nz, true_implies, not_false_eq_true, false_implies, true_and]; exact hQ
  · unfold wX10_into wX10_into_p28
    rw [show (76 : Int32) + nI ra = nI (76 + ra) from nI_add 76 _, nI_clamp (by omega)]
    simp only [nz, true_implies, not_false_eq_true, false_implies, true_and, forall_eq]
    rw [mp_id rfl]
    exact ⟨vp_in_nI (by omega) (by decide), vp_in_nI (by omega) (by decide), hQ⟩
end RG

/-! put, byteAt, key, find -/
section C4
variable {T : Nat} {c m : gMem}
theorem sh_q {j : Nat} (hj : j < 2 ^ 20) : 8 * (nI j - (nI j / 4) * 4) = nI (8 * (j % 4)) := by
  have e := pk_rem (a := j) (d := 4) (by omega) (by decide) (by decide)
  rw [show nI 4 = (4 : Int32) from rfl] at e
  rw [e, show (8 : Int32) = nI 8 from rfl, pk_mul]
theorem dv_q {j : Nat} (hj : j < 2 ^ 20) : nI j / 4 = nI (j / 4) := pk_div (d := 4) (by omega) (by decide) (by decide)
/-- the byte j of a word -/
def byN (w : Int32) (j : Nat) : Int32 := (w >>> (nI (8 * (j % 4)) &&& 31)) &&& 255
def byW (w : Int32) (j : Nat) (v : Int32) : Int32 := (w &&& ((255 <<< (nI (8 * (j % 4)) &&& 31)) ^^^ (-1))) ||| ((v &&& 255) <<< (nI (8 * (j % 4)) &&& 31))
theorem byN_in (w : Int32) (j : Nat) : ∃ b : Nat, b < 256 ∧ byN w j = nI b := by
  unfold byN
  exact pk_andE _ 8 (by decide)
theorem byte_facts (R : Rel T c m) {h j : Nat} (hh : h < zM (m 1)) (hl : aLv (m 1) h) (hk : aKd (m 1) h = 2) (hj : j < aMn (m 1) h) : 2 + j / 4 < aSz (m 1) h ∧ aSz (m 1) h ≤ 602 := by
  obtain ⟨f1, f2, f3, f4, f5, f6, f7, f8, f9, f10, f11, f12, f13, f14, f15, f16⟩ := R.cF hh hl
  refine ⟨?_, szN_le f6⟩
  unfold aSz szN; rw [hk]; simp; omega
/-- byteOf() where there is such a byte -/
theorem x_byteOf (R : Rel T c m) {h j : Nat} (hh : h < zM (m 1)) (hl : aLv (m 1) h) (hk : aKd (m 1) h = 2) (hj : j < aMn (m 1) h) {Q : Int32 → gMem → Prop} : wX0_byteOf (nI h) (nI j) c Q = Q (byN (m 1 (6100 + aPl (m 1) h + (2 + j / 4))) j) c := by
  have fF := R.cF hh hl
  obtain ⟨f1, f2, f3, f4, f5, f6, f7, f8, f9, f10, f11, f12, f13, f14, f15, f16⟩ := id fF
  obtain ⟨g1, g2⟩ := byte_facts R hh hl hk hj
  have hw := fF.word R.1.1.2.1 g1
  have e1 : nI (aPl (m 1) h) + 2 + nI (j / 4) = nI (aPl (m 1) h + (2 + j / 4)) := by
    rw [show (2 : Int32) = nI 2 from rfl, nI_add, nI_add]; congr 1; omega
  unfold wX0_byteOf
  rw [cellR R hh hl (w := 2) (x := 2) rfl (by decide), isaN2.mpr hk, x_countOf f1 f11 (by omega), f13 (Or.inr (Or.inl hk)), sh_q (by omega), dv_q (by omega)]
  simp only [if_true, true_implies, not_true_eq_false, false_implies, and_true, nI_pos (show j < 2 ^ 31 by omega), not_false_eq_true, true_and, nI_lt hj (show aMn (m 1) h < 2 ^ 31 by omega), vp_in_nI f1 (show 500 < 2 ^ 31 by decide), nI_clamp (show h < 2 ^ 31 by omega), forall_eq, f11, e1, vp_in_nI (show aPl (m 1) h + (2 + j / 4) < 4000 by omega) (show 4000 < 2 ^ 31 by decide), nI_clamp (show aPl (m 1) h + (2 + j / 4) < 2 ^ 31 by omega), hw]
  rw [byte_eq _ (Nat.mod_lt _ (by decide))]
  rfl
theorem x_byteOfF (R : Rel T c m) {h : Nat} {i : Int32} (hh : h < zM (m 1)) (hl : aLv (m 1) h) (hk : aKd (m 1) h = 2) (hi : i < 0 ∨ nI (aMn (m 1) h) ≤ i) {Q : Int32 → gMem → Prop} : wX0_byteOf (nI h) i c Q = Q (-12) c := by
  have fF := R.cF hh hl
  obtain ⟨f1, f2, f3, f4, f5, f6, f7, f8, f9, f10, f11, f12, f13, f14, f15, f16⟩ := id fF
  unfold wX0_byteOf
  rw [cellR R hh hl (w := 2) (x := 2) rfl (by decide), isaN2.mpr hk]
  by_cases h0 : i < 0
  · simp [h0]
  · rw [x_countOf f1 f11 (by omega), f13 (Or.inr (Or.inl hk))]
    simp only [if_true, h0, true_implies, not_true_eq_false, false_implies, and_true, not_false_eq_true, true_and, show ¬ i < nI (aMn (m 1) h) from Int32.not_lt.mpr (hi.resolve_left h0)]
theorem e_byteF (R : Rel T c m) {x i : Int32} (hx : aRg (m 1) x) : (∃ f : Nat, 1 ≤ f ∧ f ≤ 3 ∧ (∀ Q : Int32 → gMem → Prop, wX10_byteFails x i m Q = Q (nI f) m) ∧ ∀ Q : Int32 → gMem → Prop, wX0_byteOf x i c Q = Q ((-10) - nI f) c) ∨ ∃ h j : Nat, x = nI h ∧ i = nI j ∧ h < zM (m 1) ∧ aLv (m 1) h ∧ aKd (m 1) h = 2 ∧ j < aMn (m 1) h ∧ ∀ Q : Int32 → gMem → Prop, wX10_byteFails x i m Q = Q 0 m := by
  have hM := R.made.2.1
  rcases hx.cases with hg | ⟨h, hh, rfl, hl⟩
  · refine Or.inl ⟨1, by decide, by decide, fun Q => ?_, fun Q => ?_⟩
    · unfold wX10_byteFails; rw [e_gone R hg]; simp [show nI 1 = (1 : Int32) from rfl]
    · unfold wX0_byteOf; rw [cellG R hg]; simp [show ((-10 : Int32) - nI 1) = -11 by decide]
  obtain ⟨f1, f2, f3, f4, f5, f6, f7, f8, f9, f10, f11, f12, f13, f14, f15, f16⟩ := R.cF hh hl
  by_cases hk : aKd (m 1) h = 2
  · rcases pk_ix i (n := aMn (m 1) h) (by omega) with q | q | ⟨j, hj, rfl⟩
    · refine Or.inl ⟨2, by decide, by decide, fun Q => ?_, fun Q => x_byteOfF R hh hl hk (Or.inl q)⟩
      unfold wX10_byteFails; rw [e_live R hh hl, e_of1 f1, f2, hk, e_of3 f1, f5, e_inN0 (Or.inl q) (by omega)]; simp [show nI 2 = (2 : Int32) from rfl]
    · refine Or.inl ⟨2, by decide, by decide, fun Q => ?_, fun Q => x_byteOfF R hh hl hk (Or.inr q)⟩
      unfold wX10_byteFails; rw [e_live R hh hl, e_of1 f1, f2, hk, e_of3 f1, f5, e_inN0 (Or.inr q) (by omega)]; simp [show nI 2 = (2 : Int32) from rfl]
    · refine Or.inr ⟨h, j, rfl, rfl, hh, hl, hk, hj, fun Q => ?_⟩
      unfold wX10_byteFails; rw [e_live R hh hl, e_of1 f1, f2, hk, e_of3 f1, f5, e_inN1 hj (by omega)]; simp [show nI 2 = (2 : Int32) from rfl]
  · have hi : isaN 2 (aKd (m 1) h) = false := by rw [← Bool.not_eq_true]; exact fun q => hk (isaN2.mp q)
    refine Or.inl ⟨3, by decide, by decide, fun Q => ?_, fun Q => ?_⟩
    · unfold wX10_byteFails; rw [e_live R hh hl, e_of1 f1, f2]; simp [nI_ne2 f3 hk, show nI 3 = (3 : Int32) from rfl]
    · unfold wX0_byteOf; rw [cellR R hh hl (w := 2) (x := 2) rfl (by decide), hi]; simp [show ((-10 : Int32) - nI 3) = -13 by decide]
theorem nI_flt {f : Nat} (h1 : 1 ≤ f) (h3 : f ≤ 8) : (-10 : Int32) - nI f < 0 := by
  rcases (by omega : f = 1 ∨ f = 2 ∨ f = 3 ∨ f = 4 ∨ f = 5 ∨ f = 6 ∨ f = 7 ∨ f = 8) with rfl | rfl | rfl | rfl | rfl | rfl | rfl | rfl <;> decide
theorem e_at {p j : Nat} : ((6100 : Int32) + nI p) + 2 + nI (j / 4) = nI (6100 + p + (2 + j / 4)) := by
  rw [show (6100 : Int32) = nI 6100 from rfl, show (2 : Int32) = nI 2 from rfl, nI_add, nI_add, nI_add]; congr 1; omega
theorem sim_puts {x i v : Int32} (R : Rel T c m) (hx : aRg (m 1) x) : SimG (wX0_setByte x i v c) (wX10_puts x i v m) (Rel T) := by
  rcases e_byteF (i := i) R hx with ⟨f, g1, g3, gm, gx⟩ | ⟨h, j, rfl, rfl, hh, hl, hk, hj, gm⟩
  · refine ⟨(-10) - nI f, nI f, c, m, fun Q hQ => ?_, fun Q hQ => ?_, R, Or.inr ⟨f, g1, by omega, rfl, rfl⟩⟩
    · unfold wX0_setByte; rw [gx]
      simp only [nI_flt g1 (by omega : f ≤ 8), true_implies, not_true_eq_false, false_implies, and_true]; exact hQ
    · unfold wX10_puts; rw [gm]
      simp only [nI_ne0 (show 0 < f by omega) (show f < 2 ^ 31 by omega), false_implies, not_false_eq_true, true_implies, true_and]; exact hQ
  · have fF := R.cF hh hl
    obtain ⟨f1, f2, f3, f4, f5, f6, f7, f8, f9, f10, f11, f12, f13, f14, f15, f16⟩ := id fF
    obtain ⟨g1, g2⟩ := byte_facts R hh hl hk hj
    have hw := fF.word R.1.1.2.1 g1
    have hlk : aLk (m 1) h = 0 := by unfold aLk lkN; rw [hk]; simp
    obtain ⟨b, hb, eb⟩ := byN_in (m 1 (6100 + aPl (m 1) h + (2 + j / 4))) j
    have hS := wr_S0 (v := byW (m 1 (6100 + aPl (m 1) h + (2 + j / 4))) j v) (j := 2 + j / 4) R.1.2.1 hh hl (by omega) g1 (fun _ => by omega) ⟨fun i hi => by omega, fun q => by omega⟩
    have hL := wr_L (v := byW (m 1 (6100 + aPl (m 1) h + (2 + j / 4))) j v) (j := 2 + j / 4) R.1.2.1 hh hl g1 (fun i hi => by omega) R.1.2.2
    have hR := wr_SR (v := byW (m 1 (6100 + aPl (m 1) h + (2 + j / 4))) j v) R.1.1 R.1.2.1 (p := aPl (m 1) h + (2 + j / 4)) (by omega)
    have R1 := R.set12 (byN (m 1 (6100 + aPl (m 1) h + (2 + j / 4))) j)
    have hm1 : ∀ v : Int32, mp m 0 12 v 1 = m 1 := fun v => mp_n (by decide)
    have R2 := R1.now (Nat.le_refl _) hR ⟨hS, hL⟩ (fun q hq => mp_n (by omega)) (by rw [hm1]; exact up_n (by omega))
    have e1 : nI (aPl (m 1) h) + 2 + nI (j / 4) = nI (aPl (m 1) h + (2 + j / 4)) := by
      rw [show (2 : Int32) = nI 2 from rfl, nI_add, nI_add]; congr 1; omega
    refine ⟨_, 0, _, _, fun Q hQ => ?_, fun Q hQ => ?_, R2, Or.inl ⟨rfl, by rw [mr_n (by decide), mp_s, up_s], by rw [eb]; exact fdA_nI (by omega)⟩⟩
    · unfold wX0_setByte; rw [x_byteOf R hh hl hk hj, sh_q (by omega), dv_q (by omega)]
      simp only [eb, nI_pos (show b < 2 ^ 31 by omega), true_implies, not_false_eq_true, false_implies, true_and, vp_in_nI f1 (show 500 < 2 ^ 31 by decide), nI_clamp (show h < 2 ^ 31 by omega), forall_eq, f11, e1, vp_in_nI (show aPl (m 1) h + (2 + j / 4) < 4000 by omega) (show 4000 < 2 ^ 31 by decide), nI_clamp (show aPl (m 1) h + (2 + j / 4) < 2 ^ 31 by omega), hw]
      rw [eb] at hQ
      exact hQ
    · unfold wX10_puts; rw [gm, e_of2 f1, f4, sh_q (by omega), dv_q (by omega), e_at]
      simp only [true_implies, not_true_eq_false, false_implies, and_true, vp_in_nI (show 6100 + aPl (m 1) h + (2 + j / 4) < 26100 by omega) (show 26100 < 2 ^ 31 by decide), nI_clamp (show 6100 + aPl (m 1) h + (2 + j / 4) < 2 ^ 31 by omega), true_and, forall_eq, hm1]
      have e5 : ∀ (a b : Int32), mp (mp m 0 12 a) 1 (6100 + aPl (m 1) h + (2 + j / 4)) b = mr (mp m 0 12 a) 1 (upd (m 1) (6100 + (aPl (m 1) h + (2 + j / 4))) b) := by
        intro a b
        unfold mp; rw [mr_n (by decide), Nat.add_assoc 6100]
      rw [e5]
      exact hQ
theorem op_put {l1 l2 l3 : Int32} (R : Rel T c m) : Sim (wX9_put l1 l2 l3 c) (wX10_put l1 l2 l3 m) (Rel T) := by
  rcases pk_ix l1 (n := zM (m 1)) (by have := R.made.2.1; omega) with q | q | ⟨h, hh, rfl⟩
  · exact ⟨-101, c, m, fun Q hQ => by unfold wX9_put; rw [x_made0 R.made.2.2 (Or.inl q)]; simpa using hQ, fun Q hQ => by unfold wX10_put; rw [e_made0 R.made.1 R.made.2.1 (Or.inl q)]; simpa using hQ, R⟩
  · exact ⟨-101, c, m, fun Q hQ => by unfold wX9_put; rw [x_made0 R.made.2.2 (Or.inr q)]; simpa using hQ, fun Q hQ => by unfold wX10_put; rw [e_made0 R.made.1 R.made.2.1 (Or.inr q)]; simpa using hQ, R⟩
  · obtain ⟨r, c', m', a1, a2, a3⟩ := pub_by (sim_puts (i := l2) (v := l3) R (Or.inr ⟨h, hh, rfl⟩))
    exact ⟨r, c', m', fun Q hQ => by unfold wX9_put; rw [pub_made1 R hh]; exact a1 _ hQ, fun Q hQ => by unfold wX10_put; rw [pub_madeM R hh]; exact a2 _ hQ, a3⟩
theorem op_byteAt {l1 l2 : Int32} (R : Rel T c m) : Sim (wX9_byteAt l1 l2 c) (wX10_byteAt l1 l2 m) (Rel T) := by
  rcases pk_ix l1 (n := zM (m 1)) (by have := R.made.2.1; omega) with q | q | ⟨h, hh, rfl⟩
  · exact ⟨-101, c, m, fun Q hQ => by unfold wX9_byteAt; rw [x_made0 R.made.2.2 (Or.inl q)]; simpa using hQ, fun Q hQ => by unfold wX10_byteAt; rw [e_made0 R.made.1 R.made.2.1 (Or.inl q)]; simpa using hQ, R⟩
  · exact ⟨-101, c, m, fun Q hQ => by unfold wX9_byteAt; rw [x_made0 R.made.2.2 (Or.inr q)]; simpa using hQ, fun Q hQ => by unfold wX10_byteAt; rw [e_made0 R.made.1 R.made.2.1 (Or.inr q)]; simpa using hQ, R⟩
  · rcases e_byteF (i := l2) R (Or.inr ⟨h, hh, rfl⟩) with ⟨f, g1, g3, gm, gx⟩ | ⟨h', j, e1, rfl, hh', hl, hk, hj, gm⟩
    · have R1 := R.set12 0
      refine ⟨(-10) - nI f, _, _, fun Q hQ => ?_, fun Q hQ => ?_, R1.set5 (nI f)⟩
      · unfold wX9_byteAt; rw [pub_made1 R hh, gx, x_answer, fdA_fl g1 (by omega)]; exact hQ
      · unfold wX10_byteAt wX10_byteAt_p59; rw [pub_madeM R hh, gm]
        simp only [nI_nle (show 0 < f by omega) (show f < 2 ^ 31 by omega), false_implies, not_false_eq_true, true_implies, true_and, forall_eq]
        rw [e_byF (nI_nle (show 0 < f by omega) (show f < 2 ^ 31 by omega))]; exact hQ
    · have : h = h' := nI_inj (by have := R.made.2.1; omega) (by have := R.made.2.1; omega) e1
      subst this
      have fF := R.cF hh hl
      obtain ⟨f1, f2, f3, f4, f5, f6, f7, f8, f9, f10, f11, f12, f13, f14, f15, f16⟩ := id fF
      obtain ⟨g1, g2⟩ := byte_facts R hh hl hk hj
      obtain ⟨b, hb, eb⟩ := byN_in (m 1 (6100 + aPl (m 1) h + (2 + j / 4))) j
      have R1 := R.set12 (byN (m 1 (6100 + aPl (m 1) h + (2 + j / 4))) j)
      refine ⟨byN (m 1 (6100 + aPl (m 1) h + (2 + j / 4))) j, _, _, fun Q hQ => ?_, fun Q hQ => ?_, R1.set5 0⟩
      · unfold wX9_byteAt; rw [pub_made1 R hh, x_byteOf R hh hl hk hj, x_answer, eb, fdA_nI (by omega), ← eb]; exact hQ
      · unfold wX10_byteAt wX10_byteAt_p59; rw [pub_madeM R hh, gm, e_of2 f1, f4, sh_q (by omega), dv_q (by omega), e_at]
        simp only [Int32.le_refl, true_implies, not_true_eq_false, false_implies, and_true, vp_in_nI (show 6100 + aPl (m 1) h + (2 + j / 4) < 26100 by omega) (show 26100 < 2 ^ 31 by decide), nI_clamp (show 6100 + aPl (m 1) h + (2 + j / 4) < 2 ^ 31 by omega), true_and, forall_eq]
        rw [e_by0, mp_s, up_s]; exact hQ
end C4

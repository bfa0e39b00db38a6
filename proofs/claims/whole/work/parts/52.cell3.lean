/-! number, put, byteAt, key, find -/
section C3
variable {T : Nat} {c m : gMem}
theorem by_wrong {wx : (Int32 → gMem → Prop) → Prop} {wm : (Int32 → gMem → Prop) → Prop} (R : Rel T c m) (r f : Int32) (h1 : ∀ Q : Int32 → gMem → Prop, Q r (mp c 0 5 f) → wx Q) (h2 : ∀ Q : Int32 → gMem → Prop, Q r (mp m 0 5 f) → wm Q) : Sim wx wm (Rel T) := ⟨_, _, _, h1, h2, R.set5 _⟩
theorem fd11 : fdA (-11) = 1 := by decide
theorem fd12 : fdA (-12) = 2 := by decide
theorem fd13 : fdA (-13) = 3 := by decide
theorem isaN4 {k : Nat} : isaN 4 k = true ↔ k = 4 := by unfold isaN; simp
theorem isaN2 {k : Nat} : isaN 2 k = true ↔ k = 2 := by unfold isaN; simp
theorem isaN5 {k : Nat} : isaN 5 k = true ↔ k = 5 := by unfold isaN; simp
theorem op_number {l1 l2 : Int32} (R : Rel T c m) : Sim (wX9_number l1 l2 c) (wX10_number l1 l2 m) (Rel T) := by
  have hM := R.made.2.1
  rcases pk_ix l1 (n := zM (m 1)) (by omega) with q | q | ⟨h, hh, rfl⟩
  · exact ⟨-101, c, m, fun Q hQ => by unfold wX9_number; rw [x_made0 R.made.2.2 (Or.inl q)]; simpa using hQ, fun Q hQ => by unfold wX10_number; rw [e_made0 R.made.1 R.made.2.1 (Or.inl q)]; simpa using hQ, R⟩
  · exact ⟨-101, c, m, fun Q hQ => by unfold wX9_number; rw [x_made0 R.made.2.2 (Or.inr q)]; simpa using hQ, fun Q hQ => by unfold wX10_number; rw [e_made0 R.made.1 R.made.2.1 (Or.inr q)]; simpa using hQ, R⟩
  · by_cases hl : aLv (m 1) h
    · have fF := R.cF hh hl
      obtain ⟨f1, f2, f3, f4, f5, f6, f7, f8, f9, f10, f11, f12, f13, f14, f15, f16⟩ := id fF
      by_cases hk : aKd (m 1) h = 4
      · have hz : aSz (m 1) h = 4 := by unfold aSz szN; rw [hk]; simp
        have hlk : ∀ i, i < aLk (m 1) h → 3 ≠ aLo (m 1) h + i := by
          intro i hi
          unfold aLk lkN at hi; unfold aLo loN
          rw [hk] at hi ⊢; simp at hi ⊢; omega
        have hw := fF.word R.1.1.2.1 (j := 3) (by omega)
        have hS := wr_S0 (v := l2) (j := 3) R.1.2.1 hh hl (by decide) (by omega) (fun _ => by decide) ⟨fun i hi q => absurd q (hlk i hi), fun _ q => absurd q (by decide)⟩
        have hL := wr_L (v := l2) (j := 3) R.1.2.1 hh hl (by omega) hlk R.1.2.2
        have hR := wr_SR (v := l2) R.1.1 R.1.2.1 (p := aPl (m 1) h + 3) (by omega)
        have e3 : nI (aPl (m 1) h) + 3 = nI (aPl (m 1) h + 3) := nI_add _ 3
        have e4 : nI (6100 + aPl (m 1) h + 2) + 1 = nI (6100 + aPl (m 1) h + 3) := nI_1 _
        have R1 := R.set12 (m 1 (6100 + aPl (m 1) h + 3))
        have hm1 : ∀ v : Int32, mp m 0 12 v 1 = m 1 := fun v => mp_n (by decide)
        have R2 := (R1.now (Nat.le_refl _) hR ⟨hS, hL⟩ (fun q hq => mp_n (by omega)) (by rw [hm1]; exact up_n (by omega))).set5 0
        refine ⟨m 1 (6100 + aPl (m 1) h + 3), _, _, fun Q hQ => ?_, fun Q hQ => ?_, R2⟩
        · unfold wX9_number
          rw [pub_made1 R hh, cellR R hh hl (w := 4) (x := 4) rfl (by decide), isaN4.mpr hk, x_answer]
          unfold wX2_swapNumber
          simp only [if_true, true_implies, not_true_eq_false, false_implies, and_true, vp_in_nI f1 (show 500 < 2 ^ 31 by decide), nI_clamp (show h < 2 ^ 31 by omega), true_and, forall_eq, mp_n (show (4 : Nat) ≠ 0 by decide), mp_n (show (3 : Nat) ≠ 0 by decide), f11, e3, vp_in_nI (show aPl (m 1) h + 3 < 4000 by omega) (show 4000 < 2 ^ 31 by decide), nI_clamp (show aPl (m 1) h + 3 < 2 ^ 31 by omega), hw, show fdA 0 = 0 by decide]
          rw [mp_comm (by decide)]
          exact hQ
        · unfold wX10_number wX10_number_p38 wX10_number_p72
          rw [pub_madeM R hh, e_live R hh hl, e_of1 f1, f2, hk, e_weakAt f1 f4, e4]
          simp only [show nI 4 = (4 : Int32) from rfl, true_implies, not_true_eq_false, false_implies, and_true, vp_in_nI (show 6100 + aPl (m 1) h + 3 < 26100 by omega) (show 26100 < 2 ^ 31 by decide), nI_clamp (show 6100 + aPl (m 1) h + 3 < 2 ^ 31 by omega), true_and, forall_eq]
          rw [e_weakAt f1 (by rw [hm1]; exact f4), e4]
          simp only [vp_in_nI (show 6100 + aPl (m 1) h + 3 < 26100 by omega) (show 26100 < 2 ^ 31 by decide), nI_clamp (show 6100 + aPl (m 1) h + 3 < 2 ^ 31 by omega), true_and, e_by0]
          rw [mp_n (by decide), mp_s, up_s]
          have e5 : mp (mp m 0 12 (m 1 (6100 + aPl (m 1) h + 3))) 1 (6100 + aPl (m 1) h + 3) l2 = mr (mp m 0 12 (m 1 (6100 + aPl (m 1) h + 3))) 1 (upd (m 1) (6100 + (aPl (m 1) h + 3)) l2) := by
            unfold mp; rw [mr_n (by decide)]; rfl
          rw [e5]
          exact hQ
      · have hi : isaN 4 (aKd (m 1) h) = false := by rw [← Bool.not_eq_true]; exact fun q => hk (isaN4.mp q)
        have hk4 : ¬ nI (aKd (m 1) h) = 4 := fun q => hk (nI_inj (b := 4) (by omega) (by omega) q)
        refine by_wrong R (-13) 3 (fun Q hQ => ?_) (fun Q hQ => ?_)
        · unfold wX9_number
          rw [pub_made1 R hh, cellR R hh hl (w := 4) (x := 4) rfl (by decide), hi, x_answer]
          simpa [fd13] using hQ
        · unfold wX10_number wX10_number_p38 wX10_number_p72
          rw [pub_madeM R hh, e_live R hh hl, e_of1 f1, f2]
          have := e_byF (m := m) (Q := Q) (v := 3) (by decide)
          simpa [hk4, this] using hQ
    · refine by_wrong R (-11) 1 (fun Q hQ => ?_) (fun Q hQ => ?_)
      · unfold wX9_number
        rw [pub_made1 R hh, cellG R (Or.inr ⟨h, hh, rfl, hl⟩), x_answer]
        simpa [fd11] using hQ
      · unfold wX10_number wX10_number_p38 wX10_number_p72
        rw [pub_madeM R hh, e_gone R (Or.inr ⟨h, hh, rfl, hl⟩)]
        have := e_byF (m := m) (Q := Q) (v := 1) (by decide)
        simpa [this] using hQ
/-! bytes -/
theorem byte_eq (x : Int32) {q : Nat} (hq : q < 4) : (x.toUInt32 >>> ((nI (8 * q)).toUInt32 &&& Int32.toUInt32 31)).toInt32 &&& 255 = (x >>> (nI (8 * q) &&& 31)) &&& 255 := by
  rw [pk_and _ 8 (by decide), pk_and _ 8 (by decide)]
  congr 1
  have hb : ∀ y : Int32, (y.toBitVec.toNat : Int) = y.toInt % 4294967296 := by
    intro y
    rw [← Int32.toInt_toBitVec, BitVec.toInt_eq_toNat_cond]
    have := y.toBitVec.isLt
    split <;> omega
  have hx := hb x
  have hx2 := x.toBitVec.isLt
  rcases (by omega : q = 0 ∨ q = 1 ∨ q = 2 ∨ q = 3) with rfl | rfl | rfl | rfl
  · have h1 := pk_ushr x (nI (8 * 0)) 0 (by decide)
    have h2 := pk_shr x (nI (8 * 0) &&& 31) 0 (by decide)
    have h3 := hb (x >>> (nI (8 * 0) &&& 31))
    rw [h2, Int.shiftRight_eq_div_pow] at h3
    rw [h1]
    simp only [Nat.reducePow, Nat.reduceMul] at *
    omega
  · have h1 := pk_ushr x (nI (8 * 1)) 8 (by decide)
    have h2 := pk_shr x (nI (8 * 1) &&& 31) 8 (by decide)
    have h3 := hb (x >>> (nI (8 * 1) &&& 31))
    rw [h2, Int.shiftRight_eq_div_pow] at h3
    rw [h1]
    simp only [Nat.reducePow, Nat.reduceMul] at *
    omega
  · have h1 := pk_ushr x (nI (8 * 2)) 16 (by decide)
    have h2 := pk_shr x (nI (8 * 2) &&& 31) 16 (by decide)
    have h3 := hb (x >>> (nI (8 * 2) &&& 31))
    rw [h2, Int.shiftRight_eq_div_pow] at h3
    rw [h1]
    simp only [Nat.reducePow, Nat.reduceMul] at *
    omega
  · have h1 := pk_ushr x (nI (8 * 3)) 24 (by decide)
    have h2 := pk_shr x (nI (8 * 3) &&& 31) 24 (by decide)
    have h3 := hb (x >>> (nI (8 * 3) &&& 31))
    rw [h2, Int.shiftRight_eq_div_pow] at h3
    rw [h1]
    simp only [Nat.reducePow, Nat.reduceMul] at *
    omega
end C3

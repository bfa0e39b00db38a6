/-! check: reasons, ranks, links -/
section CK3
variable {pv : Nat → Int32} {L K : Nat} {c m : gMem}
def b32 (b : Bool) : Int32 := if b then 1 else 0
theorem in_b {x : Int32} {N : Nat} {b64 : Int64} {y : Int32} (hN : N < 2 ^ 30) (hN1 : 1 ≤ N) (h64 : b64.toInt = (N : Int) - 1) (h32 : y = nI (N - 1)) : ∃ b : Bool, (∀ (m : gMem) (Q : Int32 → gMem → Prop), wX10_in x.toInt64 0 b64 m Q = Q (b32 b) m) ∧ (∀ (c : gMem) (Q : Int32 → gMem → Prop), wX1_isIn x 0 y c Q = Q (b32 b) c) ∧ (b = true → x ≠ -1) := by
  rcases in_both (x := x) (N := N) hN hN1 h64 h32 with ⟨q1, q2, q3⟩ | ⟨j, hj, e, q1, q2⟩
  · exact ⟨false, q1, q2, fun z => absurd z (by decide)⟩
  · exact ⟨true, q1, q2, fun _ => by rw [e]; exact nI_m1 (by omega)⟩
theorem b32_or {b : Bool} : b32 b = 0 ∨ b32 b = 1 := by cases b <;> simp [b32]
theorem or_and {b : Bool} {P : Prop} : ((b32 b = 0 ∨ b32 b = 1) ∧ P) = P := propext ⟨fun z => z.2, fun z => ⟨b32_or, z⟩⟩
/-- the first of a reason's two numbers -/
theorem first_case (g : ckG pv L K) (hL : L ≤ 6527) (hk : ckK pv K c m) {w : Nat} (hw : w ≤ 5) (x : Int32) : ∃ b : Bool, (∀ Q : Int32 → gMem → Prop, wX1_isFirstRight (nI w) x c Q = Q (b32 b) c) ∧ (∀ (l1 l4 s0 : Int32) (Q : Int32 → gMem → Prop), (s0 = 1 ∧ w = 3 ∧ x = -1 ∨ s0 = 0 ∧ ¬ (w = 3 ∧ x = -1)) → wX10_reasonWrong_p120 l1 (nI w) l4 s0 (b32 b) m Q → wX10_reasonWrong_p40 l1 (nI w) x l4 s0 m Q) ∧ (b = true → (w = 1 → ∃ h i, h < 500 ∧ x = nI h ∧ ckF pv 0 K h i ∧ m 9 h = nI i ∧ c 72 h = nI (ckS pv i) ∧ (∀ Q : Int32 → gMem → Prop, wX10_keptOf x m Q = Q (nI i) m)) ∧ (w = 1 ∨ w = 2 → x ≠ -1)) := by
  rcases (by omega : w = 0 ∨ w = 1 ∨ w = 2 ∨ w = 3 ∨ w = 4 ∨ w = 5) with rfl | rfl | rfl | rfl | rfl | rfl
  · obtain ⟨b, q1, q2, q3⟩ := in_b (x := x) (N := 24) (b64 := 23) (y := 23) (by decide) (by decide) (by decide) rfl
    refine ⟨b, fun Q => ?_, fun l1 l4 s0 Q hs hQ => ?_, fun _ => ⟨fun z => absurd z (by decide), fun z => absurd z (by decide)⟩⟩
    · unfold wX1_isFirstRight
      simp only [show ¬ ((nI 0).toInt < 0 ∨ 5 < (nI 0).toInt) by decide, show (nI 0 = 0) = True by decide, show ¬ nI 0 = 1 by decide, show ¬ nI 0 = 2 by decide, show ¬ nI 0 = 3 by decide, show ¬ nI 0 = 4 by decide, show ¬ nI 0 = 5 by decide, true_implies, not_true_eq_false, not_false_eq_true, false_implies, true_and, and_true]
      rw [q2, or_and]
    · unfold wX10_reasonWrong_p40
      simp only [show (nI 0 = 0) = True by decide, true_implies, not_true_eq_false, not_false_eq_true, false_implies, true_and, and_true]
      rw [q1]; exact hQ
  · rcases kept_case g hL hk x with ⟨k1, k2, k3⟩ | ⟨h, i, hh, ex, hF, k1, k2, k3, k4⟩
    · refine ⟨false, fun Q => ?_, fun l1 l4 s0 Q hs hQ => ?_, fun z => absurd z (by decide)⟩
      · unfold wX1_isFirstRight
        simp only [show ¬ ((nI 1).toInt < 0 ∨ 5 < (nI 1).toInt) by decide, show ¬ nI 1 = 0 by decide, show (nI 1 = 1) = True by decide, show ¬ nI 1 = 2 by decide, show ¬ nI 1 = 3 by decide, show ¬ nI 1 = 4 by decide, show ¬ nI 1 = 5 by decide, true_implies, not_true_eq_false, not_false_eq_true, false_implies, true_and, and_true]
        rw [k2]
        exact propext ⟨fun z => z.2, fun z => ⟨Or.inl rfl, z⟩⟩
      · unfold wX10_reasonWrong_p40
        simp only [show ¬ nI 1 = 0 by decide, show (nI 1 = 1) = True by decide, true_implies, not_true_eq_false, not_false_eq_true, false_implies, true_and, and_true]
        rw [k1]
        simp only [true_implies, not_true_eq_false, not_false_eq_true, false_implies, true_and, and_true]; exact hQ
    · refine ⟨true, fun Q => ?_, fun l1 l4 s0 Q hs hQ => ?_, fun _ => ⟨fun _ => ⟨h, i, hh, ex, hF, k3, k4, k1⟩, fun _ => by rw [ex]; exact nI_m1 (by omega)⟩⟩
      · unfold wX1_isFirstRight
        simp only [show ¬ ((nI 1).toInt < 0 ∨ 5 < (nI 1).toInt) by decide, show ¬ nI 1 = 0 by decide, show (nI 1 = 1) = True by decide, show ¬ nI 1 = 2 by decide, show ¬ nI 1 = 3 by decide, show ¬ nI 1 = 4 by decide, show ¬ nI 1 = 5 by decide, true_implies, not_true_eq_false, not_false_eq_true, false_implies, true_and, and_true]
        rw [k2]
        exact propext ⟨fun z => z.2, fun z => ⟨Or.inr rfl, z⟩⟩
      · unfold wX10_reasonWrong_p40
        simp only [show ¬ nI 1 = 0 by decide, show (nI 1 = 1) = True by decide, true_implies, not_true_eq_false, not_false_eq_true, false_implies, true_and, and_true]
        rw [k1]
        have hi : ¬ nI i = -1 := nI_m1 (by have := hF.2.1; have := g.2.2.1; omega)
        simp only [hi, true_implies, not_true_eq_false, not_false_eq_true, false_implies, true_and, and_true]; exact hQ
  · obtain ⟨b, q1, q2, q3⟩ := in_b (x := x) (N := 500) (b64 := 499) (y := 499) (by decide) (by decide) (by decide) rfl
    refine ⟨b, fun Q => ?_, fun l1 l4 s0 Q hs hQ => ?_, fun hb => ⟨fun z => absurd z (by decide), fun _ => q3 hb⟩⟩
    · unfold wX1_isFirstRight wX1_isFirstRight_p74
      simp only [show ¬ ((nI 2).toInt < 0 ∨ 5 < (nI 2).toInt) by decide, show ¬ nI 2 = 0 by decide, show ¬ nI 2 = 1 by decide, show (nI 2 = 2) = True by decide, show ¬ nI 2 = 3 by decide, show ¬ nI 2 = 4 by decide, show ¬ nI 2 = 5 by decide, true_implies, not_true_eq_false, not_false_eq_true, false_implies, true_and, and_true]
      rw [q2, or_and]
    · have hs0 : s0 = 0 := by
        rcases hs with ⟨_, z, _⟩ | ⟨z, _⟩
        · exact absurd z (by decide)
        · exact z
      subst hs0
      unfold wX10_reasonWrong_p40 wX10_reasonWrong_p115
      simp only [show ¬ nI 2 = 0 by decide, show ¬ nI 2 = 1 by decide, show ¬ nI 2 = 5 by decide, true_implies, not_true_eq_false, not_false_eq_true, false_implies, true_and, and_true]
      rw [q1]
      cases b
      · simp only [b32, Bool.false_eq_true, if_false, if_true, true_implies, not_true_eq_false, not_false_eq_true, false_implies, true_and, and_true]; exact hQ
      · simp only [b32, if_true, i32_10, true_implies, not_true_eq_false, not_false_eq_true, false_implies, true_and, and_true]; exact hQ
  · by_cases ex : x = -1
    · subst ex
      refine ⟨true, fun Q => ?_, fun l1 l4 s0 Q hs hQ => ?_, fun _ => ⟨fun z => absurd z (by decide), fun z => absurd z (by decide)⟩⟩
      · unfold wX1_isFirstRight wX1_isIn
        simp only [show ¬ ((nI 3).toInt < 0 ∨ 5 < (nI 3).toInt) by decide, show ¬ nI 3 = 0 by decide, show ¬ nI 3 = 1 by decide, show ¬ nI 3 = 2 by decide, show (nI 3 = 3) = True by decide, show ¬ nI 3 = 4 by decide, show ¬ nI 3 = 5 by decide, show ¬ (-1 : Int32) < -1 by decide, show ¬ (499 : Int32) < -1 by decide, true_implies, not_true_eq_false, not_false_eq_true, false_implies, true_and, and_true]
        exact propext ⟨fun z => z.2, fun z => ⟨Or.inr trivial, z⟩⟩
      · have hs0 : s0 = 1 := by
          rcases hs with ⟨z, _, _⟩ | ⟨_, z⟩
          · exact z
          · exact absurd ⟨rfl, rfl⟩ z
        subst hs0
        unfold wX10_reasonWrong_p40 wX10_reasonWrong_p115
        simp only [show ¬ nI 3 = 0 by decide, show ¬ nI 3 = 1 by decide, show ¬ nI 3 = 5 by decide, i32_10, true_implies, not_true_eq_false, not_false_eq_true, false_implies, true_and, and_true]
        exact hQ
    · obtain ⟨b, q1, q2, q3⟩ := in_b (x := x) (N := 500) (b64 := 499) (y := 499) (by decide) (by decide) (by decide) rfl
      refine ⟨b, fun Q => ?_, fun l1 l4 s0 Q hs hQ => ?_, fun hb => ⟨fun z => absurd z (by decide), fun z => absurd z (by decide)⟩⟩
      · have hsame : wX1_isIn x (-1) 499 c = wX1_isIn x 0 499 c := by
          funext Q
          unfold wX1_isIn
          have e1 : (x < -1) = (x < 0) := propext (by
            have m1 : (-1 : Int32).toInt = -1 := by decide
            have z0 : (0 : Int32).toInt = 0 := by decide
            have ne : x.toInt ≠ -1 := fun z => ex (Int32.toInt_inj.mp (by rw [z]; exact m1.symm))
            rw [Int32.lt_iff_toInt_lt, Int32.lt_iff_toInt_lt, m1, z0]; omega)
          simp only [e1]
        unfold wX1_isFirstRight
        simp only [show ¬ ((nI 3).toInt < 0 ∨ 5 < (nI 3).toInt) by decide, show ¬ nI 3 = 0 by decide, show ¬ nI 3 = 1 by decide, show ¬ nI 3 = 2 by decide, show (nI 3 = 3) = True by decide, show ¬ nI 3 = 4 by decide, show ¬ nI 3 = 5 by decide, true_implies, not_true_eq_false, not_false_eq_true, false_implies, true_and, and_true]
        rw [hsame, q2, or_and]
      · have hs0 : s0 = 0 := by
          rcases hs with ⟨_, _, z⟩ | ⟨z, _⟩
          · exact absurd z ex
          · exact z
        subst hs0
        unfold wX10_reasonWrong_p40 wX10_reasonWrong_p115
        simp only [show ¬ nI 3 = 0 by decide, show ¬ nI 3 = 1 by decide, show ¬ nI 3 = 5 by decide, true_implies, not_true_eq_false, not_false_eq_true, false_implies, true_and, and_true]
        rw [q1]
        cases b
        · simp only [b32, Bool.false_eq_true, if_false, if_true, true_implies, not_true_eq_false, not_false_eq_true, false_implies, true_and, and_true]; exact hQ
        · simp only [b32, if_true, i32_10, true_implies, not_true_eq_false, not_false_eq_true, false_implies, true_and, and_true]; exact hQ
  · obtain ⟨b, q1, q2, q3⟩ := in_b (x := x) (N := 500) (b64 := 499) (y := 499) (by decide) (by decide) (by decide) rfl
    refine ⟨b, fun Q => ?_, fun l1 l4 s0 Q hs hQ => ?_, fun hb => ⟨fun z => absurd z (by decide), fun _ => q3 hb⟩⟩
    · unfold wX1_isFirstRight wX1_isFirstRight_p74
      simp only [show ¬ ((nI 4).toInt < 0 ∨ 5 < (nI 4).toInt) by decide, show ¬ nI 4 = 0 by decide, show ¬ nI 4 = 1 by decide, show ¬ nI 4 = 2 by decide, show ¬ nI 4 = 3 by decide, show (nI 4 = 4) = True by decide, show ¬ nI 4 = 5 by decide, true_implies, not_true_eq_false, not_false_eq_true, false_implies, true_and, and_true]
      rw [q2, or_and]
    · have hs0 : s0 = 0 := by
        rcases hs with ⟨_, z, _⟩ | ⟨z, _⟩
        · exact absurd z (by decide)
        · exact z
      subst hs0
      unfold wX10_reasonWrong_p40 wX10_reasonWrong_p115
      simp only [show ¬ nI 4 = 0 by decide, show ¬ nI 4 = 1 by decide, show ¬ nI 4 = 5 by decide, true_implies, not_true_eq_false, not_false_eq_true, false_implies, true_and, and_true]
      rw [q1]
      cases b
      · simp only [b32, Bool.false_eq_true, if_false, if_true, true_implies, not_true_eq_false, not_false_eq_true, false_implies, true_and, and_true]; exact hQ
      · simp only [b32, if_true, i32_10, true_implies, not_true_eq_false, not_false_eq_true, false_implies, true_and, and_true]; exact hQ
  · by_cases ex : x = -1
    · refine ⟨true, fun Q => ?_, fun l1 l4 s0 Q hs hQ => ?_, fun _ => ⟨fun z => absurd z (by decide), fun z => absurd z (by decide)⟩⟩
      · unfold wX1_isFirstRight
        simp only [show ¬ ((nI 5).toInt < 0 ∨ 5 < (nI 5).toInt) by decide, show ¬ nI 5 = 0 by decide, show ¬ nI 5 = 1 by decide, show ¬ nI 5 = 2 by decide, show ¬ nI 5 = 3 by decide, show ¬ nI 5 = 4 by decide, show (nI 5 = 5) = True by decide, ex, true_implies, not_true_eq_false, not_false_eq_true, false_implies, true_and, and_true]
        rfl
      · unfold wX10_reasonWrong_p40
        simp only [show ¬ nI 5 = 0 by decide, show ¬ nI 5 = 1 by decide, show (nI 5 = 5) = True by decide, ex, true_implies, not_true_eq_false, not_false_eq_true, false_implies, true_and, and_true]
        exact hQ
    · refine ⟨false, fun Q => ?_, fun l1 l4 s0 Q hs hQ => ?_, fun z => absurd z (by decide)⟩
      · unfold wX1_isFirstRight
        simp only [show ¬ ((nI 5).toInt < 0 ∨ 5 < (nI 5).toInt) by decide, show ¬ nI 5 = 0 by decide, show ¬ nI 5 = 1 by decide, show ¬ nI 5 = 2 by decide, show ¬ nI 5 = 3 by decide, show ¬ nI 5 = 4 by decide, show (nI 5 = 5) = True by decide, ex, true_implies, not_true_eq_false, not_false_eq_true, false_implies, true_and, and_true]
        rfl
      · unfold wX10_reasonWrong_p40
        simp only [show ¬ nI 5 = 0 by decide, show ¬ nI 5 = 1 by decide, show (nI 5 = 5) = True by decide, ex, true_implies, not_true_eq_false, not_false_eq_true, false_implies, true_and, and_true]
        exact hQ
/-- the second -/
theorem second_case {w : Nat} (hw : w ≤ 5) (x y s0 : Int32) (hs : s0 = 1 ∧ w = 3 ∧ x = -1 ∨ s0 = 0 ∧ ¬ (w = 3 ∧ x = -1)) (hx : w = 1 ∨ w = 2 → x ≠ -1) : ∃ b : Bool, (∀ Q : Int32 → gMem → Prop, wX1_isSecondRight (nI w) x y c Q = Q (b32 b) c) ∧ ∀ (l1 : Int32) (Q : Int32 → gMem → Prop), wX10_reasonWrong_p193 l1 (b32 b) m Q → wX10_reasonWrong_p120 l1 (nI w) y s0 1 m Q := by
  have hm1 : ∀ (l1 : Int32) (Q : Int32 → gMem → Prop), (if y = -1 then wX10_reasonWrong_p193 l1 1 m Q else wX10_reasonWrong_p193 l1 0 m Q) → wX10_reasonWrong_p140 l1 y m Q := by
    intro l1 Q hQ
    unfold wX10_reasonWrong_p140
    by_cases e : y = -1
    · rw [if_pos e] at hQ
      exact ⟨fun _ => hQ, fun z => absurd e z⟩
    · rw [if_neg e] at hQ
      exact ⟨fun z => absurd z e, fun _ => hQ⟩
  rcases (by omega : w = 0 ∨ w = 5 ∨ w = 4 ∨ w = 1 ∨ w = 2 ∨ w = 3) with rfl | rfl | rfl | rfl | rfl | rfl
  · by_cases e : y = -1
    · refine ⟨true, fun Q => ?_, fun l1 Q hQ => ?_⟩
      · unfold wX1_isSecondRight wX1_isSecondRight_p36
        simp only [show (nI 0 = 0) = True by decide, show ¬ nI 0 = 4 by decide, show ¬ nI 0 = 5 by decide, e, true_implies, not_true_eq_false, not_false_eq_true, false_implies, true_and, and_true, false_and, and_false]
        rfl
      · unfold wX10_reasonWrong_p120
        simp only [show (nI 0 = 0) = True by decide, show ¬ nI 0 = 5 by decide, show ¬ nI 0 = 4 by decide, i32_10, true_implies, not_true_eq_false, not_false_eq_true, false_implies, true_and, and_true]
        refine hm1 l1 Q ?_
        rw [if_pos e]; exact hQ
    · refine ⟨false, fun Q => ?_, fun l1 Q hQ => ?_⟩
      · unfold wX1_isSecondRight wX1_isSecondRight_p36
        simp only [show (nI 0 = 0) = True by decide, show ¬ nI 0 = 4 by decide, show ¬ nI 0 = 5 by decide, e, true_implies, not_true_eq_false, not_false_eq_true, false_implies, true_and, and_true, false_and, and_false]
        rfl
      · unfold wX10_reasonWrong_p120
        simp only [show (nI 0 = 0) = True by decide, show ¬ nI 0 = 5 by decide, show ¬ nI 0 = 4 by decide, i32_10, true_implies, not_true_eq_false, not_false_eq_true, false_implies, true_and, and_true]
        refine hm1 l1 Q ?_
        rw [if_neg e]; exact hQ
  · by_cases e : y = -1
    · refine ⟨true, fun Q => ?_, fun l1 Q hQ => ?_⟩
      · unfold wX1_isSecondRight wX1_isSecondRight_p36
        simp only [show ¬ nI 5 = 0 by decide, show ¬ nI 5 = 4 by decide, show (nI 5 = 5) = True by decide, e, true_implies, not_true_eq_false, not_false_eq_true, false_implies, true_and, and_true, false_and, and_false]
        rfl
      · unfold wX10_reasonWrong_p120
        simp only [show ¬ nI 5 = 0 by decide, show (nI 5 = 5) = True by decide, show ¬ nI 5 = 4 by decide, i32_10, true_implies, not_true_eq_false, not_false_eq_true, false_implies, true_and, and_true]
        refine hm1 l1 Q ?_
        rw [if_pos e]; exact hQ
    · refine ⟨false, fun Q => ?_, fun l1 Q hQ => ?_⟩
      · unfold wX1_isSecondRight wX1_isSecondRight_p36
        simp only [show ¬ nI 5 = 0 by decide, show ¬ nI 5 = 4 by decide, show (nI 5 = 5) = True by decide, e, true_implies, not_true_eq_false, not_false_eq_true, false_implies, true_and, and_true, false_and, and_false]
        rfl
      · unfold wX10_reasonWrong_p120
        simp only [show ¬ nI 5 = 0 by decide, show (nI 5 = 5) = True by decide, show ¬ nI 5 = 4 by decide, i32_10, true_implies, not_true_eq_false, not_false_eq_true, false_implies, true_and, and_true]
        refine hm1 l1 Q ?_
        rw [if_neg e]; exact hQ
  · by_cases e : y = 0
    · refine ⟨true, fun Q => ?_, fun l1 Q hQ => ?_⟩
      · unfold wX1_isSecondRight
        simp only [show ¬ nI 4 = 0 by decide, show (nI 4 = 4) = True by decide, show ¬ nI 4 = 5 by decide, e, true_implies, not_true_eq_false, not_false_eq_true, false_implies, true_and, and_true, false_and, and_false]
        rfl
      · unfold wX10_reasonWrong_p120
        simp only [show ¬ nI 4 = 0 by decide, show ¬ nI 4 = 5 by decide, show (nI 4 = 4) = True by decide, e, i32_10, true_implies, not_true_eq_false, not_false_eq_true, false_implies, true_and, and_true]
        exact hQ
    · refine ⟨false, fun Q => ?_, fun l1 Q hQ => ?_⟩
      · unfold wX1_isSecondRight
        simp only [show ¬ nI 4 = 0 by decide, show (nI 4 = 4) = True by decide, show ¬ nI 4 = 5 by decide, e, true_implies, not_true_eq_false, not_false_eq_true, false_implies, true_and, and_true, false_and, and_false]
        rfl
      · unfold wX10_reasonWrong_p120
        simp only [show ¬ nI 4 = 0 by decide, show ¬ nI 4 = 5 by decide, show (nI 4 = 4) = True by decide, e, i32_10, true_implies, not_true_eq_false, not_false_eq_true, false_implies, true_and, and_true]
        exact hQ
  · obtain ⟨b, q1, q2, q3⟩ := in_b (x := y) (N := 300) (b64 := 299) (y := 299) (by decide) (by decide) (by decide) rfl
    have hxn := hx (by decide)
    have hs0 : s0 = 0 := by
      rcases hs with ⟨_, z, _⟩ | ⟨z, _⟩
      · exact absurd z (by decide)
      · exact z
    subst hs0
    refine ⟨b, fun Q => ?_, fun l1 Q hQ => ?_⟩
    · unfold wX1_isSecondRight wX1_isSecondRight_p72
      simp only [show ¬ nI 1 = 0 by decide, show ¬ nI 1 = 4 by decide, show ¬ nI 1 = 5 by decide, hxn, true_implies, not_true_eq_false, not_false_eq_true, false_implies, true_and, and_true]
      rw [q2, or_and]
    · unfold wX10_reasonWrong_p120 wX10_reasonWrong_p190
      simp only [show ¬ nI 1 = 0 by decide, show ¬ nI 1 = 5 by decide, show ¬ nI 1 = 4 by decide, i32_10, true_implies, not_true_eq_false, not_false_eq_true, false_implies, true_and, and_true]
      rw [q1]; exact hQ
  · obtain ⟨b, q1, q2, q3⟩ := in_b (x := y) (N := 300) (b64 := 299) (y := 299) (by decide) (by decide) (by decide) rfl
    have hxn := hx (by decide)
    have hs0 : s0 = 0 := by
      rcases hs with ⟨_, z, _⟩ | ⟨z, _⟩
      · exact absurd z (by decide)
      · exact z
    subst hs0
    refine ⟨b, fun Q => ?_, fun l1 Q hQ => ?_⟩
    · unfold wX1_isSecondRight wX1_isSecondRight_p72
      simp only [show ¬ nI 2 = 0 by decide, show ¬ nI 2 = 4 by decide, show ¬ nI 2 = 5 by decide, hxn, true_implies, not_true_eq_false, not_false_eq_true, false_implies, true_and, and_true]
      rw [q2, or_and]
    · unfold wX10_reasonWrong_p120 wX10_reasonWrong_p190
      simp only [show ¬ nI 2 = 0 by decide, show ¬ nI 2 = 5 by decide, show ¬ nI 2 = 4 by decide, i32_10, true_implies, not_true_eq_false, not_false_eq_true, false_implies, true_and, and_true]
      rw [q1]; exact hQ
  · by_cases ex : x = -1
    · obtain ⟨b, q1, q2, q3⟩ := in_b (x := y) (N := 24) (b64 := 23) (y := 23) (by decide) (by decide) (by decide) rfl
      have hs0 : s0 = 1 := by
        rcases hs with ⟨z, _, _⟩ | ⟨_, z⟩
        · exact z
        · exact absurd ⟨rfl, ex⟩ z
      subst hs0
      refine ⟨b, fun Q => ?_, fun l1 Q hQ => ?_⟩
      · unfold wX1_isSecondRight wX1_isSecondRight_p72
        simp only [show ¬ nI 3 = 0 by decide, show ¬ nI 3 = 4 by decide, show ¬ nI 3 = 5 by decide, ex, true_implies, not_true_eq_false, not_false_eq_true, false_implies, true_and, and_true]
        rw [q2, or_and]
      · unfold wX10_reasonWrong_p120 wX10_reasonWrong_p190
        simp only [show ¬ nI 3 = 0 by decide, show ¬ nI 3 = 5 by decide, show ¬ nI 3 = 4 by decide, i32_10, true_implies, not_true_eq_false, not_false_eq_true, false_implies, true_and, and_true]
        rw [q1]; exact hQ
    · obtain ⟨b, q1, q2, q3⟩ := in_b (x := y) (N := 300) (b64 := 299) (y := 299) (by decide) (by decide) (by decide) rfl
      have hs0 : s0 = 0 := by
        rcases hs with ⟨_, _, z⟩ | ⟨z, _⟩
        · exact absurd z ex
        · exact z
      subst hs0
      refine ⟨b, fun Q => ?_, fun l1 Q hQ => ?_⟩
      · unfold wX1_isSecondRight wX1_isSecondRight_p72
        simp only [show ¬ nI 3 = 0 by decide, show ¬ nI 3 = 4 by decide, show ¬ nI 3 = 5 by decide, ex, true_implies, not_true_eq_false, not_false_eq_true, false_implies, true_and, and_true]
        rw [q2, or_and]
      · unfold wX10_reasonWrong_p120 wX10_reasonWrong_p190
        simp only [show ¬ nI 3 = 0 by decide, show ¬ nI 3 = 5 by decide, show ¬ nI 3 = 4 by decide, i32_10, true_implies, not_true_eq_false, not_false_eq_true, false_implies, true_and, and_true]
        rw [q1]; exact hQ
end CK3

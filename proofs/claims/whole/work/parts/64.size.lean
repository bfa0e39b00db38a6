/-! a new start -/
/-- s of a new start with n ints -/
def frS (n : Nat) (s : gS) : Prop := s 0 = nI n ∧ (∀ k, 20 ≤ k → k < 84 → s k = -1) ∧ ∀ k, 0 < k → k < 26100 → ¬ (20 ≤ k ∧ k < 84) → s k = 0
theorem fr_nn {s : gS} {n k : Nat} (h : frS n s) (h1 : 0 < k) (h2 : k < 26100) (h3 : ¬ (20 ≤ k ∧ k < 84)) : s k = nI 0 ∧ nn s k = 0 := ⟨h.2.2 k h1 h2 h3, nn_nI (n := 0) (h.2.2 k h1 h2 h3) (by decide)⟩
theorem fr_SI {s : gS} {n T : Nat} (h1 : 16 ≤ n) (h2 : n ≤ 4000) (h : frS n s) : aSI T s := by
  have e0 : zA s = n := nn_nI h.1 (by omega)
  have e1 := fr_nn h (k := 1) (by decide) (by decide) (by decide)
  have e4 := fr_nn h (k := 4) (by decide) (by decide) (by decide)
  have e16 := fr_nn h (k := 16) (by decide) (by decide) (by decide)
  have e17 := fr_nn h (k := 17) (by decide) (by decide) (by decide)
  have e10 := fr_nn h (k := 10) (by decide) (by decide) (by decide)
  have e15 := fr_nn h (k := 15) (by decide) (by decide) (by decide)
  have zm : zM s = 0 := e1.2
  have zk : zK s = 0 := e4.2
  have zu : zU s = 0 := e16.2
  have zl : zL s = 0 := e17.2
  have zr : zR s = 0 := e15.2
  have zt : zT s = 0 := e10.2
  refine ⟨⟨⟨?_, fun q hq => by omega, ?_, fun q hq => by omega, ?_⟩, ⟨?_, fun k hk => by omega, fun k hk => by omega⟩, ?_, ?_, 0, 0, h.2.2 11 (by decide) (by decide) (by decide), by decide, h.2.2 12 (by decide) (by decide) (by decide), Or.inr ⟨rfl, rfl⟩, fun q hq => by omega⟩, fun k hk => by omega, fun q => ?_⟩
  · unfold iA
    rw [e0, zm, zu]
    exact ⟨h.1, h1, h2, e1.1, by decide, e16.1, rfl, by omega, h.2.2 2 (by decide) (by decide) (by decide)⟩
  · intro k a b
    rw [e0] at b
    exact h.2.2 _ (by omega) (by omega) (by omega)
  · exact ⟨fun r hr => Or.inl (h.2.1 _ (by omega) (by omega)), fun k hk => Or.inl (h.2.1 _ (by omega) (by omega)), fun r hr => Or.inl (h.2.1 _ (by omega) (by omega))⟩
  · unfold iM
    rw [zk, zl, zm]
    exact ⟨Or.inl (h.2.2 3 (by decide) (by decide) (by decide)), e4.1, by decide, e17.1, by decide, fun _ => rfl⟩
  · unfold iT; rw [zt]; exact ⟨e10.1, Nat.zero_le _⟩
  · unfold iP; rw [zr]; exact ⟨e15.1, Or.inl rfl, by decide⟩
  · rw [h.2.2 3 (by decide) (by decide) (by decide)] at q; exact absurd q (by decide)
/-- a State of the class at a new start -/
def frC (n b : Nat) (c : gMem) : Prop := c (b + 1) 0 = nI n ∧ c (b + 1) 1 = 0 ∧ c (b + 1) 2 = 0 ∧ c (b + 1) 3 = 0 ∧ (∀ k, k < 4000 → c (b + 2) k = 0) ∧ (∀ k, k < 4 → c (b + 5) k = 0) ∧ (∀ k, k < 500 → c (b + 7) k = 0) ∧ (∀ k, k < 6 → c (b + 11) k = 0) ∧ c (b + 13) 0 = 0 ∧ (∀ k, k < 4 → c (b + 16) k = 0) ∧ (∀ k, k < 8 → c (b + 18) k = -1) ∧ (∀ k, k < 24 → c (b + 19) k = -1) ∧ ∀ k, k < 32 → c (b + 20) k = -1
theorem fr_SR {s : gS} {n b : Nat} {c : gMem} (h : frS n s) (g : frC n b c) : aSR b c s := by
  obtain ⟨g1, g2, g3, g4, g5, g6, g7, g8, g9, g10, g11, g12, g13⟩ := g
  have zm : zM s = 0 := (fr_nn h (k := 1) (by decide) (by decide) (by decide)).2
  have zk : zK s = 0 := (fr_nn h (k := 4) (by decide) (by decide) (by decide)).2
  have zu : zU s = 0 := (fr_nn h (k := 16) (by decide) (by decide) (by decide)).2
  have zl : zL s = 0 := (fr_nn h (k := 17) (by decide) (by decide) (by decide)).2
  have zr : zR s = 0 := (fr_nn h (k := 15) (by decide) (by decide) (by decide)).2
  have zt : zT s = 0 := (fr_nn h (k := 10) (by decide) (by decide) (by decide)).2
  have z11 : nn s 11 = 0 := (fr_nn h (k := 11) (by decide) (by decide) (by decide)).2
  have z : ∀ k, 0 < k → k < 20 → s k = 0 := fun k a b => h.2.2 k a (by omega) (by omega)
  refine ⟨⟨by rw [g1, h.1], by rw [g2, z 16 (by decide) (by decide)], by rw [g3, z 1 (by decide) (by decide)], by rw [g4, z 2 (by decide) (by decide)]⟩, ⟨fun k hk => by omega, fun k _ hk => g5 k hk⟩, fun q hq => by omega, ⟨by rw [g6 0 (by decide), z 3 (by decide) (by decide)], by rw [g6 1 (by decide), z 4 (by decide) (by decide)], by rw [g6 2 (by decide), z 17 (by decide) (by decide)], by rw [g6 3 (by decide), if_neg (by omega)]⟩, fun k hk => by omega, ⟨fun k hk => by omega, fun k _ hk => g7 k hk⟩, ⟨fun k hk => by rw [g8 k hk, z _ (by omega) (by omega)], fun k _ hk => by omega⟩, ⟨by rw [g9, z 15 (by decide) (by decide)], fun k hk => by omega⟩, ⟨fun k hk => by rw [g10 k hk, z _ (by omega) (by omega)], fun k hk => by omega, fun r hr => by rw [g11 r hr, h.2.1 _ (by omega) (by omega)]⟩, ⟨fun r hr => by rw [g12 r hr, h.2.1 _ (by omega) (by omega)], fun k hk => by rw [g13 k hk, h.2.1 _ (by omega) (by omega)]⟩⟩
section SZ
variable {T : Nat} {c m : gMem}
theorem first_l2 : ∀ (d k : Nat), k + d = 84 → ∀ m : gMem, Dv (wX10_first_p32 (nI k) m) (mp (mp (mp (mp (mp (mr m 1 (fun j => if k ≤ j ∧ j < 84 then -1 else m 1 j)) 0 3 0) 0 4 0) 0 5 0) 0 6 0) 0 7 0) := by
  intro d
  induction d with
  | zero =>
    intro k hk m Q hQ P hP
    refine hP _ _ ?_
    unfold wX10_first_p32_b
    simp only [show k = 84 by omega, show (84 : Int32) ≤ nI 84 by decide, forall_eq, true_implies, not_true_eq_false, false_implies, and_true]
    have : (fun j => if k ≤ j ∧ j < 84 then (-1 : Int32) else m 1 j) = m 1 := by funext j; rw [if_neg (by omega)]
    rw [this, mr_self] at hQ; exact hQ
  | succ d ih =>
    intro k hk m Q hQ P hP
    refine hP _ _ ?_
    unfold wX10_first_p32_b
    rw [nI_clamp (by omega)]
    simp only [show ¬ (84 : Int32) ≤ nI k from nI_ge (b := 84) (by omega) (by decide), vp_in_nI (show k < 26100 by omega) (show 26100 < 2 ^ 31 by decide), forall_eq, nI_1, true_implies, not_false_eq_true, false_implies, true_and]
    refine ih (k + 1) (by omega) _ Q ?_ P hP
    have : mr (mp m 1 k (-1)) 1 (fun j => if k + 1 ≤ j ∧ j < 84 then (-1 : Int32) else mp m 1 k (-1) 1 j) = mr m 1 (fun j => if k ≤ j ∧ j < 84 then -1 else m 1 j) := by
      unfold mp; rw [mr_mr]; congr 1; funext j
      rw [mr_s]
      by_cases hj : j = k
      · subst hj; rw [if_neg (by omega), if_pos (by omega), up_s]
      · by_cases hj2 : k + 1 ≤ j ∧ j < 84
        · rw [if_pos hj2, if_pos (by omega)]
        · rw [if_neg hj2, if_neg (by omega), up_n hj]
    rw [this]; exact hQ
theorem first_l1 {x : Int32} : ∀ (d k : Nat), k + d = 26100 → ∀ m : gMem, ∃ m' : gMem, Dv (wX10_first_p2 x (nI k) m) m' ∧ (m' 1 0 = x ∧ (∀ j, 20 ≤ j → j < 84 → m' 1 j = -1) ∧ ∀ j, 0 < j → j < 26100 → ¬ (20 ≤ j ∧ j < 84) → m' 1 j = if k ≤ j then 0 else m 1 j) ∧ (∀ i, 1 < i → m' i = m i) ∧ m' 0 3 = 0 ∧ m' 0 4 = 0 ∧ m' 0 5 = 0 ∧ m' 0 6 = 0 ∧ m' 0 7 = 0 := by
  intro d
  induction d with
  | zero =>
    intro k hk m
    refine ⟨mp (mp (mp (mp (mp (mr (mp m 1 0 x) 1 (fun j => if 20 ≤ j ∧ j < 84 then -1 else mp m 1 0 x 1 j)) 0 3 0) 0 4 0) 0 5 0) 0 6 0) 0 7 0, fun Q hQ P hP => ?_, ⟨?_, fun j h1 h2 => ?_, fun j h1 h2 h3 => ?_⟩, fun i hi => ?_, ?_⟩
    · refine hP _ _ _ ?_
      unfold wX10_first_p2_b
      simp only [show k = 26100 by omega, show (26100 : Int32) ≤ nI 26100 by decide, forall_eq, true_implies, not_true_eq_false, false_implies, and_true]
      exact first_l2 64 20 (by decide) _ Q hQ
    · rw [mp_n (by decide), mp_n (by decide), mp_n (by decide), mp_n (by decide), mp_n (by decide), mr_s, if_neg (by decide), mp_s, up_s]
    · rw [mp_n (by decide), mp_n (by decide), mp_n (by decide), mp_n (by decide), mp_n (by decide), mr_s, if_pos ⟨h1, h2⟩]
    · rw [mp_n (by decide), mp_n (by decide), mp_n (by decide), mp_n (by decide), mp_n (by decide), mr_s, if_neg h3, mp_s, up_n (by omega), if_neg (by omega)]
    · rw [mp_n (by omega), mp_n (by omega), mp_n (by omega), mp_n (by omega), mp_n (by omega), mr_n (by omega), mp_n (by omega)]
    · simp [mp_s, up_s, up_n]
  | succ d ih =>
    intro k hk m
    obtain ⟨m', X, ⟨h1, h2, h3⟩, h4, h5⟩ := ih (k + 1) (by omega) (mp m 1 k 0)
    refine ⟨m', fun Q hQ P hP => ?_, ⟨h1, h2, fun j a b cc => ?_⟩, fun i hi => ?_, h5⟩
    · refine hP _ _ _ ?_
      unfold wX10_first_p2_b
      rw [nI_clamp (by omega)]
      simp only [show ¬ (26100 : Int32) ≤ nI k from nI_ge (b := 26100) (by omega) (by decide), vp_in_nI (show k < 26100 by omega) (show 26100 < 2 ^ 31 by decide), forall_eq, nI_1, true_implies, not_false_eq_true, false_implies, true_and]
      exact X Q hQ P hP
    · rw [h3 j a b cc]
      by_cases hj : k + 1 ≤ j
      · rw [if_pos hj, if_pos (by omega)]
      · rw [if_neg hj, mp_s]
        by_cases hjk : j = k
        · subst hjk; rw [up_s, if_pos (Nat.le_refl _)]
        · rw [up_n hjk, if_neg (by omega)]
    · rw [h4 i hi, mp_n (by omega)]
end SZ

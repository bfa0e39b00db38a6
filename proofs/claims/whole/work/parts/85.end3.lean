/-! behind the end: what always holds, holds again -/
section E3
variable {T : Nat} {s s' : gS}
theorem e_unmark {K : Nat} {od : Nat → Nat} (hK : K ≤ 500) (hod : ∀ q, q < K → od q < 500) : ∀ (d k : Nat) (m : gMem), k + d = K → m 1 4 = nI K → (∀ q, q < K → m 1 (600 + q) = nI (od q)) → ∃ m', (∀ Q, wX10_end_p72 (nI K) m' Q → wX10_end_p72 (nI k) m Q) ∧ (∀ j, (∀ q, k ≤ q → q < K → j ≠ 1105 + 10 * od q) → m' 1 j = m 1 j) ∧ (∀ q, k ≤ q → q < K → m' 1 (1105 + 10 * od q) = 0) ∧ ∀ i, i ≠ 1 → m' i = m i := by
  intro d
  induction d with
  | zero =>
    intro k m hk h4 ho
    have : k = K := by omega
    subst this
    exact ⟨m, fun _ q => q, fun _ _ => rfl, fun q h1 h2 => by omega, fun _ _ => rfl⟩
  | succ d ih =>
    intro k m hk h4 ho
    have hok := hod k (by omega)
    obtain ⟨m', M, h1, h2, h3⟩ := ih (k + 1) (mp m 1 (1105 + 10 * od k) 0) (by omega) (by rw [mp_s, up_n (by omega)]; exact h4) (fun q hq => by rw [mp_s, up_n (by omega)]; exact ho q hq)
    refine ⟨m', fun Q hQ P hP => hP _ _ ?_, fun j hj => ?_, fun q q1 q2 => ?_, fun i hi => by rw [h3 i hi, mp_n hi]⟩
    · unfold wX10_end_p72_b
      simp only [forall_eq, h4, nI_ge (show k < K by omega) (show K < 2 ^ 31 by omega), true_implies, not_false_eq_true, false_implies, true_and]
      rw [show (600 : Int32) + nI k = nI (600 + k) from nI_add 600 _, nI_clamp (by omega), ho k (by omega)]
      refine ⟨vp_in_nI (by omega) (by decide), ?_⟩
      rw [e_let5 hok, nI_1]
      exact M Q hQ P hP
    · rw [h1 j (fun q q1 q2 => hj q (by omega) q2), mp_s, up_n (hj k (by omega) (by omega))]
    · by_cases e : ∃ p, k + 1 ≤ p ∧ p < K ∧ od p = od q
      · obtain ⟨p, p1, p2, pe⟩ := e
        rw [← pe]; exact h2 p p1 p2
      · have hq : q = k := by
          by_cases z : q = k
          · exact z
          · exact absurd ⟨q, by omega, q2, rfl⟩ e
        subst hq
        rw [h1 _ (fun p p1 p2 z => e ⟨p, p1, p2, by omega⟩), mp_s, up_s]
theorem end_SI {B : Nat} {w : Nat → Int32} (hI : aSI T s) (h3 : s 3 = 1) (hL : zL s = zK s)
    (e0 : ∀ k, k = 0 ∨ k = 1 ∨ (11 ≤ k ∧ k < 15) ∨ (20 ≤ k ∧ k < 44) ∨ (76 ≤ k ∧ k < 84) ∨ (400 ≤ k ∧ k < 600) → s' k = s k)
    (e2 : s' 2 = nI (ckN s (zM s))) (e16 : s' 16 = nI (psK s (zM s))) (e3 : s' 3 = 0) (e4 : s' 4 = 0) (e17 : s' 17 = 0)
    (ec : ∀ h, h < zM s → s' (1100 + 10 * h) = (if kpB s h then 1 else 0) ∧ (kpB s h = true → s' (1101 + 10 * h) = s (1101 + 10 * h) ∧ s' (1103 + 10 * h) = s (1103 + 10 * h) ∧ s' (1102 + 10 * h) = nI (psK s h)) ∧ s' (1105 + 10 * h) = 0)
    (ew : ∀ h, h < zM s → kpB s h = true → ∀ i, i < aSz s h → s' (6100 + (psK s h + i)) = w (aPs s h + i))
    (ez : ∀ k, psK s (zM s) ≤ k → k < zA s → s' (6100 + k) = 0)
    (hw1 : ∀ h, h < zM s → kpB s h = true → ∀ i, i < aSz s h → ¬ ((aKd s h = 3 ∨ aKd s h = 4) ∧ i = 2) → w (aPs s h + i) = s (6100 + (aPl s h + i)))
    (hw2 : ∀ h, h < zM s → kpB s h = true → (aKd s h = 3 ∨ aKd s h = 4) → kpH s (w (aPs s h + 2)))
    (esh : ∀ q, q < 32 → kpH s (s' (44 + q))) (hT : iT B s') (hP : iP s') : aSI B s' := by
  obtain ⟨⟨hp, hmk, it, ip, ig⟩, l1, l2⟩ := id hI
  obtain ⟨im, io, iu⟩ := id hmk
  obtain ⟨a1, a2, a3, a4, a5, a6, a7, a8, a9⟩ := id hp.1
  have hps := psK_le (s := s) (zM s)
  have zm : zM s' = zM s := nn_cong (e0 1 (by omega))
  have za : zA s' = zA s := nn_cong (e0 0 (by omega))
  have zu : zU s' = psK s (zM s) := nn_nI e16 (by omega)
  have zk : zK s' = 0 := nn_nI (n := 0) e4 (by decide)
  have zl : zL s' = 0 := nn_nI (n := 0) e17 (by decide)
  have lv : ∀ h, h < zM s → (aLv s' h ↔ kpB s h = true) := by
    intro h hh
    show s' (1100 + 10 * h) = 1 ↔ _
    rw [(ec h hh).1]
    by_cases k : kpB s h = true
    · rw [if_pos k]; exact ⟨fun _ => k, fun _ => rfl⟩
    · rw [if_neg k]; exact ⟨fun z => absurd z (by decide), fun z => absurd z k⟩
  have hcell : ∀ h, h < zM s → kpB s h = true → aKd s' h = aKd s h ∧ aMn s' h = aMn s h ∧ aSz s' h = aSz s h ∧ aLk s' h = aLk s h ∧ aLo s' h = aLo s h ∧ aPl s' h = psK s h := by
    intro h hh k
    obtain ⟨q1, q2, q3⟩ := (ec h hh).2.1 k
    have e1 : aKd s' h = aKd s h := nn_cong q1
    have e2 : aMn s' h = aMn s h := nn_cong q2
    have := psK_mono (s := s) (show h ≤ zM s by omega)
    refine ⟨e1, e2, by unfold aSz; rw [e1, e2], by unfold aLk; rw [e1, e2], by unfold aLo; rw [e1], nn_nI q3 (by omega)⟩
  have aps : ∀ j, j ≤ zM s → aPs s' j = psK s j := by
    intro j
    induction j with
    | zero => intro _; rfl
    | succ j ih =>
      intro hj
      by_cases k : kpB s j = true
      · rw [aPs_lv ((lv j (by omega)).mpr k), psK_s k, ih (by omega), (hcell j (by omega) k).2.2.1]
      · rw [aPs_dead (fun z => k ((lv j (by omega)).mp z)), psK_o k, ih (by omega)]
  have acn : ∀ j, j ≤ zM s → aCn s' j = ckN s j := by
    intro j
    induction j with
    | zero => intro _; rfl
    | succ j ih =>
      intro hj
      show aCn s' j + (if s' (1100 + 10 * j) = 1 then 1 else 0) = _
      by_cases k : kpB s j = true
      · rw [if_pos ((lv j (by omega)).mpr k), ckN_s k, ih (by omega)]
      · rw [if_neg (fun z => k ((lv j (by omega)).mp z)), ckN_o k, ih (by omega), Nat.add_zero]
  have hv : ∀ x, kpH s x → aHv s' x := by
    rintro x (e | ⟨t, ht, e, k⟩)
    · exact Or.inl e
    · exact Or.inr ⟨t, by omega, e, (lv t ht).mpr k⟩
  have mk : ∀ x, aMk s x → kpH s x := by
    rintro x (e | ⟨k, hk, e⟩)
    · exact Or.inl e
    · exact Or.inr ⟨aOd s k, (io k hk).2.1, e, (kp_mem a5 hmk (io k hk).2.1).mpr (Lst_mem.mpr ⟨k, hk, rfl⟩)⟩
  refine ⟨⟨⟨⟨?_, ?_, ?_, ?_, ?_, ?_, ?_, ?_, ?_⟩, fun h hh => ?_, fun k k1 k2 => ?_, fun h hh hl => ?_, fun r hr => ?_, fun q hq => hv _ (esh q hq), fun r hr => ?_⟩, ⟨⟨Or.inl e3, ?_, by omega, ?_, by omega, fun _ => zk⟩, fun k hk => by omega, fun h hh => Or.inl (ec h (by omega)).2.2⟩, hT, hP, ?_⟩, fun k hk => by omega, fun q => absurd (q.symm.trans e3) (by decide)⟩
  · rw [za, e0 0 (by omega)]; exact a1
  · omega
  · omega
  · rw [zm, e0 1 (by omega)]; exact a4
  · omega
  · rw [zu]; exact e16
  · rw [zu, zm, aps _ (Nat.le_refl _)]
  · omega
  · rw [zm, acn _ (Nat.le_refl _)]; exact e2
  · rw [zm] at hh
    by_cases k : kpB s h = true
    · obtain ⟨q1, q2, q3⟩ := (ec h hh).2.1 k
      obtain ⟨d1, d2, d3, d4, d5, d6⟩ := hcell h hh k
      obtain ⟨k1, k2, k3, k4, k5, k6, k7, k8, k9, k10, k11⟩ := hp_cell hp hh (kpB_t.mp k).1
      have szw : aKd s h = 3 ∨ aKd s h = 4 → aSz s h = aKd s h := sz_weak
      right
      refine ⟨(lv h hh).mpr k, by rw [d1, q1]; exact k1, by omega, by rw [d6]; exact q3, by rw [d6, aps _ (by omega)], by rw [d2, q2]; exact k5, by omega, ?_, fun z => ?_⟩
      · rw [d6, d1]
        have := ew h hh k 0 (by omega)
        rw [hw1 h hh k 0 (by omega) (by omega)] at this
        exact this.trans k7
      · rw [d6, d2]
        have := ew h hh k 1 (by omega)
        rw [hw1 h hh k 1 (by omega) (by omega)] at this
        rw [d1] at z
        rw [show 6100 + psK s h + 1 = 6100 + (psK s h + 1) by omega, this, ← k8 z]
        congr 1
    · left; rw [(ec h hh).1, if_neg k]
  · rw [zu] at k1; rw [za] at k2; exact ez k k1 k2
  · rw [zm] at hh
    have k := (lv h hh).mp hl
    obtain ⟨d1, d2, d3, d4, d5, d6⟩ := hcell h hh k
    obtain ⟨k1, k2, k3, k4, k5, k6, k7, k8, k9, k10, k11⟩ := hp_cell hp hh (kpB_t.mp k).1
    have hlk : aLk s h = lkN (aKd s h) (aMn s h) := rfl
    have hlo : aLo s h = loN (aKd s h) := rfl
    have hsz : aSz s h = szN (aKd s h) (aMn s h) := rfl
    have hge := (szN_ge (n := aMn s h) k2).1
    refine ⟨fun i hi => ?_, fun z => ?_⟩
    · rw [d4] at hi
      have hwk : ¬ ((aKd s h = 3 ∨ aKd s h = 4) ∧ aLo s h + i = 2) := by
        rintro ⟨z1 | z1, z2⟩
        · rw [hlk, z1] at hi; rw [hlo, z1] at z2
          have : lkN 3 (aMn s h) = 1 := rfl
          have : loN 3 = 1 := rfl
          omega
        · rw [hlk, z1] at hi; rw [hlo, z1] at z2
          have : lkN 4 (aMn s h) = 1 := rfl
          have : loN 4 = 1 := rfl
          omega
      have := ew h hh k (aLo s h + i) (by omega)
      rw [hw1 h hh k _ (by omega) hwk] at this
      have e : aLn s' h i = aLn s h i := by
        unfold aLn
        rw [d6, d5, show 6100 + psK s h + aLo s h + i = 6100 + (psK s h + (aLo s h + i)) by omega, this]
        congr 1; omega
      rw [e]
      obtain ⟨kk, hkk, ek⟩ := Lst_mem.mp ((kp_mem a5 hmk hh).mp k)
      have hth := (io kk hkk).2.2.2.2.2.2.1 (by omega)
      rw [ek] at hth
      have := l1 kk hkk i (by rw [ek, hth]; exact hi)
      rw [ek] at this
      exact hv _ (mk _ this)
    · rw [d1] at z
      have := ew h hh k 2 (by have := sz_weak z; omega)
      rw [d6, show 6100 + psK s h + 2 = 6100 + (psK s h + 2) by omega, this]
      exact hv _ (hw2 h hh k z)
  · rw [e0 _ (by omega)]; exact hv _ (mk _ (l2 h3 r hr))
  · rw [e0 _ (by omega), zm]; exact hp.2.2.2.2.2.2 r hr
  · rw [zk]; exact e4
  · rw [zl]; exact e17
  · exact iG_cong ⟨fun q h1 h2 => e0 q (by omega), fun q h1 h2 => e0 q (by omega), fun q h1 h2 => e0 q (by omega)⟩ ig
end E3

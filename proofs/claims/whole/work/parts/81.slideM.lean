/-! sliding in the reference -/
def slF (m0 : gMem) (s : gS) : Prop := aHp s ∧ m0 1 16 = nI (zU s) ∧ (∀ h, h < zM s → m0 1 (1100 + 10 * h) = (if kpB s h then 1 else 0) ∧ ∀ w, w = 1 ∨ w = 3 ∨ w = 5 ∨ w = 6 ∨ w = 7 ∨ w = 8 → m0 1 (1100 + w + 10 * h) = s (1100 + w + 10 * h)) ∧ ∀ h, h < zM s → aLv s h → m0 1 (6100 + aPs s h) = nI (8 * h + aKd s h)
def slM (m0 : gMem) (s : gS) (L0 : List Int32) (j : Nat) (m : gMem) : Prop :=
  (∀ k, k ≠ 8 → k ≠ 15 → k < 6100 → (∀ h, h < j → k ≠ 1102 + 10 * h ∧ k ≠ 1104 + 10 * h) → m 1 k = m0 1 k) ∧ (∀ i, i ≠ 1 → i ≠ 4 → m i = m0 i) ∧ (∀ k, k < 4000 → m 1 (6100 + k) = wdS s (fun k => m0 1 (6100 + k)) j k) ∧ (∀ h, h < j → kpB s h = true → m 1 (1102 + 10 * h) = nI (psK s h) ∧ m 1 (1104 + 10 * h) = nI (aPs s h) - nI (psK s h)) ∧ m 1 8 = nI (mvN s j) ∧ (∀ b, b ≠ 13 → m 4 b = m0 4 b) ∧ m 4 13 = m0 4 13 + nI (mvN s j) ∧ pM (L0 ++ plL s (fun k => m0 1 (6100 + k)) j) m
section SLM
variable {m0 m : gMem} {s : gS} {L0 : List Int32} {j : Nat}
theorem slM.skip (hn : ¬ kpB s j = true) (h : slM m0 s L0 j m) : slM m0 s L0 (j + 1) m := by
  obtain ⟨h1, h2, h3, h4, h5, h6, h7, h8⟩ := h
  refine ⟨fun k a b d e => h1 k a b d (fun h hh => e h (by omega)), h2, by rw [wdS_o hn]; exact h3, fun g hg kg => ?_, by rw [mvN_o hn]; exact h5, h6, by rw [mvN_o hn]; exact h7, by rw [plL_o hn]; exact h8⟩
  by_cases e : g = j
  · subst e; exact absurd kg hn
  · exact h4 g (by omega) kg
theorem sl_step (F : slF m0 s) (hL0 : L0.length = 25) (hck : ckN s (zM s) ≤ 500) (hj : j < zM s) (h : slM m0 s L0 j m) : ∃ m', (∀ Q, wX10_slide_p50 (nI (psK s (j + 1))) (nI (aPs s (j + 1))) m' Q → wX10_slide_p50 (nI (psK s j)) (nI (aPs s j)) m Q) ∧ slM m0 s L0 (j + 1) m' := by
  obtain ⟨hp, f16, f1, f2⟩ := F
  by_cases hl : aLv s j
  · obtain ⟨k1, k2, k3, k4, k5, k6, k7, k8, k9, k10, k11⟩ := hp_cell hp hj hl
    obtain ⟨h1, h2, h3, h4, h5, h6, h7, h8⟩ := id h
    have hM : zM s ≤ 500 := hp.1.2.2.2.2.1
    rw [k4] at k9
    have m16 : m 1 16 = nI (zU s) := by rw [h1 16 (by decide) (by decide) (by decide) (fun h hh => by omega)]; exact f16
    have hge : ¬ nI (zU s) ≤ nI (aPs s j) := nI_ge (by omega) (by omega)
    have mc : ∀ w, w = 1 ∨ w = 3 ∨ w = 5 ∨ w = 6 ∨ w = 7 ∨ w = 8 → m 1 (1100 + w + 10 * j) = s (1100 + w + 10 * j) := fun w hw => by
      rw [h1 _ (by omega) (by omega) (by omega) (fun h hh => by omega)]; exact (f1 j hj).2 w hw
    have mc0 : m 1 (1100 + 10 * j) = (if kpB s j then 1 else 0) := by
      rw [h1 _ (by omega) (by omega) (by omega) (fun h hh => by omega)]; exact (f1 j hj).1
    have mhd : m 1 (6100 + aPs s j) = nI (8 * j + aKd s j) := by rw [h3 _ (by omega), wd_hi j _ (Nat.le_refl _)]; exact f2 j hj hl
    have mk : m 1 (1101 + 10 * j) = nI (aKd s j) := (mc 1 (by omega)).trans k1
    have mn : m 1 (1103 + 10 * j) = nI (aMn s j) := (mc 3 (by omega)).trans k5
    have hshr : nI (8 * j + aKd s j) >>> (3 &&& 31) = nI j := by
      rw [pk_shrN (by omega) _ 3 (by decide)]; congr 1; omega
    have hps := psK_le (s := s) j
    have hhead : ∀ (P : Int32 → Int32 → gMem → Prop) (Q : gMem → Prop), ((kpB s j = true → wX10_lets (nI j) 4 (nI (aPs s j) - nI (psK s j)) m (fun c10 => ∀ v11, v11 = c10 1 8 → ((nI (aPs s j) ≤ nI (psK s j) → wX10_slide_p118 P (nI (psK s j)) (nI (aPs s j)) (nI j) (nI (aSz s j)) 0 v11 8 c10 Q) ∧ (¬ nI (aPs s j) ≤ nI (psK s j) → wX10_slide_p118 P (nI (psK s j)) (nI (aPs s j)) (nI j) (nI (aSz s j)) 1 v11 8 c10 Q)))) ∧ (¬ kpB s j = true → wX10_slide_p199 P (nI (psK s j)) (nI (aPs s j)) (nI (aSz s j)) m Q)) → wX10_slide_p50_b P (nI (psK s j)) (nI (aPs s j)) m Q := by
      intro P Q hV
      unfold wX10_slide_p50_b
      simp only [forall_eq, m16, hge, true_implies, not_false_eq_true, false_implies, true_and]
      rw [show (6100 : Int32) + nI (aPs s j) = nI (6100 + aPs s j) from nI_add 6100 _, nI_clamp (by omega), mhd, hshr]
      refine ⟨vp_in_nI (by omega) (by decide), ?_⟩
      rw [e_sizeAt (by omega) mk k2 mn k6, e_of0 (by omega), mc0]
      by_cases kj : kpB s j = true
      · rw [if_pos kj]
        simp only [true_implies, not_true_eq_false, false_implies, and_true]
        have := hV.1 kj
        simp only [forall_eq] at this
        exact this
      · rw [if_neg kj]
        simp only [i32_01, true_implies, not_false_eq_true, false_implies, true_and]
        exact hV.2 kj
    by_cases kj : kpB s j = true
    · -- kept
      have hx : ∃ x : Int32, x = nI (mv1 s j) ∧ ((nI (aPs s j) ≤ nI (psK s j) → x = 0) ∧ (¬ nI (aPs s j) ≤ nI (psK s j) → x = 1)) := by
        refine ⟨_, rfl, fun q => ?_, fun q => ?_⟩
        · have := (nI_leI (show aPs s j < 2 ^ 31 by omega) (show psK s j < 2 ^ 31 by omega)).mp q
          unfold mv1; rw [if_neg (by omega)]; rfl
        · have : ¬ aPs s j ≤ psK s j := fun z => q (nI_le z (by omega))
          unfold mv1; rw [if_pos (by omega)]; rfl
      obtain ⟨x, hx1, hx2, hx3⟩ := hx
      -- the state before the words move
      have hA : ∃ mA, (∀ (P : Int32 → Int32 → gMem → Prop) (Q : gMem → Prop), wX10_slide_p150 P (nI (psK s j)) (nI (aPs s j)) (nI j) (nI (aSz s j)) 0 mA Q → wX10_slide_p50_b P (nI (psK s j)) (nI (aPs s j)) m Q) ∧ mA 1 = upd (upd (upd (m 1) (1104 + 10 * j) (nI (aPs s j) - nI (psK s j))) 8 (nI (mvN s (j + 1)))) (1102 + 10 * j) (nI (psK s j)) ∧ mA 4 = upd (m 4) 13 (m0 4 13 + nI (mvN s (j + 1))) ∧ ∀ i, i ≠ 1 → i ≠ 4 → mA i = m i := by
        refine ⟨mp (mp (mp (mp m 1 (1104 + 10 * j) (nI (aPs s j) - nI (psK s j))) 1 8 (nI (mvN s (j + 1)))) 4 13 (m0 4 13 + nI (mvN s (j + 1)))) 1 (1102 + 10 * j) (nI (psK s j)), fun P Q hV => hhead P Q ⟨fun _ => ?_, fun q => absurd kj q⟩, ?_, ?_, fun i h1 h4 => ?_⟩
        · rw [e_let4 (by omega)]
          have key : wX10_slide_p118 P (nI (psK s j)) (nI (aPs s j)) (nI j) (nI (aSz s j)) x (nI (mvN s j)) 8 (mp m 1 (1104 + 10 * j) (nI (aPs s j) - nI (psK s j))) Q := by
            unfold wX10_slide_p118
            rw [show (8 : Int32).toNatClampNeg = 8 by decide]
            refine ⟨(show vp_in (nI 8) 26100 from vp_in_nI (by decide) (by decide)), ?_⟩
            have k13 : ∀ mm : gMem, mm = mp (mp m 1 (1104 + 10 * j) (nI (aPs s j) - nI (psK s j))) 1 8 (nI (mvN s (j + 1))) → wX10_slide_p138 P (nI (psK s j)) (nI (aPs s j)) (nI j) (nI (aSz s j)) x (mm 4 13) 13 mm Q := by
              intro mm hmm
              unfold wX10_slide_p138
              rw [show (13 : Int32).toNatClampNeg = 13 by decide]
              refine ⟨(show vp_in (nI 13) 14 from vp_in_nI (by decide) (by decide)), ?_⟩
              simp only [forall_eq]
              rw [e_let2 (by omega)]
              have e13 : mm 4 13 + x = m0 4 13 + nI (mvN s (j + 1)) := by rw [hmm, mp_n (by decide), mp_n (by decide), h7, hx1, mvN_s kj, Int32.add_assoc, nI_add]
              rw [e13, hmm]; exact hV
            simp only [forall_eq]
            have e8 : nI (mvN s j) + x = nI (mvN s (j + 1)) := by rw [hx1, nI_add, mvN_s kj]
            rw [e8]
            refine ⟨fun q => ?_, fun q => ?_⟩
            · have := k13 _ rfl; rw [hx2 q] at this; exact this
            · have := k13 _ rfl; rw [hx3 q] at this; exact this
          simp only [forall_eq, mp_s, up_n (show (8 : Nat) ≠ 1104 + 10 * j by omega), h5]
          refine ⟨fun q => ?_, fun q => ?_⟩
          · have := key; rw [hx2 q] at this; exact this
          · have := key; rw [hx3 q] at this; exact this
        · rw [mp_s, mp_n (by decide), mp_s, mp_s]
        · rw [mp_n (by decide), mp_s, mp_n (by decide), mp_n (by decide)]
        · rw [mp_n h1, mp_n h4, mp_n h1, mp_n h1]
      obtain ⟨mA, MA, a1, a4, ao⟩ := hA
      have a1o : ∀ k, k ≠ 1104 + 10 * j → k ≠ 8 → k ≠ 1102 + 10 * j → mA 1 k = m 1 k := fun k q1 q2 q3 => by rw [a1, up_n q3, up_n q2, up_n q1]
      -- the words move
      have hCex : ∀ P50 : Int32 → Int32 → gMem → Prop, ∃ m', (∀ Q, wX10_slide_p150 P50 (nI (psK s j)) (nI (aPs s j)) (nI j) (nI (aSz s j)) (nI (aSz s j)) m' Q → wX10_slide_p150 P50 (nI (psK s j)) (nI (aPs s j)) (nI j) (nI (aSz s j)) 0 mA Q) ∧ (∀ k, m' 1 (6100 + k) = if psK s j ≤ k ∧ k < psK s j + aSz s j then mA 1 (6100 + (aPs s j + (k - psK s j))) else mA 1 (6100 + k)) ∧ (∀ k, k < 6100 ∨ 10100 ≤ k → m' 1 k = mA 1 k) ∧ ∀ i, i ≠ 1 → m' i = mA i := fun P50 => e_copyLoop hps (by omega) (aSz s j) 0 mA (by omega)
      have hmB : ∃ mB : gMem, mB = mr mA 1 (fun q => if 6100 ≤ q ∧ q < 10100 then (if psK s j ≤ q - 6100 ∧ q - 6100 < psK s j + aSz s j then mA 1 (6100 + (aPs s j + (q - 6100 - psK s j))) else mA 1 q) else mA 1 q) := ⟨_, rfl⟩
      obtain ⟨mB, emB⟩ := hmB
      have b1w : ∀ k, k < 4000 → mB 1 (6100 + k) = if psK s j ≤ k ∧ k < psK s j + aSz s j then mA 1 (6100 + (aPs s j + (k - psK s j))) else mA 1 (6100 + k) := fun k hk => by
        rw [emB, mr_s, if_pos (by omega), show 6100 + k - 6100 = k by omega]
      have b1o : ∀ k, k < 6100 ∨ 10100 ≤ k → mB 1 k = mA 1 k := fun k hk => by rw [emB, mr_s, if_neg (by omega)]
      have bo : ∀ i, i ≠ 1 → mB i = mA i := fun i hi => by rw [emB, mr_n hi]
      have MB : ∀ (P50 : Int32 → Int32 → gMem → Prop) (Q : gMem → Prop), wX10_slide_p150 P50 (nI (psK s j)) (nI (aPs s j)) (nI j) (nI (aSz s j)) (nI (aSz s j)) mB Q → wX10_slide_p150 P50 (nI (psK s j)) (nI (aPs s j)) (nI j) (nI (aSz s j)) 0 mA Q := by
        intro P50 Q
        obtain ⟨m', M', w1, w2, w3⟩ := hCex P50
        have : m' = mB := by
          funext i
          by_cases hi : i = 1
          · subst hi
            funext q
            by_cases hq : q < 6100 ∨ 10100 ≤ q
            · rw [w2 q hq, b1o q hq]
            · obtain ⟨k, rfl⟩ : ∃ k, q = 6100 + k := ⟨q - 6100, by omega⟩
              rw [w1 k, b1w k (by omega)]
          · rw [w3 i hi, bo i hi]
        rw [this] at M'
        exact M' Q
      -- the row of the paper
      have wB : ∀ k, k < 4000 → mB 1 (6100 + k) = wdS s (fun k => m0 1 (6100 + k)) (j + 1) k := by
        intro k hk
        rw [b1w k hk, wdS_s kj]
        unfold va_cpy
        split
        · rw [a1o _ (by omega) (by omega) (by omega), h3 _ (by omega)]
        · rw [a1o _ (by omega) (by omega) (by omega), h3 _ (by omega)]
      have hlo : aLo s j = loN (aKd s j) := rfl
      have hlk : aLk s j = lkN (aKd s j) (aMn s j) := rfl
      have hsz : aSz s j = szN (aKd s j) (aMn s j) := rfl
      have hge2 := (szN_ge (n := aMn s j) k2).1
      have mcB : ∀ w, w = 1 ∨ w = 3 ∨ w = 5 ∨ w = 6 ∨ w = 7 ∨ w = 8 → mB 1 (1100 + w + 10 * j) = s (1100 + w + 10 * j) := fun w hw => by
        rw [b1o _ (by omega), a1o _ (by omega) (by omega) (by omega)]; exact mc w hw
      have pB : pM (L0 ++ plL s (fun k => m0 1 (6100 + k)) j) mB := by
        refine ⟨?_, fun k hk => ?_⟩
        · rw [b1o _ (by omega), a1o _ (by omega) (by omega) (by omega)]; exact h8.1
        · rw [b1o _ (by omega), a1o _ (by omega) (by omega) (by omega), b1o _ (by omega), a1o _ (by omega) (by omega) (by omega)]; exact h8.2 k hk
      have plen := pl_len (w := fun k => m0 1 (6100 + k)) hp (j + 1) (by omega)
      rw [plL_s kj, List.length_append, row_len] at plen
      have hck2 : ckN s (j + 1) ≤ ckN s (zM s) := by
        have : ∀ d, ckN s (j + 1) ≤ ckN s (j + 1 + d) := by
          intro d
          induction d with
          | zero => exact Nat.le_refl _
          | succ d ih => exact Nat.le_trans ih (Nat.le_add_right _ _)
        have := this (zM s - (j + 1))
        rw [show j + 1 + (zM s - (j + 1)) = zM s by omega] at this; exact this
      have hpsz := psK_s kj
      have hple := psK_le (s := s) (j + 1)
      have haps := aPs_le (s := s) (show j + 1 ≤ zM s by omega)
      have hzu : zU s = aPs s (zM s) := hp.1.2.2.2.2.2.2.1
      obtain ⟨mC, WC, pC, fC⟩ := e_writeCell (h := j) (k := aKd s j) (n := aMn s j) (p := psK s j) (L := L0 ++ plL s (fun k => m0 1 (6100 + k)) j) (m := mB) (a := s (1106 + 10 * j)) (b := s (1107 + 10 * j)) (c := s (1108 + 10 * j)) (d := s (1105 + 10 * j)) (f := fun i => m0 1 (6100 + (aPs s j + aLo s j + i))) (by omega) k2 (by rw [List.length_append, hL0]; omega) (by omega) ((mcB 1 (by omega)).trans k1) (by rw [b1o _ (by omega), a1, up_s]) ((mcB 3 (by omega)).trans k5) (mcB 6 (by omega)) (mcB 7 (by omega)) (mcB 8 (by omega)) (mcB 5 (by omega)) (fun i hi => by
        rw [show 6100 + psK s j + loN (aKd s j) + i = 6100 + (psK s j + (aLo s j + i)) by omega, wB _ (by omega), wd_cell kj (by omega) (j + 1) (by omega), show aPs s j + aLo s j + i = aPs s j + (aLo s j + i) by omega]) pB
      refine ⟨mC, fun Q hQ P hP => hP _ _ _ (MA P Q (MB P Q ?_)), fun k q1 q2 q3 q4 => ?_, fun i i1 i4 => ?_, fun k hk => ?_, fun g hg kg => ?_, ?_, fun b hb => ?_, ?_, ?_⟩
      · intro P' hP'
        refine hP' _ _ _ _ _ _ ?_
        unfold wX10_slide_p150_b
        simp only [Int32.le_refl, true_implies, not_true_eq_false, false_implies, and_true]
        refine WC _ ?_
        unfold wX10_slide_p199
        rw [nI_add, nI_add, ← hpsz, ← aPs_lv hl]
        exact hQ P hP
      · rw [fC.1 k q2 (by omega), b1o _ (by omega), a1o k (q4 j (by omega)).2 q1 (q4 j (by omega)).1]; exact h1 k q1 q2 q3 (fun h hh => q4 h (by omega))
      · rw [fC.2 i i1, bo i i1, ao i i1 i4]; exact h2 i i1 i4
      · rw [fC.1 _ (by omega) (by omega)]; exact wB k hk
      · rw [fC.1 _ (by omega) (by omega), fC.1 _ (by omega) (by omega), b1o _ (by omega), b1o _ (by omega)]
        by_cases e : g = j
        · subst e
          rw [a1, up_s, up_n (by omega), up_n (by omega), up_s]; exact ⟨rfl, rfl⟩
        · rw [a1o _ (by omega) (by omega) (by omega), a1o _ (by omega) (by omega) (by omega)]; exact h4 g (by omega) kg
      · rw [fC.1 _ (by omega) (by omega), b1o _ (by omega), a1, up_n (by omega), up_s]
      · rw [fC.2 4 (by decide), bo 4 (by decide), a4, up_n hb]; exact h6 b hb
      · rw [fC.2 4 (by decide), bo 4 (by decide), a4, up_s]
      · rw [plL_s kj]
        rw [List.append_assoc] at pC
        exact pC
    · refine ⟨m, fun Q hQ P hP => hP _ _ _ (hhead P Q ⟨fun q => absurd q kj, fun _ => ?_⟩), h.skip kj⟩
      unfold wX10_slide_p199
      have := hQ P hP
      rw [psK_o kj, aPs_lv hl] at this
      rw [nI_add]; exact this
  · have kj : ¬ kpB s j = true := fun q => hl (kpB_t.mp q).1
    refine ⟨m, fun Q hQ => ?_, h.skip kj⟩
    rw [psK_o kj, aPs_dead hl] at hQ; exact hQ
theorem sl_all (F : slF m0 s) (hL0 : L0.length = 25) (hck : ckN s (zM s) ≤ 500) : ∀ (d j : Nat) (m : gMem), j + d = zM s → slM m0 s L0 j m → ∃ m', (∀ Q, wX10_slide_p50 (nI (psK s (zM s))) (nI (aPs s (zM s))) m' Q → wX10_slide_p50 (nI (psK s j)) (nI (aPs s j)) m Q) ∧ slM m0 s L0 (zM s) m' := by
  intro d
  induction d with
  | zero =>
    intro j m hj h
    have : j = zM s := by omega
    subst this
    exact ⟨m, fun _ q => q, h⟩
  | succ d ih =>
    intro j m hj h
    obtain ⟨m1, M1, h1⟩ := sl_step F hL0 hck (by omega) h
    obtain ⟨m2, M2, h2⟩ := ih (j + 1) m1 (by omega) h1
    exact ⟨m2, fun Q q => M1 Q (M2 Q q), h2⟩
end SLM

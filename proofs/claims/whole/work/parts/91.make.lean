/-! make -/
section MK
variable {T : Nat} {c m : gMem} {k n : Nat}
theorem e_mkLinks {h U k L : Nat} {l1 l4 : Int32} (hh : h < 500) (hk : k ≤ 5) (hU : U + loN k + L ≤ 4000) : ∀ (d i : Nat) (m : gMem), i + d = L → m 1 (1101 + 10 * h) = nI k → m 1 (1102 + 10 * h) = nI U → ∃ f : gS, (∀ Q, wX10_makes_p269 l1 l4 (nI h) (nI L) (nI L) (mr m 1 f) Q → wX10_makes_p269 l1 l4 (nI h) (nI L) (nI i) m Q) ∧ ∀ j, f j = if 6100 + U + loN k + i ≤ j ∧ j < 6100 + U + loN k + L then -1 else m 1 j := by
  intro d
  induction d with
  | zero =>
    intro i m hi h1 h2
    have : i = L := by omega
    subst this
    refine ⟨m 1, fun Q hQ => by rw [mr_self] at hQ; exact hQ, fun j => by rw [if_neg (by omega)]⟩
  | succ d ih =>
    intro i m hi h1 h2
    obtain ⟨f, M, hf⟩ := ih (i + 1) (mp m 1 (6100 + U + loN k + i) (-1)) (by omega) (by rw [mp_s, up_n (by omega)]; exact h1) (by rw [mp_s, up_n (by omega)]; exact h2)
    refine ⟨f, fun Q hQ P hP => hP _ _ _ _ _ _ ?_, fun j => ?_⟩
    · unfold wX10_makes_p269_b
      simp only [nI_ge (show i < L by omega) (show L < 2 ^ 31 by omega), true_implies, not_false_eq_true, false_implies, true_and]
      rw [e_linkAt hh h1 hk h2, nI_clamp (by omega)]
      refine ⟨vp_in_nI (by omega) (by decide), ?_⟩
      simp only [forall_eq]
      rw [nI_1]
      refine M Q ?_ P hP
      unfold mp
      rw [mr_mr]; exact hQ
    · rw [hf, mp_s]
      by_cases e : 6100 + U + loN k + (i + 1) ≤ j ∧ j < 6100 + U + loN k + L
      · rw [if_pos e, if_pos (show 6100 + U + loN k + i ≤ j ∧ j < 6100 + U + loN k + L by omega)]
      · rw [if_neg e]
        by_cases e2 : j = 6100 + U + loN k + i
        · subst e2; rw [up_s, if_pos (by omega)]
        · rw [up_n e2, if_neg (by omega)]
theorem nw_eq {k n h o : Nat} {v : Int32} (hk : k ≤ 5) (ho : o < szN k n) (hv : v = 0) : (if (k = 3 ∨ k = 4) ∧ o = 2 then -1 else if loN k ≤ o ∧ o < loN k + lkN k n then -1 else if (k = 1 ∨ k = 2 ∨ k = 5) ∧ o = 1 then nI n else if o = 0 then nI (8 * h + k) else v) = nwW k n h o := by
  subst hv
  unfold nwW
  rcases (by omega : k = 0 ∨ k = 1 ∨ k = 2 ∨ k = 3 ∨ k = 4 ∨ k = 5) with rfl | rfl | rfl | rfl | rfl | rfl
  · have h1 : loN 0 = 1 := rfl
    have h2 : lkN 0 n = 2 := rfl
    have h3 : szN 0 n = 3 := rfl
    rw [h1, h2]; rw [h3] at ho
    repeat' split
    all_goals first | rfl | omega
  · have h1 : loN 1 = 2 := rfl
    have h2 : lkN 1 n = n := rfl
    have h3 : szN 1 n = 2 + n := rfl
    rw [h1, h2]; rw [h3] at ho
    repeat' split
    all_goals first | rfl | omega
  · have h1 : loN 2 = 1 := rfl
    have h2 : lkN 2 n = 0 := rfl
    rw [h1, h2]
    repeat' split
    all_goals first | rfl | omega
  · have h1 : loN 3 = 1 := rfl
    have h2 : lkN 3 n = 1 := rfl
    have h3 : szN 3 n = 3 := rfl
    rw [h1, h2]; rw [h3] at ho
    repeat' split
    all_goals first | rfl | omega
  · have h1 : loN 4 = 1 := rfl
    have h2 : lkN 4 n = 1 := rfl
    have h3 : szN 4 n = 4 := rfl
    rw [h1, h2]; rw [h3] at ho
    repeat' split
    all_goals first | rfl | omega
  · have h1 : loN 5 = 2 := rfl
    have h2 : lkN 5 n = n := rfl
    have h3 : szN 5 n = 2 + 2 * n := rfl
    rw [h1, h2]; rw [h3] at ho
    repeat' split
    all_goals first | rfl | omega
def mkA (s0 : gS) (k n : Nat) : gS := upd (upd (upd (upd (upd (upd (upd (upd s0 1 (nI (zM s0 + 1))) 2 (nI (aCn s0 (zM s0) + 1))) (1100 + 10 * zM s0) 1) (1101 + 10 * zM s0) (nI k)) (1102 + 10 * zM s0) (nI (zU s0))) (1103 + 10 * zM s0) (nI n)) (1104 + 10 * zM s0) 0) (1105 + 10 * zM s0) 0
def mkB (s0 : gS) (k n : Nat) : gS := if k = 1 ∨ k = 2 ∨ k = 5 then upd (upd (mkA s0 k n) (6100 + zU s0) (nI (8 * zM s0 + k))) (6100 + zU s0 + 1) (nI n) else upd (mkA s0 k n) (6100 + zU s0) (nI (8 * zM s0 + k))
theorem mkA_o {s0 : gS} {j : Nat} (h1 : j ≠ 1) (h2 : j ≠ 2) (hc : ¬ (1100 + 10 * zM s0 ≤ j ∧ j ≤ 1105 + 10 * zM s0)) : mkA s0 k n j = s0 j := by
  unfold mkA
  rw [up_n (by omega), up_n (by omega), up_n (by omega), up_n (by omega), up_n (by omega), up_n (by omega), up_n h2, up_n h1]
theorem mkB_lo {s0 : gS} {j : Nat} (hj : j < 6100) : mkB s0 k n j = mkA s0 k n j := by
  unfold mkB
  split
  · rw [up_n (by omega), up_n (by omega)]
  · rw [up_n (by omega)]
theorem mkB_w {s0 : gS} (hM : zM s0 < 500) {j : Nat} (hj : 6100 ≤ j) : mkB s0 k n j = if (k = 1 ∨ k = 2 ∨ k = 5) ∧ j = 6100 + zU s0 + 1 then nI n else if j = 6100 + zU s0 then nI (8 * zM s0 + k) else s0 j := by
  have hA : mkA s0 k n j = s0 j := mkA_o (by omega) (by omega) (by omega)
  unfold mkB
  by_cases hm : k = 1 ∨ k = 2 ∨ k = 5
  · rw [if_pos hm]
    by_cases e1 : j = 6100 + zU s0 + 1
    · rw [if_pos ⟨hm, e1⟩]; subst e1; rw [up_s]
    · rw [if_neg (fun z => e1 z.2), up_n e1]
      by_cases e0 : j = 6100 + zU s0
      · rw [if_pos e0]; subst e0; rw [up_s]
      · rw [if_neg e0, up_n e0, hA]
  · rw [if_neg hm, if_neg (fun z => hm z.1)]
    by_cases e0 : j = 6100 + zU s0
    · rw [if_pos e0]; subst e0; rw [up_s]
    · rw [if_neg e0, up_n e0, hA]
set_option maxHeartbeats 4000000 in
theorem e_make (hI : aSI T (m 1)) (hk : k ≤ 5) (hn : n ≤ 300) (hM : zM (m 1) < 500) (hU : zU (m 1) + szN k n ≤ zA (m 1)) : ∃ s', adE (m 1) s' k n ∧ ∀ Q : Int32 → gMem → Prop, ((s' 3 = 1 → wX10_mark (nI (zM (m 1))) 5 (-1) (-1) (mr m 1 s') (fun c5 => Q (nI (zM (m 1))) c5)) ∧ (¬ s' 3 = 1 → Q (nI (zM (m 1))) (mr m 1 s'))) → wX10_makes_p127 (nI k) (nI n) (nI (szN k n)) m Q := by
  obtain ⟨a1, a2, a3, a4, a5, a6, a7, a8, a9⟩ := id hI.1.1.1
  have hz2 := szN_ge (n := n) hk
  have hold := hI.1.1.2.2.1
  have hs0 : ∃ s0 : gS, s0 = m 1 := ⟨_, rfl⟩
  obtain ⟨s0, es0⟩ := hs0
  unfold iZ at hold
  rw [← es0] at a1 a2 a3 a4 a5 a6 a7 a8 a9 hM hU hold ⊢
  have hm : m = mr m 1 s0 := by rw [es0, mr_self]
  have A0 : mkA s0 k n (1100 + 10 * zM s0) = 1 := by unfold mkA; rw [up_n (by omega), up_n (by omega), up_n (by omega), up_n (by omega), up_n (by omega), up_s]
  have A1 : mkA s0 k n (1101 + 10 * zM s0) = nI k := by unfold mkA; rw [up_n (by omega), up_n (by omega), up_n (by omega), up_n (by omega), up_s]
  have A2 : mkA s0 k n (1102 + 10 * zM s0) = nI (zU s0) := by unfold mkA; rw [up_n (by omega), up_n (by omega), up_n (by omega), up_s]
  have A3 : mkA s0 k n (1103 + 10 * zM s0) = nI n := by unfold mkA; rw [up_n (by omega), up_n (by omega), up_s]
  have A4 : mkA s0 k n (1104 + 10 * zM s0) = 0 := by unfold mkA; rw [up_n (by omega), up_s]
  have A5 : mkA s0 k n (1105 + 10 * zM s0) = 0 := by unfold mkA; rw [up_s]
  have A6 : mkA s0 k n 1 = nI (zM s0 + 1) := by unfold mkA; rw [up_n (by omega), up_n (by omega), up_n (by omega), up_n (by omega), up_n (by omega), up_n (by omega), up_n (by omega), up_s]
  have A7 : mkA s0 k n 2 = nI (aCn s0 (zM s0) + 1) := by unfold mkA; rw [up_n (by omega), up_n (by omega), up_n (by omega), up_n (by omega), up_n (by omega), up_n (by omega), up_s]
  have b1 : mkB s0 k n (1101 + 10 * zM s0) = nI k := by rw [mkB_lo (by omega)]; exact A1
  have b2 : mkB s0 k n (1102 + 10 * zM s0) = nI (zU s0) := by rw [mkB_lo (by omega)]; exact A2
  have b3 : mkB s0 k n (1103 + 10 * zM s0) = nI n := by rw [mkB_lo (by omega)]; exact A3
  have hlo1 : 1 ≤ loN k := by unfold loN; split <;> omega
  obtain ⟨f, ML, hf⟩ := e_mkLinks (h := zM s0) (U := zU s0) (k := k) (L := lkN k n) (l1 := nI k) (l4 := nI (szN k n)) hM hk (by omega) (lkN k n) 0 (mr m 1 (mkB s0 k n)) (by omega) (by rw [mr_s]; exact b1) (by rw [mr_s]; exact b2)
  rw [mr_s] at hf
  have ML' : ∀ Q, wX10_makes_p269 (nI k) (nI (szN k n)) (nI (zM s0)) (nI (lkN k n)) (nI (lkN k n)) (mr m 1 f) Q → wX10_makes_p269 (nI k) (nI (szN k n)) (nI (zM s0)) (nI (lkN k n)) 0 (mr m 1 (mkB s0 k n)) Q := fun Q hQ => ML Q (by rw [mr_mr]; exact hQ)
  have hD : ∃ sD : gS, sD = upd (if k = 3 ∨ k = 4 then upd f (6100 + zU s0 + 2) (-1) else f) 16 (nI (zU s0 + szN k n)) := ⟨_, rfl⟩
  obtain ⟨sD, d16⟩ := hD
  have flo : ∀ j, j < 6100 → f j = mkA s0 k n j := fun j hj => by rw [hf, if_neg (by omega), mkB_lo hj]
  have Dlo : ∀ j, j < 6100 → j ≠ 16 → sD j = mkA s0 k n j := fun j hj h16 => by
    rw [d16, up_n h16]
    split
    · rw [up_n (by omega)]; exact flo j hj
    · exact flo j hj
  have Dw : ∀ o, sD (6100 + (zU s0 + o)) = if (k = 3 ∨ k = 4) ∧ o = 2 then -1 else if loN k ≤ o ∧ o < loN k + lkN k n then -1 else if (k = 1 ∨ k = 2 ∨ k = 5) ∧ o = 1 then nI n else if o = 0 then nI (8 * zM s0 + k) else s0 (6100 + (zU s0 + o)) := by
    intro o
    have hfo : f (6100 + (zU s0 + o)) = if loN k ≤ o ∧ o < loN k + lkN k n then -1 else if (k = 1 ∨ k = 2 ∨ k = 5) ∧ o = 1 then nI n else if o = 0 then nI (8 * zM s0 + k) else s0 (6100 + (zU s0 + o)) := by
      rw [hf, mkB_w hM (by omega)]
      have e1 : (6100 + zU s0 + loN k + 0 ≤ 6100 + (zU s0 + o) ∧ 6100 + (zU s0 + o) < 6100 + zU s0 + loN k + lkN k n) = (loN k ≤ o ∧ o < loN k + lkN k n) := propext (by omega)
      have e2 : (6100 + (zU s0 + o) = 6100 + zU s0 + 1) = (o = 1) := propext (by omega)
      have e3 : (6100 + (zU s0 + o) = 6100 + zU s0) = (o = 0) := propext (by omega)
      simp only [e1, e2, e3]
    rw [d16, up_n (by omega)]
    by_cases hw : k = 3 ∨ k = 4
    · rw [if_pos hw]
      by_cases e : o = 2
      · rw [if_pos ⟨hw, e⟩]; subst e; rw [show 6100 + (zU s0 + 2) = 6100 + zU s0 + 2 by omega, up_s]
      · rw [if_neg (fun z => e z.2), up_n (by omega)]; exact hfo
    · rw [if_neg hw, if_neg (fun z => hw z.1)]; exact hfo
  have hzb : szN k n ≤ 602 := szN_le hn
  have hzw : (k = 3 ∨ k = 4) → 3 ≤ szN k n := by
    rintro (rfl | rfl)
    · exact Nat.le_refl 3
    · show 3 ≤ 4; omega
  refine ⟨sD, ⟨?_, ?_, ?_, ⟨?_, ?_, ?_, ?_, ?_, ?_⟩, fun o ho => ?_, fun j j1 j2 j16 jc jw => ?_⟩, fun Q hQ => ?_⟩
  · rw [Dlo _ (by omega) (by omega)]; exact A6
  · rw [Dlo _ (by omega) (by omega)]; exact A7
  · rw [d16, up_s]
  · rw [Dlo _ (by omega) (by omega)]; exact A0
  · rw [Dlo _ (by omega) (by omega)]; exact A1
  · rw [Dlo _ (by omega) (by omega)]; exact A2
  · rw [Dlo _ (by omega) (by omega)]; exact A3
  · rw [Dlo _ (by omega) (by omega)]; exact A4
  · rw [Dlo _ (by omega) (by omega)]; exact A5
  · rw [Dw o]; exact nw_eq hk ho (hold (zU s0 + o) (by omega) (by omega))
  · by_cases hj : j < 6100
    · rw [Dlo j hj j16, mkA_o j1 j2 jc]
    · have hfj : f j = s0 j := by
        rw [hf, if_neg (by omega), mkB_w hM (by omega), if_neg (by omega), if_neg (by omega)]
      rw [d16, up_n j16]
      by_cases hw : k = 3 ∨ k = 4
      · have := hzw hw
        rw [if_pos hw, up_n (by omega)]; exact hfj
      · rw [if_neg hw]; exact hfj
  · -- the walk
    have f16 : f 16 = nI (zU s0) := by rw [flo 16 (by decide), mkA_o (by decide) (by decide) (by omega)]; exact a6
    have f2 : f (1102 + 10 * zM s0) = nI (zU s0) := by rw [flo _ (by omega)]; exact A2
    have tail : ∀ g : gS, g 16 = nI (zU s0) → upd g 16 (nI (zU s0 + szN k n)) = sD → wX10_makes_p318 (nI (szN k n)) (nI (zM s0)) (mr m 1 g) Q := by
      intro g g16 eg
      unfold wX10_makes_p318
      simp only [forall_eq, mr_s, g16, nI_add, mp_mr, eg]
      exact hQ
    have walk1 : wX10_makes_p269 (nI k) (nI (szN k n)) (nI (zM s0)) (nI (lkN k n)) 0 (mr m 1 (mkB s0 k n)) Q := by
      refine ML' Q (fun P hP => hP _ _ _ _ _ _ ?_)
      unfold wX10_makes_p269_b
      simp only [Int32.le_refl, true_implies, not_true_eq_false, false_implies, and_true]
      have weak : k = 3 ∨ k = 4 → wX10_makes_p306 (nI (szN k n)) (nI (zM s0)) (mr m 1 f) Q := by
        intro hw
        unfold wX10_makes_p306
        rw [e_weakAt hM (by rw [mr_s]; exact f2), nI_clamp (by omega)]
        refine ⟨vp_in_nI (by omega) (by decide), ?_⟩
        simp only [forall_eq, mp_mr]
        refine tail _ (by rw [up_n (by omega)]; exact f16) ?_
        rw [d16, if_pos hw]
      refine ⟨fun q => weak (Or.inl (nI_inj (b := 3) (by omega) (by decide) q)), fun q3 => ⟨fun q => weak (Or.inr (nI_inj (b := 4) (by omega) (by decide) q)), fun q4 => ?_⟩⟩
      refine tail f f16 ?_
      rw [d16, if_neg]
      rintro (rfl | rfl)
      · exact q3 rfl
      · exact q4 rfl
    have walk2 : wX10_makes_p258 (nI k) (nI (szN k n)) (nI (zM s0)) (mr m 1 (mkB s0 k n)) Q := by
      unfold wX10_makes_p258
      rw [e_linksOf hM (by rw [mr_s]; exact b1) hk (by rw [mr_s]; exact b3)]
      exact walk1
    rw [hm]
    unfold wX10_makes_p127
    simp only [forall_eq, mr_s, mp_mr, a4, nI_1, up_n (show (2 : Nat) ≠ 1 by decide), a9]
    rw [e_let0 hM, e_let1 hM]
    simp only [mp_mr, mr_s, up_n (show (16 : Nat) ≠ 1101 + 10 * zM s0 by omega), up_n (show (16 : Nat) ≠ 1100 + 10 * zM s0 by omega), up_n (show (16 : Nat) ≠ 2 by decide), up_n (show (16 : Nat) ≠ 1 by decide), a6]
    rw [e_let2 hM, e_let3 hM, e_let4 hM, e_let5 hM]
    simp only [mp_mr]
    have eA : upd (upd (upd (upd (upd (upd (upd (upd s0 1 (nI (zM s0 + 1))) 2 (nI (aCn s0 (zM s0) + 1))) (1100 + 10 * zM s0) 1) (1101 + 10 * zM s0) (nI k)) (1102 + 10 * zM s0) (nI (zU s0))) (1103 + 10 * zM s0) (nI n)) (1104 + 10 * zM s0) 0) (1105 + 10 * zM s0) 0 = mkA s0 k n := rfl
    rw [eA]
    have A16 : mkA s0 k n 16 = nI (zU s0) := by rw [mkA_o (by decide) (by decide) (by omega)]; exact a6
    simp only [mr_s, A16]
    rw [show (6100 : Int32) + nI (zU s0) = nI (6100 + zU s0) from nI_add 6100 _, nI_clamp (by omega), show (8 : Int32) * nI (zM s0) = nI (8 * zM s0) from (Int32.ofNat_mul 8 (zM s0)).symm, nI_add]
    refine ⟨vp_in_nI (by omega) (by decide), ?_⟩
    by_cases hmn : k = 1 ∨ k = 2 ∨ k = 5
    · have eB : upd (upd (mkA s0 k n) (6100 + zU s0) (nI (8 * zM s0 + k))) (6100 + zU s0 + 1) (nI n) = mkB s0 k n := by unfold mkB; rw [if_pos hmn]
      rw [e_many1 hmn]
      simp only [i32_10, true_implies, not_false_eq_true, false_implies, true_and, mr_s, mp_mr, up_n (show (16 : Nat) ≠ 6100 + zU s0 by omega), A16]
      rw [show (6100 : Int32) + nI (zU s0) = nI (6100 + zU s0) from nI_add 6100 _, nI_1, nI_clamp (by omega), eB]
      exact ⟨vp_in_nI (by omega) (by decide), walk2⟩
    · have eB : upd (mkA s0 k n) (6100 + zU s0) (nI (8 * zM s0 + k)) = mkB s0 k n := by unfold mkB; rw [if_neg hmn]
      rw [e_many0 hmn hk, eB]
      simp only [true_implies, not_true_eq_false, false_implies, and_true]
      exact walk2
end MK

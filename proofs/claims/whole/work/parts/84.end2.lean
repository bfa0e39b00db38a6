/-! end, its second half: slid together, the paper written -/
def papL (s : gS) (f w g : Nat → Int32) (K n : Nat) : List Int32 := lkL f 24 ++ [nI K] ++ plL s w (zM s) ++ [nI n] ++ lkL g n
def papF (L : List Int32) : List Int32 := L ++ [smN (fun k => L.getD k 0) L.length]
section E2
variable {c m : gMem} {s : gS} {K n : Nat}
theorem pap_len {f w g : Nat → Int32} (hp : aHp s) (hn : ckN s (zM s) + n ≤ 500) : (papL s f w g K n).length + 1 ≤ 6527 := by
  have h1 := pl_len (w := w) hp (zM s) (Nat.le_refl _)
  have h2 := psK_le (s := s) (zM s)
  obtain ⟨a1, a2, a3, a4, a5, a6, a7, a8, a9⟩ := hp.1
  unfold papL
  simp only [List.length_append, List.length_singleton, lkL_len]
  omega
theorem ck_mono : ∀ {i j : Nat}, i ≤ j → ckN s i ≤ ckN s j := by
  intro i j h
  induction h with
  | refl => exact Nat.le_refl _
  | step _ ih => exact Nat.le_trans ih (Nat.le_add_right _ _)
theorem slide_M (F : slF m s) (h8 : m 1 8 = 0) (h6 : m 1 6 = nI K) (h7 : m 1 7 = nI n) (hn : ckN s (zM s) + n ≤ 500) :
    ∃ m', Dv (wX10_slide m) m' ∧ (∀ k, k ≠ 8 → k ≠ 15 → k ≠ 16 → k < 6100 → (∀ h, h < 500 → k ≠ 1102 + 10 * h ∧ k ≠ 1104 + 10 * h) → m' 1 k = m 1 k) ∧ (∀ i, i ≠ 1 → i ≠ 4 → m' i = m i) ∧ (∀ k, k < 4000 → m' 1 (6100 + k) = if psK s (zM s) ≤ k ∧ k < zU s then 0 else wdS s (fun k => m 1 (6100 + k)) (zM s) k) ∧ (∀ h, h < zM s → kpB s h = true → m' 1 (1102 + 10 * h) = nI (psK s h) ∧ m' 1 (1104 + 10 * h) = nI (aPs s h) - nI (psK s h)) ∧ m' 1 8 = nI (mvN s (zM s)) ∧ (∀ b, b ≠ 13 → m' 4 b = m 4 b) ∧ m' 4 13 = m 4 13 + nI (mvN s (zM s)) ∧ m' 1 16 = nI (psK s (zM s)) ∧ pM (papF (papL s (fun r => m 1 (20 + r)) (fun k => m 1 (6100 + k)) (m 5) K n)) m' := by
  obtain ⟨hp, f16, f1, f2⟩ := id F
  obtain ⟨a1, a2, a3, a4, a5, a6, a7, a8, a9⟩ := id hp.1
  have hps := psK_le (s := s) (zM s)
  have hlen := pap_len (f := fun r => m 1 (20 + r)) (w := fun k => m 1 (6100 + k)) (g := m 5) (K := K) hp hn
  have hlen2 := hlen
  unfold papL at hlen2
  simp only [List.length_append, List.length_singleton, lkL_len] at hlen2
  have hmA : ∀ k, k ≠ 15 → mp m 1 15 0 1 k = m 1 k := fun k hk => by rw [mp_s, up_n hk]
  obtain ⟨m5, M5, p5, fr5⟩ := e_roots (f := fun r => m 1 (20 + r)) 24 0 (mp m 1 15 0) (by omega) (fun r hr => hmA _ (by omega)) ⟨by rw [mp_s, up_s]; rfl, fun k hk => absurd hk (Nat.not_lt_zero _)⟩
  obtain ⟨m6, W6, p6, fr6⟩ := e_write (x := nI K) p5 (by rw [lkL_len]; omega)
  have o6 : ∀ k, k ≠ 15 → k < 10100 → m6 1 k = m 1 k := fun k h1 h2 => by rw [fr6.1 k h1 h2, fr5.1 k h1 h2, hmA k h1]
  have o6i : ∀ i, i ≠ 1 → m6 i = m i := fun i hi => by rw [fr6.2 i hi, fr5.2 i hi, mp_n hi]
  have w6 : (fun k => m6 1 (6100 + k)) = fun k => m6 1 (6100 + k) := rfl
  have F6 : slF m6 s := by
    refine ⟨hp, by rw [o6 _ (by omega) (by omega)]; exact f16, fun h hh => ⟨by rw [o6 _ (by omega) (by omega)]; exact (f1 h hh).1, fun w hw => by rw [o6 _ (by omega) (by omega)]; exact (f1 h hh).2 w hw⟩, fun h hh hl => ?_⟩
    obtain ⟨-, -, -, k4, -, -, -, -, k9, k10, k11⟩ := hp_cell hp hh hl
    rw [o6 _ (by omega) (by omega)]; exact f2 h hh hl
  have S6 : slM m6 s (lkL (fun r => m 1 (20 + r)) 24 ++ [nI K]) 0 m6 := by
    refine ⟨fun _ _ _ _ _ => rfl, fun _ _ _ => rfl, fun _ _ => rfl, fun h hh => absurd hh (Nat.not_lt_zero _), by rw [o6 8 (by decide) (by decide), h8]; rfl, fun _ _ => rfl, by show _ = _ + nI 0; exact (Int32.add_zero _).symm, by show pM (_ ++ []) m6; rw [List.append_nil]; exact p6⟩
  obtain ⟨m7, M7, s1, s2, s3, s4, s5, s6, s7, s8⟩ := sl_all F6 (by rw [List.length_append, lkL_len]; rfl) (by omega) (zM s) 0 m6 (by omega) S6
  have hwf : ∀ k, k < 4000 → (fun k => m6 1 (6100 + k)) k = (fun k => m 1 (6100 + k)) k := fun k hk => o6 _ (by omega) (by omega)
  have hpl : plL s (fun k => m6 1 (6100 + k)) (zM s) = plL s (fun k => m 1 (6100 + k)) (zM s) := pl_cong (U := 4000) hp (Nat.le_refl _) (by omega) hwf _ (Nat.le_refl _)
  rw [hpl] at s8
  have m716 : m7 1 16 = nI (zU s) := by rw [s1 16 (by decide) (by decide) (by decide) (fun h hh => by omega), o6 16 (by decide) (by decide)]; exact f16
  obtain ⟨m8, M8, z1, z2, z3⟩ := e_zero (U := zU s) (l1 := nI (psK s (zM s))) (by omega) (zU s - psK s (zM s)) (psK s (zM s)) m7 (by omega) m716
  have m816 : m8 1 16 = nI (zU s) := by rw [z2 _ (by omega)]; exact m716
  have o9 : ∀ k, k ≠ 16 → mp m8 1 16 (nI (psK s (zM s))) 1 k = m8 1 k := fun k hk => by rw [mp_s, up_n hk]
  have p9 : pM (lkL (fun r => m 1 (20 + r)) 24 ++ [nI K] ++ plL s (fun k => m 1 (6100 + k)) (zM s)) (mp m8 1 16 (nI (psK s (zM s)))) := by
    refine ⟨?_, fun k hk => ?_⟩
    · rw [o9 15 (by decide), z2 15 (by omega)]; exact s8.1
    · rw [o9 _ (by omega), o9 _ (by omega), z2 _ (by omega), z2 _ (by omega)]; exact s8.2 k hk
  have m97 : mp m8 1 16 (nI (psK s (zM s))) 1 7 = nI n := by
    rw [o9 7 (by decide), z2 7 (by omega), s1 7 (by decide) (by decide) (by decide) (fun h hh => by omega), o6 7 (by decide) (by decide)]; exact h7
  obtain ⟨m10, W10, p10, fr10⟩ := e_write (x := nI n) p9 (by simp only [List.length_append, List.length_singleton, lkL_len]; omega)
  obtain ⟨m11, M11, p11, fr11⟩ := e_given (f := m 5) (n := n) (L := lkL (fun r => m 1 (20 + r)) 24 ++ [nI K] ++ plL s (fun k => m 1 (6100 + k)) (zM s) ++ [nI n]) (by omega) (by simp only [List.length_append, List.length_singleton, lkL_len]; omega) n 0 m10 (by omega) (by rw [fr10.1 7 (by decide) (by decide)]; exact m97) (fun q hq => by rw [fr10.2 5 (by decide), mp_n (by decide), z3 5 (by decide), s2 5 (by decide) (by decide), o6i 5 (by decide)]) (by show pM (_ ++ []) m10; rw [List.append_nil]; exact p10)
  have p11' : pM (papL s (fun r => m 1 (20 + r)) (fun k => m 1 (6100 + k)) (m 5) K n) m11 := p11
  have hsum : smN (fun k => m11 1 (10100 + k)) (papL s (fun r => m 1 (20 + r)) (fun k => m 1 (6100 + k)) (m 5) K n).length = smN (fun k => (papL s (fun r => m 1 (20 + r)) (fun k => m 1 (6100 + k)) (m 5) K n).getD k 0) (papL s (fun r => m 1 (20 + r)) (fun k => m 1 (6100 + k)) (m 5) K n).length := smN_cong _ (fun k hk => (p11'.2 k hk).1)
  obtain ⟨m12, W12, p12, fr12⟩ := e_write (x := smN (fun k => m11 1 (10100 + k)) (papL s (fun r => m 1 (20 + r)) (fun k => m 1 (6100 + k)) (m 5) K n).length) p11' (by omega)
  have big : fM (mp m8 1 16 (nI (psK s (zM s)))) m12 := (fr10.tr fr11).tr fr12
  refine ⟨m12, fun Q hQ => ?_, fun k k8 k15 k16 k6 kh => ?_, fun i i1 i4 => ?_, fun k hk => ?_, fun h hh kh => ?_, ?_, fun b hb => ?_, ?_, ?_, ?_⟩
  · unfold wX10_slide
    simp only [forall_eq]
    refine M5 Q (fun P hP => hP _ _ ?_)
    unfold wX10_slide_p10_b
    simp only [Int32.le_refl, true_implies, not_true_eq_false, false_implies, and_true, forall_eq]
    rw [fr5.1 6 (by decide) (by decide), hmA 6 (by decide), h6]
    refine W6 _ (M7 Q (fun P2 hP2 => hP2 _ _ _ ?_))
    unfold wX10_slide_p50_b
    simp only [forall_eq, m716, show nI (zU s) ≤ nI (aPs s (zM s)) from nI_le (by omega) (by omega), true_implies, not_true_eq_false, false_implies, and_true]
    refine M8 Q (fun P3 hP3 => hP3 _ _ _ ?_)
    unfold wX10_slide_p209_b
    simp only [forall_eq, m816, Int32.le_refl, true_implies, not_true_eq_false, false_implies, and_true]
    rw [m97]
    refine W10 _ (M11 Q (fun P4 hP4 => hP4 _ _ ?_))
    unfold wX10_slide_p258_b
    have m117 : m11 1 7 = nI n := by rw [fr11.1 7 (by decide) (by decide), fr10.1 7 (by decide) (by decide)]; exact m97
    simp only [forall_eq, m117, Int32.le_refl, true_implies, not_true_eq_false, false_implies, and_true]
    exact e_sum p11'.1 (by omega) _ 0 (Nat.zero_add _) _ (W12 _ hQ)
  · rw [big.1 k k15 (by omega), o9 k k16, z2 k (by omega), s1 k k8 k15 k6 (fun h hh => kh h (by omega)), o6 k k15 (by omega)]
  · rw [big.2 i i1, mp_n i1, z3 i i1, s2 i i1 i4, o6i i i1]
  · rw [big.1 _ (by omega) (by omega), o9 _ (by omega), z1 k]
    split
    · rfl
    · rw [s3 k hk]; exact wd_cong (U := 4000) (by omega) hwf _ (Nat.le_refl _) k hk
  · rw [big.1 _ (by omega) (by omega), o9 _ (by omega), z2 _ (by omega), big.1 _ (by omega) (by omega), o9 _ (by omega), z2 _ (by omega)]; exact s4 h hh kh
  · rw [big.1 _ (by omega) (by omega), o9 _ (by omega), z2 _ (by omega)]; exact s5
  · rw [big.2 4 (by decide), mp_n (by decide), z3 4 (by decide), s6 b hb, o6i 4 (by decide)]
  · rw [big.2 4 (by decide), mp_n (by decide), z3 4 (by decide), s7, o6i 4 (by decide)]
  · rw [big.1 _ (by omega) (by omega), mp_s, up_s]
  · rw [hsum] at p12; exact p12
theorem slide_X (F : slG c s) (h21 : c 2 1 = nI (zU s)) : ∃ c', Dv (wX7_slideKept c) c' ∧ (∀ i, i ≠ 2 → i ≠ 3 → i ≠ 4 → i ≠ 5 → i ≠ 12 → i ≠ 64 → c' i = c i) ∧ (∀ k, k ≠ 1 → c' 2 k = c 2 k) ∧ c' 2 1 = nI (psK s (zM s)) ∧ (∀ k, c' 3 k = if psK s (zM s) ≤ k ∧ k < zU s then 0 else wdS s (c 3) (zM s) k) ∧ (∀ g, g < zM s → c' 4 g = if kpB s g then nI (psK s g) else -1) ∧ (∀ g, g < zM s → kpB s g = true → c' 5 g = nI (aPs s g) - nI (psK s g)) ∧ (∀ k, k ≠ 3 → c' 12 k = c 12 k) ∧ c' 12 3 = nI (mvN s (zM s)) ∧ (∀ b, b ≠ 13 → c' 64 b = c 64 b) ∧ c' 64 13 = c 64 13 + nI (mvN s (zM s)) := by
  obtain ⟨hp, f2, f4, f3⟩ := id F
  obtain ⟨a1, a2, a3, a4, a5, a6, a7, a8, a9⟩ := id hp.1
  have hps := psK_le (s := s) (zM s)
  have G : slG (mp c 12 3 0) s := ⟨hp, by rw [mp_n (by decide)]; exact f2, fun h hh => by rw [mp_n (by decide)]; exact f4 h hh, fun h hh k => by rw [mp_n (by decide)]; exact f3 h hh k⟩
  obtain ⟨c1, X1, s1, s2, s3, s4, s5, s6, s7, s8⟩ := slx_all G (zM s) 0 (mp c 12 3 0) (by omega) ⟨fun _ _ _ _ _ _ => rfl, rfl, fun g hg => by rw [if_neg (by omega)], fun g hg => absurd hg (Nat.not_lt_zero _), fun _ _ => rfl, by rw [mp_s, up_s]; rfl, fun _ _ => rfl, (Int32.add_zero _).symm⟩
  have c122 : c1 2 2 = nI (zM s) := by rw [s1 2 (by decide) (by decide) (by decide) (by decide) (by decide)]; exact G.2.1
  have c121 : c1 2 1 = nI (zU s) := by rw [s1 2 (by decide) (by decide) (by decide) (by decide) (by decide), mp_n (by decide)]; exact h21
  refine ⟨mp (mr c1 3 (fun j => if psK s (zM s) ≤ j ∧ j < zU s then 0 else c1 3 j)) 2 1 (nI (psK s (zM s))), fun Q hQ => ?_, fun i i2 i3 i4 i5 i12 i64 => ?_, fun k hk => ?_, ?_, fun k => ?_, fun g hg => ?_, fun g hg kg => ?_, fun k hk => ?_, ?_, fun b hb => ?_, ?_⟩
  · unfold wX7_slideKept
    simp only [forall_eq]
    refine X1 Q (fun P hP => hP _ _ _ ?_)
    unfold wX7_slideKept_p15_b wX2_freeFrom
    simp only [forall_eq, c122, c121, Int32.le_refl, true_implies, not_true_eq_false, false_implies, and_true]
    exact ⟨psK s (zM s), zU s, rfl, rfl, by omega, by omega, hQ⟩
  · rw [mp_n i2, mr_n i3, s1 i i3 i4 i5 i12 i64, mp_n i12]
  · rw [mp_s, up_n hk, mr_n (by decide), s1 2 (by decide) (by decide) (by decide) (by decide) (by decide), mp_n (by decide)]
  · rw [mp_s, up_s]
  · rw [mp_n (by decide), mr_s, s2, mp_n (by decide)]
  · rw [mp_n (by decide), mr_n (by decide), s3 g (by omega)]
    by_cases kg : kpB s g = true
    · rw [if_pos ⟨hg, kg⟩, if_pos kg]
    · rw [if_neg (fun z => kg z.2), if_neg kg, mp_n (by decide), f4 g hg, if_neg kg]
  · rw [mp_n (by decide), mr_n (by decide)]; exact s4 g hg kg
  · rw [mp_n (by decide), mr_n (by decide), s5 k hk, mp_s, up_n hk]
  · rw [mp_n (by decide), mr_n (by decide)]; exact s6
  · rw [mp_n (by decide), mr_n (by decide), s7 b hb, mp_n (by decide)]
  · rw [mp_n (by decide), mr_n (by decide), s8, mp_n (by decide)]
theorem paper_X {w : Nat → Int32} (hp : aHp s) (hn : ckN s (zM s) + n ≤ 500) (h2 : c 2 2 = nI (zM s)) (h23 : c 2 3 = nI K) (h65 : c 65 5 = nI n) (h4 : ∀ h, h < zM s → c 4 h = (if kpB s h then nI (psK s h) else -1)) (h3 : ∀ h, h < zM s → kpB s h = true → ∀ i, i < aSz s h → c 3 (psK s h + i) = w (aPs s h + i)) (hw : ∀ h, h < zM s → kpB s h = true → w (aPs s h) = nI (8 * h + aKd s h) ∧ (aMany (aKd s h) → w (aPs s h + 1) = nI (aMn s h)) ∧ c 9 h = s (1106 + 10 * h) ∧ c 10 h = s (1107 + 10 * h) ∧ c 11 h = s (1108 + 10 * h) ∧ c 8 h = s (1105 + 10 * h)) : ∃ c', Dv (wX7_writePaper c) c' ∧ fX c c' ∧ pX (papF (papL s (c 20) w (c 66) K n)) c' := by
  have hlen := pap_len (f := c 20) (w := w) (g := c 66) (K := K) hp hn
  have hlen2 := hlen
  unfold papL at hlen2
  simp only [List.length_append, List.length_singleton, lkL_len] at hlen2
  have f0 : fX c (mp c 14 0 0) := fun i a b d => mp_n a
  obtain ⟨c5, X5, p5, fr5⟩ := x_roots (f := c 20) 24 0 (mp c 14 0 0) (by omega) (fun r hr => by rw [mp_n (by decide)]) ⟨by rw [mp_s, up_s]; rfl, fun k hk => absurd hk (Nat.not_lt_zero _)⟩
  obtain ⟨c6, W6, p6, fr6⟩ := x_add (x := nI K) p5 (by rw [lkL_len]; omega)
  have g6 := (f0.tr fr5).tr fr6
  have hl : ∀ j, j ≤ zM s → 25 + (plL s w j).length ≤ 6527 := by
    intro j hj
    have h1 := pl_len (w := w) hp j hj
    have h2 := psK_le (s := s) j
    have h3 := aPs_le (s := s) hj
    have h4 := ck_mono (s := s) hj
    obtain ⟨a1, a2, a3, a4, a5, a6, a7, a8, a9⟩ := hp.1
    omega
  obtain ⟨c7, X7, p7, fr7⟩ := x_kept (L0 := lkL (c 20) 24 ++ [nI K]) (w := w) hp (by rw [List.length_append, lkL_len]; rfl) hl (zM s) 0 c6 (by omega) (by rw [g6 2 (by decide) (by decide) (by decide)]; exact h2) (fun h hh => by rw [g6 4 (by decide) (by decide) (by decide)]; exact h4 h hh) (fun h hh k => by rw [g6 3 (by decide) (by decide) (by decide)]; exact h3 h hh k) (fun h hh k => by rw [g6 8 (by decide) (by decide) (by decide), g6 9 (by decide) (by decide) (by decide), g6 10 (by decide) (by decide) (by decide), g6 11 (by decide) (by decide) (by decide)]; exact hw h hh k) (by show pX (_ ++ []) c6; rw [List.append_nil]; exact p6)
  have g7 := g6.tr fr7
  obtain ⟨c8, W8, p8, fr8⟩ := x_add (x := nI n) p7 (by simp only [List.length_append, List.length_singleton, lkL_len]; omega)
  have g8 := g7.tr fr8
  obtain ⟨c9, X9, p9, fr9⟩ := x_given (f := c 66) (n := n) (L := lkL (c 20) 24 ++ [nI K] ++ plL s w (zM s) ++ [nI n]) (by omega) (by simp only [List.length_append, List.length_singleton, lkL_len]; omega) n 0 c8 (by omega) (by rw [g8 65 (by decide) (by decide) (by decide)]; exact h65) (fun q hq => by rw [g8 66 (by decide) (by decide) (by decide)]) (by show pX (_ ++ []) c8; rw [List.append_nil]; exact p8)
  have g9 := g8.tr fr9
  have p9' : pX (papL s (c 20) w (c 66) K n) c9 := p9
  have hsum : smN (c9 15) (papL s (c 20) w (c 66) K n).length = smN (fun k => (papL s (c 20) w (c 66) K n).getD k 0) (papL s (c 20) w (c 66) K n).length := smN_cong _ (fun k hk => (p9'.2 k hk).1)
  obtain ⟨c10, W10, p10, fr10⟩ := x_add (x := smN (c9 15) (papL s (c 20) w (c 66) K n).length) p9' (by omega)
  refine ⟨c10, fun Q hQ => ?_, g9.tr fr10, by rw [hsum] at p10; exact p10⟩
  unfold wX7_writePaper
  simp only [forall_eq]
  refine X5 Q (fun P hP => hP _ _ ?_)
  unfold wX7_writePaper_p15_b
  simp only [Int32.le_refl, true_implies, not_true_eq_false, false_implies, and_true, forall_eq]
  rw [(f0.tr fr5) 2 (by decide) (by decide) (by decide), h23]
  refine W6 _ (X7 Q (fun P2 hP2 => hP2 _ _ ?_))
  unfold wX7_writePaper_p53_b
  have c722 : c7 2 2 = nI (zM s) := by rw [g7 2 (by decide) (by decide) (by decide)]; exact h2
  have c765 : c7 65 5 = nI n := by rw [g7 65 (by decide) (by decide) (by decide)]; exact h65
  simp only [forall_eq, c722, c765, Int32.le_refl, true_implies, not_true_eq_false, false_implies, and_true]
  refine W8 _ (X9 Q (fun P3 hP3 => hP3 _ _ ?_))
  unfold wX7_writePaper_p96_b wX4_sumOf
  have c965 : c9 65 5 = nI n := by rw [g9 65 (by decide) (by decide) (by decide)]; exact h65
  simp only [forall_eq, c965, p9'.1, Int32.le_refl, true_implies, not_true_eq_false, false_implies, and_true]
  exact x_sum (by omega) _ 0 (Nat.zero_add _) _ (W10 _ hQ)
end E2

/-! sliding in the class; the loops that write a paper -/
def slG (c0 : gMem) (s : gS) : Prop := aHp s ∧ c0 2 2 = nI (zM s) ∧ (∀ h, h < zM s → c0 4 h = (if kpB s h then nI (aPs s h) else -1)) ∧ ∀ h, h < zM s → kpB s h = true → c0 3 (aPs s h) = nI (8 * h + aKd s h) ∧ (aMany (aKd s h) → c0 3 (aPs s h + 1) = nI (aMn s h))
def slX (c0 : gMem) (s : gS) (j : Nat) (c : gMem) : Prop :=
  (∀ i, i ≠ 3 → i ≠ 4 → i ≠ 5 → i ≠ 12 → i ≠ 64 → c i = c0 i) ∧ c 3 = wdS s (c0 3) j ∧ (∀ g, g < 500 → c 4 g = if g < j ∧ kpB s g = true then nI (psK s g) else c0 4 g) ∧ (∀ g, g < j → kpB s g = true → c 5 g = nI (aPs s g) - nI (psK s g)) ∧ (∀ k, k ≠ 3 → c 12 k = c0 12 k) ∧ c 12 3 = nI (mvN s j) ∧ (∀ b, b ≠ 13 → c 64 b = c0 64 b) ∧ c 64 13 = c0 64 13 + nI (mvN s j)
section SLX
variable {c0 c : gMem} {s : gS} {j : Nat}
theorem slX.skip (hn : ¬ kpB s j = true) (h : slX c0 s j c) : slX c0 s (j + 1) c := by
  obtain ⟨h1, h2, h3, h4, h5, h6, h7, h8⟩ := h
  refine ⟨h1, by rw [wdS_o hn]; exact h2, fun g hg => ?_, fun g hg kg => ?_, h5, by rw [mvN_o hn]; exact h6, h7, by rw [mvN_o hn]; exact h8⟩
  · rw [h3 g hg]
    by_cases e : g < j ∧ kpB s g = true
    · rw [if_pos e, if_pos ⟨by omega, e.2⟩]
    · rw [if_neg e, if_neg]
      intro z
      by_cases e2 : g = j
      · subst e2; exact hn z.2
      · exact e ⟨by omega, z.2⟩
  · by_cases e : g = j
    · subst e; exact absurd kg hn
    · exact h4 g (by omega) kg
theorem va_self {f : Nat → Int32} {a n : Nat} : va_cpy f f a a n = f := by
  funext k
  unfold va_cpy
  split
  · congr 1; omega
  · rfl
theorem slx_step (F : slG c0 s) (hj : j < zM s) (h : slX c0 s j c) : ∃ c', (∀ Q, wX7_slideKept_p15 (nI (psK s (j + 1))) (nI (j + 1)) c' Q → wX7_slideKept_p15 (nI (psK s j)) (nI j) c Q) ∧ slX c0 s (j + 1) c' := by
  obtain ⟨hp, f2, f4, f3⟩ := F
  obtain ⟨h1, h2, h3, h4, h5, h6, h7, h8⟩ := id h
  have hM : zM s ≤ 500 := hp.1.2.2.2.2.1
  have c22 : c 2 2 = nI (zM s) := by rw [h1 2 (by decide) (by decide) (by decide) (by decide) (by decide)]; exact f2
  have hge : ¬ nI (zM s) ≤ nI j := nI_ge hj (by omega)
  have c4 : c 4 j = (if kpB s j then nI (aPs s j) else -1) := by rw [h3 j (by omega), if_neg (by omega)]; exact f4 j hj
  by_cases kj : kpB s j = true
  · have hl := (kpB_t.mp kj).1
    obtain ⟨k1, k2, k3, k4, k5, k6, k7, k8, k9, k10, k11⟩ := hp_cell hp hj hl
    rw [k4] at k9
    have hps := psK_le (s := s) j
    have cc4 : c 4 j = nI (aPs s j) := by rw [c4, if_pos kj]
    have cc3 : c 3 (aPs s j) = nI (8 * j + aKd s j) := by rw [h2, wd_hi j _ (Nat.le_refl _)]; exact (f3 j hj kj).1
    have cc3b : aMany (aKd s j) → c 3 (aPs s j + 1) = nI (aMn s j) := fun q => by rw [h2, wd_hi j _ (Nat.le_succ _)]; exact (f3 j hj kj).2 q
    have hints : ∀ Q : Int32 → gMem → Prop, wX2_intsOf (nI j) c Q = Q (nI (aSz s j)) c := fun Q => x_intsOf (by omega) cc4 (by omega) cc3 k2 cc3b k6
    have hhead : ∀ (P : Int32 → Int32 → gMem → Prop) (Q : gMem → Prop), wX2_slide (nI j) (nI (psK s j)) (nI (aSz s j)) c (fun r10 c9 => ((r10 = 0 → wX7_slideKept_p86 P (nI (psK s j)) (nI j) (nI (aSz s j)) c9 Q) ∧ (¬ r10 = 0 → ∀ v12, v12 = c9 12 3 → ∀ c13, c13 = mp c9 12 3 (v12 + 1) → ∀ v14, v14 = c13 64 13 → ∀ c15, c15 = mp c13 64 13 (v14 + 1) → wX7_slideKept_p86 P (nI (psK s j)) (nI j) (nI (aSz s j)) c15 Q))) → wX7_slideKept_p15_b P (nI (psK s j)) (nI j) c Q := by
      intro P Q hV
      unfold wX7_slideKept_p15_b
      simp only [forall_eq, c22, hge, true_implies, not_false_eq_true, false_implies, true_and]
      rw [x_has1 c22 hM hj cc4 (by omega)]
      simp only [i32_10, true_implies, not_false_eq_true, false_implies, true_and]
      rw [hints]
      simp only [forall_eq] at hV
      exact hV
    by_cases e : aPs s j = psK s j
    · have hmv : mvN s (j + 1) = mvN s j := by rw [mvN_s kj]; unfold mv1; rw [if_neg (by omega)]; rfl
      refine ⟨mp c 5 j (nI (aPs s j) - nI (psK s j)), fun Q hQ P hP => hP _ _ _ (hhead P Q ?_), fun i i3 i4 i5 i12 i64 => ?_, ?_, fun g hg => ?_, fun g hg kg => ?_, fun k hk => ?_, ?_, fun b hb => ?_, ?_⟩
      · unfold wX2_slide
        rw [nI_clamp (by omega)]
        refine ⟨vp_in_nI (by omega) (by decide), ?_⟩
        simp only [forall_eq, cc4]
        refine ⟨vp_in_nI (by omega) (by decide), ?_⟩
        have e' : nI (aPs s j) = nI (psK s j) := by rw [e]
        simp only [e', true_implies, not_true_eq_false, false_implies, and_true]
        unfold wX7_slideKept_p86 wX7_slideKept_p90
        rw [nI_add, nI_1, ← psK_s kj]
        have := hQ P hP
        rw [e'] at this; exact this
      · rw [mp_n i5]; exact h1 i i3 i4 i5 i12 i64
      · rw [mp_n (by decide), wdS_s kj, e, va_self]; exact h2
      · rw [mp_n (by decide), h3 g hg]
        by_cases q : g < j ∧ kpB s g = true
        · rw [if_pos q, if_pos ⟨by omega, q.2⟩]
        · rw [if_neg q]
          by_cases q2 : g = j
          · subst q2; rw [if_pos ⟨by omega, kj⟩, f4 g hj, if_pos kj, e]
          · rw [if_neg (fun z => q ⟨by omega, z.2⟩)]
      · rw [mp_s]
        by_cases q2 : g = j
        · subst q2; rw [up_s]
        · rw [up_n q2]; exact h4 g (by omega) kg
      · rw [mp_n (by decide)]; exact h5 k hk
      · rw [mp_n (by decide), hmv]; exact h6
      · rw [mp_n (by decide)]; exact h7 b hb
      · rw [mp_n (by decide), hmv]; exact h8
    · have hmv : mvN s (j + 1) = mvN s j + 1 := by rw [mvN_s kj]; unfold mv1; rw [if_pos (by omega)]
      refine ⟨mp (mp (mp (mr (mp c 5 j (nI (aPs s j) - nI (psK s j))) 3 (va_cpy (c 3) (c 3) (aPs s j) (psK s j) (aSz s j))) 4 j (nI (psK s j))) 12 3 (nI (mvN s j + 1))) 64 13 (c0 64 13 + nI (mvN s j + 1)), fun Q hQ P hP => hP _ _ _ (hhead P Q ?_), fun i i3 i4 i5 i12 i64 => ?_, ?_, fun g hg => ?_, fun g hg kg => ?_, fun k hk => ?_, ?_, fun b hb => ?_, ?_⟩
      · unfold wX2_slide
        rw [nI_clamp (by omega)]
        refine ⟨vp_in_nI (by omega) (by decide), ?_⟩
        simp only [forall_eq, cc4]
        refine ⟨vp_in_nI (by omega) (by decide), ?_⟩
        have e' : ¬ nI (aPs s j) = nI (psK s j) := fun q => e (nI_inj (by omega) (by omega) q)
        simp only [e', true_implies, not_false_eq_true, false_implies, true_and, nI_clamp (show aPs s j < 2 ^ 31 by omega), nI_clamp (show psK s j < 2 ^ 31 by omega), nI_clamp (show aSz s j < 2 ^ 31 by omega), i32_10, mp_n (show (3 : Nat) ≠ 5 by decide)]
        have nl : ∀ a : Nat, a < 2 ^ 31 → ¬ nI a < 0 := fun a ha q => by
          have := Int32.lt_iff_toInt_lt.mp q
          rw [nI_toInt ha] at this
          have z : (0 : Int32).toInt = 0 := by decide
          omega
        refine ⟨⟨nl _ (by omega), nl _ (by omega), nl _ (by omega), by omega, by omega⟩, vp_in_nI (by omega) (by decide), ?_⟩
        unfold wX7_slideKept_p86 wX7_slideKept_p90
        rw [nI_add, nI_1, ← psK_s kj]
        rw [show mp (mr (mp c 5 j (nI (aPs s j) - nI (psK s j))) 3 (va_cpy (c 3) (c 3) (aPs s j) (psK s j) (aSz s j))) 4 j (nI (psK s j)) 12 3 + 1 = nI (mvN s j + 1) by rw [mp_n (by decide), mr_n (by decide), mp_n (by decide), h6, nI_1]]
        rw [show mp (mp (mr (mp c 5 j (nI (aPs s j) - nI (psK s j))) 3 (va_cpy (c 3) (c 3) (aPs s j) (psK s j) (aSz s j))) 4 j (nI (psK s j))) 12 3 (nI (mvN s j + 1)) 64 13 + 1 = c0 64 13 + nI (mvN s j + 1) by rw [mp_n (by decide), mp_n (by decide), mr_n (by decide), mp_n (by decide), h8, Int32.add_assoc, nI_1]]
        exact hQ P hP
      · rw [mp_n i64, mp_n i12, mp_n i4, mr_n i3, mp_n i5]; exact h1 i i3 i4 i5 i12 i64
      · rw [mp_n (by decide), mp_n (by decide), mp_n (by decide), mr_s, wdS_s kj, h2]
      · rw [mp_n (by decide), mp_n (by decide), mp_s, mr_n (by decide), mp_n (by decide)]
        by_cases q2 : g = j
        · subst q2; rw [up_s, if_pos ⟨by omega, kj⟩]
        · rw [up_n q2, h3 g hg]
          by_cases q : g < j ∧ kpB s g = true
          · rw [if_pos q, if_pos ⟨by omega, q.2⟩]
          · rw [if_neg q, if_neg (fun z => q ⟨by omega, z.2⟩)]
      · rw [mp_n (by decide), mp_n (by decide), mp_n (by decide), mr_n (by decide), mp_s]
        by_cases q2 : g = j
        · subst q2; rw [up_s]
        · rw [up_n q2]; exact h4 g (by omega) kg
      · rw [mp_n (by decide), mp_s, up_n hk, mp_n (by decide), mr_n (by decide), mp_n (by decide)]; exact h5 k hk
      · rw [mp_n (by decide), mp_s, up_s, hmv]
      · rw [mp_s, up_n hb, mp_n (by decide), mp_n (by decide), mr_n (by decide), mp_n (by decide)]; exact h7 b hb
      · rw [mp_s, up_s, hmv]
  · have cc4 : c 4 j = -1 := by rw [c4, if_neg kj]
    refine ⟨c, fun Q hQ P hP => hP _ _ _ ?_, h.skip kj⟩
    unfold wX7_slideKept_p15_b wX7_slideKept_p90
    simp only [forall_eq, c22, hge, true_implies, not_false_eq_true, false_implies, true_and]
    rw [x_has0 c22 hM hj cc4]
    simp only [true_implies, not_true_eq_false, false_implies, and_true]
    have := hQ P hP
    rw [psK_o kj] at this
    rw [nI_1]; exact this
theorem slx_all (F : slG c0 s) : ∀ (d j : Nat) (c : gMem), j + d = zM s → slX c0 s j c → ∃ c', (∀ Q, wX7_slideKept_p15 (nI (psK s (zM s))) (nI (zM s)) c' Q → wX7_slideKept_p15 (nI (psK s j)) (nI j) c Q) ∧ slX c0 s (zM s) c' := by
  intro d
  induction d with
  | zero =>
    intro j c hj h
    have : j = zM s := by omega
    subst this
    exact ⟨c, fun _ q => q, h⟩
  | succ d ih =>
    intro j c hj h
    obtain ⟨c1, M1, h1⟩ := slx_step F (by omega) h
    obtain ⟨c2, M2, h2⟩ := ih (j + 1) c1 (by omega) h1
    exact ⟨c2, fun Q q => M1 Q (M2 Q q), h2⟩
/-! the loops that write -/
theorem e_roots {f : Nat → Int32} : ∀ (d r : Nat) (m : gMem), r + d = 24 → (∀ r, r < 24 → m 1 (20 + r) = f r) → pM (lkL f r) m → ∃ m', (∀ Q, wX10_slide_p10 24 m' Q → wX10_slide_p10 (nI r) m Q) ∧ pM (lkL f 24) m' ∧ fM m m' := by
  intro d
  induction d with
  | zero =>
    intro r m hr hf hp
    have : r = 24 := by omega
    subst this
    exact ⟨m, fun _ q => q, hp, fM.rf⟩
  | succ d ih =>
    intro r m hr hf hp
    obtain ⟨m1, W, p1, f1⟩ := e_write (x := f r) hp (by rw [lkL_len]; omega)
    obtain ⟨m2, M2, p2, f2⟩ := ih (r + 1) m1 (by omega) (fun q hq => by rw [f1.1 _ (by omega) (by omega)]; exact hf q hq) p1
    refine ⟨m2, fun Q hQ P hP => hP _ _ ?_, p2, f1.tr f2⟩
    unfold wX10_slide_p10_b
    simp only [show ¬ (24 : Int32) ≤ nI r from nI_ge (b := 24) (by omega) (by decide), true_implies, not_false_eq_true, false_implies, true_and, forall_eq]
    rw [show (20 : Int32) + nI r = nI (20 + r) from nI_add 20 _, nI_clamp (by omega), hf r (by omega)]
    refine ⟨vp_in_nI (by omega) (by decide), W _ ?_⟩
    rw [nI_1]; exact M2 Q hQ P hP
theorem x_roots {f : Nat → Int32} : ∀ (d r : Nat) (c : gMem), r + d = 24 → (∀ r, r < 24 → c 20 r = f r) → pX (lkL f r) c → ∃ c', (∀ Q, wX7_writePaper_p15 24 c' Q → wX7_writePaper_p15 (nI r) c Q) ∧ pX (lkL f 24) c' ∧ fX c c' := by
  intro d
  induction d with
  | zero =>
    intro r m hr hf hp
    have : r = 24 := by omega
    subst this
    exact ⟨m, fun _ q => q, hp, fX.rf⟩
  | succ d ih =>
    intro r m hr hf hp
    obtain ⟨m1, W, p1, f1⟩ := x_add (x := f r) hp (by rw [lkL_len]; omega)
    obtain ⟨m2, M2, p2, f2⟩ := ih (r + 1) m1 (by omega) (fun q hq => by rw [f1 20 (by decide) (by decide) (by decide)]; exact hf q hq) p1
    refine ⟨m2, fun Q hQ P hP => hP _ _ ?_, p2, f1.tr f2⟩
    unfold wX7_writePaper_p15_b
    simp only [show ¬ (24 : Int32) ≤ nI r from nI_ge (b := 24) (by omega) (by decide), true_implies, not_false_eq_true, false_implies, true_and, forall_eq]
    rw [nI_clamp (by omega), hf r (by omega)]
    refine ⟨vp_in_nI (by omega) (by decide), W _ ?_⟩
    rw [nI_1]; exact M2 Q hQ P hP
theorem e_given {L : List Int32} {n : Nat} {f : Nat → Int32} (hn : n ≤ 500) (hL : L.length + n ≤ 7000) : ∀ (d q : Nat) (m : gMem), q + d = n → m 1 7 = nI n → (∀ q, q < n → m 5 q = f q) → pM (L ++ lkL f q) m → ∃ m', (∀ Q, wX10_slide_p258 (nI n) m' Q → wX10_slide_p258 (nI q) m Q) ∧ pM (L ++ lkL f n) m' ∧ fM m m' := by
  intro d
  induction d with
  | zero =>
    intro r m hr h7 hf hp
    have : r = n := by omega
    subst this
    exact ⟨m, fun _ q => q, hp, fM.rf⟩
  | succ d ih =>
    intro r m hr h7 hf hp
    obtain ⟨m1, W, p1, f1⟩ := e_write (x := f r) hp (by rw [List.length_append, lkL_len]; omega)
    obtain ⟨m2, M2, p2, f2⟩ := ih (r + 1) m1 (by omega) (by rw [f1.1 _ (by omega) (by omega)]; exact h7) (fun q hq => by rw [f1.2 5 (by decide)]; exact hf q hq) (by rw [List.append_assoc] at p1; exact p1)
    refine ⟨m2, fun Q hQ P hP => hP _ _ ?_, p2, f1.tr f2⟩
    unfold wX10_slide_p258_b
    simp only [forall_eq, h7, nI_ge (show r < n by omega) (show n < 2 ^ 31 by omega), true_implies, not_false_eq_true, false_implies, true_and]
    rw [nI_clamp (by omega), hf r (by omega)]
    refine ⟨vp_in_nI (by omega) (by decide), W _ ?_⟩
    rw [nI_1]; exact M2 Q hQ P hP
theorem x_given {L : List Int32} {n : Nat} {f : Nat → Int32} (hn : n ≤ 500) (hL : L.length + n ≤ 6527) : ∀ (d q : Nat) (c : gMem), q + d = n → c 65 5 = nI n → (∀ q, q < n → c 66 q = f q) → pX (L ++ lkL f q) c → ∃ c', (∀ Q, wX7_writePaper_p96 (nI n) c' Q → wX7_writePaper_p96 (nI q) c Q) ∧ pX (L ++ lkL f n) c' ∧ fX c c' := by
  intro d
  induction d with
  | zero =>
    intro r m hr h7 hf hp
    have : r = n := by omega
    subst this
    exact ⟨m, fun _ q => q, hp, fX.rf⟩
  | succ d ih =>
    intro r m hr h7 hf hp
    obtain ⟨m1, W, p1, f1⟩ := x_add (x := f r) hp (by rw [List.length_append, lkL_len]; omega)
    obtain ⟨m2, M2, p2, f2⟩ := ih (r + 1) m1 (by omega) (by rw [f1 65 (by decide) (by decide) (by decide)]; exact h7) (fun q hq => by rw [f1 66 (by decide) (by decide) (by decide)]; exact hf q hq) (by rw [List.append_assoc] at p1; exact p1)
    refine ⟨m2, fun Q hQ P hP => hP _ _ ?_, p2, f1.tr f2⟩
    unfold wX7_writePaper_p96_b
    simp only [forall_eq, h7, nI_ge (show r < n by omega) (show n < 2 ^ 31 by omega), true_implies, not_false_eq_true, false_implies, true_and]
    rw [nI_clamp (by omega), hf r (by omega)]
    refine ⟨vp_in_nI (by omega) (by decide), W _ ?_⟩
    rw [nI_1]; exact M2 Q hQ P hP
theorem e_zero {U : Nat} {l1 : Int32} (hU : U ≤ 4000) : ∀ (d k : Nat) (m : gMem), k + d = U → m 1 16 = nI U → ∃ m', (∀ Q, wX10_slide_p209 l1 (nI U) m' Q → wX10_slide_p209 l1 (nI k) m Q) ∧ (∀ q, m' 1 (6100 + q) = if k ≤ q ∧ q < U then 0 else m 1 (6100 + q)) ∧ (∀ q, q < 6100 ∨ 10100 ≤ q → m' 1 q = m 1 q) ∧ ∀ i, i ≠ 1 → m' i = m i := by
  intro d
  induction d with
  | zero =>
    intro k m hk h16
    have : k = U := by omega
    subst this
    exact ⟨m, fun _ q => q, fun q => by rw [if_neg (by omega)], fun _ _ => rfl, fun _ _ => rfl⟩
  | succ d ih =>
    intro k m hk h16
    obtain ⟨m', M, h1, h2, h3⟩ := ih (k + 1) (mp m 1 (6100 + k) 0) (by omega) (by rw [mp_s, up_n (by omega)]; exact h16)
    refine ⟨m', fun Q hQ P hP => hP _ _ _ ?_, fun q => ?_, fun q hq => ?_, fun i hi => ?_⟩
    · unfold wX10_slide_p209_b
      simp only [forall_eq, h16, nI_ge (show k < U by omega) (show U < 2 ^ 31 by omega), true_implies, not_false_eq_true, false_implies, true_and]
      rw [show (6100 : Int32) + nI k = nI (6100 + k) from nI_add 6100 _, nI_clamp (by omega), nI_1]
      exact ⟨vp_in_nI (by omega) (by decide), M Q hQ P hP⟩
    · rw [h1, mp_s]
      by_cases e : k + 1 ≤ q ∧ q < U
      · rw [if_pos e, if_pos (show k ≤ q ∧ q < U by omega)]
      · rw [if_neg e]
        by_cases e2 : q = k
        · subst e2; rw [up_s, if_pos (by omega)]
        · rw [up_n (by omega), if_neg (by omega)]
    · rw [h2 q hq, mp_s, up_n (by omega)]
    · rw [h3 i hi, mp_n hi]
/-- the class writes the rows of what is kept -/
theorem x_kept {w : Nat → Int32} {L0 : List Int32} (hp : aHp s) (hL0 : L0.length = 25) (hlen : ∀ j, j ≤ zM s → 25 + (plL s w j).length ≤ 6527) : ∀ (d j : Nat) (c : gMem), j + d = zM s → c 2 2 = nI (zM s) → (∀ h, h < zM s → c 4 h = (if kpB s h then nI (psK s h) else -1)) → (∀ h, h < zM s → kpB s h = true → ∀ i, i < aSz s h → c 3 (psK s h + i) = w (aPs s h + i)) → (∀ h, h < zM s → kpB s h = true → w (aPs s h) = nI (8 * h + aKd s h) ∧ (aMany (aKd s h) → w (aPs s h + 1) = nI (aMn s h)) ∧ c 9 h = s (1106 + 10 * h) ∧ c 10 h = s (1107 + 10 * h) ∧ c 11 h = s (1108 + 10 * h) ∧ c 8 h = s (1105 + 10 * h)) → pX (L0 ++ plL s w j) c → ∃ c', (∀ Q, wX7_writePaper_p53 (nI (zM s)) c' Q → wX7_writePaper_p53 (nI j) c Q) ∧ pX (L0 ++ plL s w (zM s)) c' ∧ fX c c' := by
  intro d
  induction d with
  | zero =>
    intro j c hj h2 h4 h3 hr hpx
    have : j = zM s := by omega
    subst this
    exact ⟨c, fun _ q => q, hpx, fX.rf⟩
  | succ d ih =>
    intro j c hj h2 h4 h3 hr hpx
    have hM : zM s ≤ 500 := hp.1.2.2.2.2.1
    have hjz : j < zM s := by omega
    have hge : ¬ nI (zM s) ≤ nI j := nI_ge hjz (by omega)
    by_cases kj : kpB s j = true
    · have hl := (kpB_t.mp kj).1
      obtain ⟨k1, k2, k3, k4, k5, k6, k7, k8, k9, k10, k11⟩ := hp_cell hp hjz hl
      rw [k4] at k9
      have hps := psK_le (s := s) j
      have hlen' := hlen (j + 1) (by omega)
      rw [plL_s kj, List.length_append, row_len] at hlen'
      obtain ⟨r1, r2, r3, r4, r5, r6⟩ := hr j hjz kj
      have hlo : aLo s j = loN (aKd s j) := rfl
      have hlk : aLk s j = lkN (aKd s j) (aMn s j) := rfl
      have hsz : aSz s j = szN (aKd s j) (aMn s j) := rfl
      have hge2 := (szN_ge (n := aMn s j) k2).1
      have cc4 : c 4 j = nI (psK s j) := by rw [h4 j hjz, if_pos kj]
      obtain ⟨c1, W, p1, f1⟩ := x_writeKept (h := j) (k := aKd s j) (n := aMn s j) (p := psK s j) (L := L0 ++ plL s w j) (m := c) (a := s (1106 + 10 * j)) (b := s (1107 + 10 * j)) (c := s (1108 + 10 * j)) (d := s (1105 + 10 * j)) (f := fun i => w (aPs s j + aLo s j + i)) (by omega) k2 (by rw [List.length_append, hL0]; omega) (by omega) (by omega) cc4 (by have := h3 j hjz kj 0 (by omega); rw [Nat.add_zero, Nat.add_zero] at this; rw [this]; exact r1) (fun q => by rw [h3 j hjz kj 1 (by omega)]; exact r2 (by unfold aMany; omega)) r3 r4 r5 r6 (fun i hi => by rw [show psK s j + loN (aKd s j) + i = psK s j + (aLo s j + i) by omega, h3 j hjz kj _ (by omega), show aPs s j + aLo s j + i = aPs s j + (aLo s j + i) by omega]) hpx
      obtain ⟨c2, M2, p2, f2⟩ := ih (j + 1) c1 (by omega) (by rw [f1 2 (by decide) (by decide) (by decide)]; exact h2) (fun h hh => by rw [f1 4 (by decide) (by decide) (by decide)]; exact h4 h hh) (fun h hh k => by rw [f1 3 (by decide) (by decide) (by decide)]; exact h3 h hh k) (fun h hh k => by rw [f1 9 (by decide) (by decide) (by decide), f1 10 (by decide) (by decide) (by decide), f1 11 (by decide) (by decide) (by decide), f1 8 (by decide) (by decide) (by decide)]; exact hr h hh k) (by rw [plL_s kj]; rw [List.append_assoc] at p1; exact p1)
      refine ⟨c2, fun Q hQ P hP => hP _ _ ?_, p2, f1.tr f2⟩
      unfold wX7_writePaper_p53_b
      simp only [forall_eq, h2, hge, true_implies, not_false_eq_true, false_implies, true_and]
      rw [x_has1 h2 hM hjz cc4 (by omega)]
      simp only [i32_10, true_implies, not_false_eq_true, false_implies, true_and]
      refine W _ ?_
      unfold wX7_writePaper_p80
      rw [nI_1]; exact M2 Q hQ P hP
    · obtain ⟨c2, M2, p2, f2⟩ := ih (j + 1) c (by omega) h2 h4 h3 hr (by rw [plL_o kj]; exact hpx)
      refine ⟨c2, fun Q hQ P hP => hP _ _ ?_, p2, f2⟩
      unfold wX7_writePaper_p53_b wX7_writePaper_p80
      simp only [forall_eq, h2, hge, true_implies, not_false_eq_true, false_implies, true_and]
      rw [x_has0 h2 hM hjz (by rw [h4 j hjz, if_neg kj])]
      simp only [true_implies, not_true_eq_false, false_implies, and_true]
      rw [nI_1]; exact M2 Q hQ P hP
end SLX

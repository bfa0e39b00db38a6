/-! copy -/
section CP
variable {T : Nat} {c m : gMem}
theorem Rel.set63 (x : Int32) (h : Rel T c m) : Rel T (mp c 69 3 x) (mp m 0 6 x) := by
  obtain ⟨⟨hr, hi⟩, h1, h2, h3, h4, h5, h6⟩ := h
  have e1 : mp m 0 6 x 1 = m 1 := mp_n (by decide)
  refine ⟨⟨?_, by rw [e1]; exact hi⟩, ?_, ?_, ?_, ?_, ?_, ?_⟩
  · rw [e1]; exact aSR_cong (fun i a b => mp_n (by omega)) hr
  · rw [mp_n (by decide), mp_s, up_n (by decide), h1]
  · rw [mp_n (by decide), mp_s, up_n (by decide), h2]
  · rw [mp_s, mp_s, up_s, up_s]
  · intro b hb; rw [mp_n (by decide), mp_n (by decide), h4 b hb]
  · exact aIm_cong (fun i a b => mp_n (by omega)) (by rw [mp_n (by decide)]) (by rw [mp_s, up_n (by decide)]) (mp_n (by decide)) (by rw [e1]) h5
  · exact aIm_cong (fun i a b => mp_n (by omega)) (by rw [mp_n (by decide)]) (by rw [mp_s, up_n (by decide)]) (mp_n (by decide)) (by rw [e1]) h6
def SimK (wx wm : (Int32 → gMem → Prop) → Prop) (R : gMem → gMem → Prop) (n : Int32) : Prop := ∃ r f c' m', Di wx r c' ∧ Di wm f m' ∧ R c' m' ∧ (f = 0 ∧ r = n ∧ fdA n = 0 ∨ ∃ j : Nat, 1 ≤ j ∧ j ≤ 8 ∧ f = nI j ∧ r = (-10) - nI j)
theorem row_lk {s : gS} {h : Nat} (hk : aKd s h = 1 ∨ aKd s h = 5) : aLk s h = aMn s h := by
  unfold aLk lkN; rcases hk with q | q <;> rw [q] <;> simp
/-- (x + k) lies in 0 .. H - 1 -/
theorem in_sum {x : Int32} {k H : Nat} (hk : k ≤ 300) (hH : H ≤ 300) (hx : 0 < k → ¬ x < 0) {Q : Int32 → gMem → Prop} : ((¬ x < 0 ∧ ¬ nI H - nI k ≤ x) → ∃ a : Nat, x = nI a ∧ a + k < H ∧ wX10_in (x.toInt64 + (nI k).toInt64) 0 ((nI H - 1).toInt64) m Q = Q 1 m) ∧ ((x < 0 ∨ nI H - nI k ≤ x) → wX10_in (x.toInt64 + (nI k).toInt64) 0 ((nI H - 1).toInt64) m Q = Q 0 m) := by
  have e1 : (nI H - 1).toInt = (H : Int) - 1 := by
    have := pk_sub_toInt (a := H) (b := 1) (by omega) (by decide)
    exact this
  refine ⟨fun ⟨h0, h1⟩ => ?_, fun q => ?_⟩
  · obtain ⟨a, ha, rfl⟩ := nI_of h0
    have h2 := Int32.lt_iff_toInt_lt.mp (Int32.not_le.mp h1)
    rw [nI_toInt ha, pk_sub_toInt (by omega) (by omega)] at h2
    refine ⟨a, rfl, by omega, ?_⟩
    rw [nI_l ha, nI_l (by omega), lN_add]
    refine e_in1 ?_ ?_
    · rw [Int64.le_iff_toInt_le, lN_toInt (by omega), i64_0]; omega
    · rw [Int64.le_iff_toInt_le, lN_toInt (by omega), Int32.toInt_toInt64, e1]; omega
  · by_cases h0 : x < 0
    · have hk0 : k = 0 := by
        rcases Nat.eq_zero_or_pos k with h | h
        · exact h
        · exact absurd h0 (hx h)
      subst hk0
      have e2 : x.toInt64 + (nI 0).toInt64 = x.toInt64 := by
        rw [show (nI 0).toInt64 = 0 by decide, Int64.add_zero]
      rw [e2]
      refine e_in0l (fun z => ?_)
      have h3 := l_leR.mp z
      have h4 := Int32.lt_iff_toInt_lt.mp h0
      rw [i64_0] at h3
      have e : (0 : Int32).toInt = 0 := by decide
      omega
    · obtain ⟨a, ha, rfl⟩ := nI_of h0
      have h2 := Int32.le_iff_toInt_le.mp (q.resolve_left h0)
      rw [nI_toInt ha, pk_sub_toInt (by omega) (by omega)] at h2
      rw [nI_l ha, nI_l (by omega), lN_add]
      refine e_in0r (fun z => ?_)
      rw [Int64.le_iff_toInt_le, pk_lT (by omega), Int32.toInt_toInt64, e1] at z
      omega
theorem copy_loop {h g N H K : Nat} {i j : Int32} (hH : H ≤ 300) (hK : K ≤ 300) (hN : N < 2 ^ 31) : ∀ (d k : Nat), k + d = N → ∀ c m : gMem, Rel T c m → m 0 6 = nI k → h < zM (m 1) → aLv (m 1) h → (aKd (m 1) h = 1 ∨ aKd (m 1) h = 5) → aMn (m 1) h = H → g < zM (m 1) → aLv (m 1) g → (aKd (m 1) g = 1 ∨ aKd (m 1) g = 5) → aMn (m 1) g = K → k ≤ 300 → (0 < k → ¬ i < 0 ∧ ¬ j < 0) → SimK (wX0_copyLinks_p88 (nI h) i (nI g) j (nI N) (nI H) (nI K) (nI k) c) (wX10_copies_p48 (nI h) i (nI g) j (nI N) m) (Rel T) (nI N) := by
  intro d
  induction d with
  | zero =>
    intro k hk c m R h6 hh hl hkd hmn gg gl gkd gmn k3 hpos
    have hkN : k = N := by omega
    refine ⟨nI N, 0, c, m, fun Q hQ P hP => ?_, fun Q hQ P hP => ?_, R, Or.inl ⟨rfl, rfl, fdA_nI hN⟩⟩
    · refine hP _ _ _ _ _ _ _ _ _ ?_
      unfold wX0_copyLinks_p88_b
      simp only [hkN, Int32.le_refl, true_implies, not_true_eq_false, false_implies, and_true]; exact hQ
    · refine hP _ _ _ _ _ _ ?_
      unfold wX10_copies_p48_b
      simp only [forall_eq, h6, hkN, Int32.le_refl, true_implies, not_true_eq_false, false_implies, and_true]; exact hQ
  | succ d ih =>
    intro k hk c m R h6 hh hl hkd hmn gg gl gkd gmn k3 hpos
    have hkN : k < N := by omega
    have hge := nI_ge hkN hN
    have fF := R.cF hh hl
    obtain ⟨f1, f2, f3, f4, f5, f6, f7, f8, f9, f10, f11, f12, f13, f14, f15, f16⟩ := id fF
    obtain ⟨g1, g2, g3, g4, g5, g6, g7, g8, g9, g10, g11, g12, g13, g14, g15, g16⟩ := R.cF gg gl
    have hm : ∀ Q : Int32 → gMem → Prop, Q 2 m → ((i < 0 ∨ nI H - nI k ≤ i) ∨ (¬ i < 0 ∧ ¬ nI H - nI k ≤ i) ∧ (j < 0 ∨ nI K - nI k ≤ j)) → wX10_copies_p48 (nI h) i (nI g) j (nI N) m Q := by
      intro Q hQ hc P hP
      refine hP _ _ _ _ _ _ ?_
      unfold wX10_copies_p48_b
      simp only [forall_eq, h6, hge, true_implies, not_false_eq_true, false_implies, true_and]
      rw [e_of3 f1, f5, hmn]
      rcases hc with hc | ⟨hc, hc2⟩
      · rw [(in_sum k3 hH (fun q => (hpos q).1)).2 hc]; simpa using hQ
      · obtain ⟨a, _, _, ha⟩ := (in_sum (m := m) (Q := fun r8 c7 => (r8 = 0 → Q 2 c7) ∧ (¬ r8 = 0 → wX10_of (nI g) 3 c7 (fun r11 c10 => wX10_in (j.toInt64 + (nI k).toInt64) 0 ((r11 - 1).toInt64) c10 (fun r13 c12 => (r13 = 0 → Q 2 c12) ∧ (¬ r13 = 0 → wX10_linkAt (nI h) ((i.toInt64 + (nI k).toInt64).toInt32) c12 (fun r16 c15 => vp_in r16 26100 ∧ ∀ v17, v17 = c15 1 r16.toNatClampNeg → wX10_relinks (nI g) ((j.toInt64 + (nI k).toInt64).toInt32) v17 c15 (fun c19 => ∀ v20, v20 = c19 0 6 → ∀ c21, c21 = mp c19 0 6 (v20 + 1) → P (nI h) i (nI g) j (nI N) c21))))))) k3 hH (fun q => (hpos q).1)).1 hc
        simp only [forall_eq] at ha
        rw [ha]
        simp only [i32_10, true_implies, not_false_eq_true, false_implies, true_and]
        rw [e_of3 g1, g5, gmn, (in_sum k3 hK (fun q => (hpos q).2)).2 hc2]
        simpa using hQ
    by_cases hi0 : i < 0
    · refine ⟨-12, 2, c, m, fun Q hQ P hP => ?_, fun Q hQ => hm Q hQ (Or.inl (Or.inl hi0)), R, Or.inr ⟨2, by decide, by decide, rfl, by decide⟩⟩
      refine hP _ _ _ _ _ _ _ _ _ ?_
      unfold wX0_copyLinks_p88_b
      simp only [hge, hi0, true_implies, not_true_eq_false, not_false_eq_true, false_implies, true_and, and_true]; exact hQ
    by_cases hi1 : nI H - nI k ≤ i
    · refine ⟨-12, 2, c, m, fun Q hQ P hP => ?_, fun Q hQ => hm Q hQ (Or.inl (Or.inr hi1)), R, Or.inr ⟨2, by decide, by decide, rfl, by decide⟩⟩
      refine hP _ _ _ _ _ _ _ _ _ ?_
      unfold wX0_copyLinks_p88_b
      simp only [hge, hi0, hi1, true_implies, not_true_eq_false, not_false_eq_true, false_implies, true_and, and_true]; exact hQ
    by_cases hj0 : j < 0
    · refine ⟨-12, 2, c, m, fun Q hQ P hP => ?_, fun Q hQ => hm Q hQ (Or.inr ⟨⟨hi0, hi1⟩, Or.inl hj0⟩), R, Or.inr ⟨2, by decide, by decide, rfl, by decide⟩⟩
      refine hP _ _ _ _ _ _ _ _ _ ?_
      unfold wX0_copyLinks_p88_b
      simp only [hge, hi0, hi1, hj0, true_implies, not_true_eq_false, not_false_eq_true, false_implies, true_and, and_true]; exact hQ
    by_cases hj1 : nI K - nI k ≤ j
    · refine ⟨-12, 2, c, m, fun Q hQ P hP => ?_, fun Q hQ => hm Q hQ (Or.inr ⟨⟨hi0, hi1⟩, Or.inr hj1⟩), R, Or.inr ⟨2, by decide, by decide, rfl, by decide⟩⟩
      refine hP _ _ _ _ _ _ _ _ _ ?_
      unfold wX0_copyLinks_p88_b
      simp only [hge, hi0, hi1, hj0, show ¬ j < nI K - nI k from Int32.not_lt.mpr hj1, true_implies, not_true_eq_false, not_false_eq_true, false_implies, true_and, and_true]; exact hQ
    obtain ⟨a, rfl, ha, -⟩ := (in_sum (m := m) (Q := fun _ _ => True) k3 hH (fun q => (hpos q).1)).1 ⟨hi0, hi1⟩
    obtain ⟨b, rfl, hb, -⟩ := (in_sum (m := m) (Q := fun _ _ => True) k3 hK (fun q => (hpos q).2)).1 ⟨hj0, hj1⟩
    have hlkh : aLk (m 1) h = H := by rw [row_lk hkd, hmn]
    have hlkg : aLk (m 1) g = K := by rw [row_lk gkd, gmn]
    have hv : aHv (m 1) (aLn (m 1) h (a + k)) := (R.1.2.1.1.2.2.2.1 h hh hl).1 _ (by omega)
    have hw := ln_word R.1.1 R.1.2.1.1 hh hl (show a + k < aLk (m 1) h by omega)
    have hin := aLn_in R.1.2.1.1.1 R.1.2.1.1.2.1 hh hl (show a + k < aLk (m 1) h by omega)
    obtain ⟨c1, s1, X, M, hr, hI, hf, hq⟩ := sim_relink R.1.1 R.1.2 gg gl (show b + k < aLk (m 1) g by omega) hv
    have M' := M m
    rw [mr_self] at M'
    have R1 := (R.now (Nat.le_refl _) hr hI hf (hq.1 0 (by simp))).set63 (nI (k + 1))
    have e1 : mp (mr m 1 s1) 0 6 (nI (k + 1)) 1 = s1 := by rw [mp_n (by decide), mr_s]
    have e6 : mp (mr m 1 s1) 0 6 (nI (k + 1)) 0 6 = nI (k + 1) := by rw [mp_s, up_s]
    have hM := R.made.2.1
    obtain ⟨r, f, c2, m2, X2, M2, R2, hfin⟩ := ih (k + 1) (by omega) _ _ R1 e6 (by rw [e1, hq.m]; exact hh) (by rw [e1]; exact (hq.lv f1).mpr hl) (by rw [e1, hq.kd f1]; exact hkd) (by rw [e1, hq.mn f1]; exact hmn) (by rw [e1, hq.m]; exact gg) (by rw [e1]; exact (hq.lv g1).mpr gl) (by rw [e1, hq.kd g1]; exact gkd) (by rw [e1, hq.mn g1]; exact gmn) (by omega) (fun _ => ⟨hi0, hj0⟩)
    have c69 : c 69 3 = nI k := by rw [R.2.2.2.1]; exact h6
    have hlo : aLo (m 1) h = loN (aKd (m 1) h) := rfl
    refine ⟨r, f, c2, m2, fun Q hQ P hP => ?_, fun Q hQ P hP => ?_, R2, hfin⟩
    · refine hP _ _ _ _ _ _ _ _ _ ?_
      unfold wX0_copyLinks_p88_b
      rw [x_linkPlace f1 f11 (by omega) f12 f3, nI_add, nI_add, nI_add b k, show aPl (m 1) h + loN (aKd (m 1) h) + a + k = aPl (m 1) h + (aLo (m 1) h + (a + k)) by rw [hlo]; omega, nI_clamp (by omega)]
      simp only [hge, hi0, hi1, hj0, Int32.not_le.mp hj1, vp_in_nI (show aPl (m 1) h + (aLo (m 1) h + (a + k)) < 4000 by omega) (show 4000 < 2 ^ 31 by decide), hw, forall_eq, true_implies, not_true_eq_false, not_false_eq_true, false_implies, true_and, and_true]
      refine X _ ?_
      have : c1 69 3 = nI k := by rw [hf 69 (by omega)]; exact c69
      rw [this, nI_1]
      exact X2 Q hQ P hP
    · refine hP _ _ _ _ _ _ ?_
      unfold wX10_copies_p48_b
      simp only [forall_eq, h6, hge, true_implies, not_false_eq_true, false_implies, true_and]
      rw [e_of3 f1, f5, hmn, nI_l (show a < 2 ^ 31 by omega), nI_l (show b < 2 ^ 31 by omega), nI_l (show k < 2 ^ 31 by omega), lN_add, lN_add, lN_i, lN_i, ← nI_l (show a + k < 2 ^ 31 by omega), ← nI_l (show b + k < 2 ^ 31 by omega), e_inN1 ha (by omega)]
      simp only [i32_10, true_implies, not_false_eq_true, false_implies, true_and]
      rw [e_of3 g1, g5, gmn, e_inN1 hb (by omega)]
      simp only [i32_10, true_implies, not_false_eq_true, false_implies, true_and]
      rw [e_linkAt f1 f2 f3 f4, nI_clamp (by omega)]
      refine ⟨vp_in_nI (by omega) (by decide), ?_⟩
      show wX10_relinks (nI g) (nI (b + k)) (aLn (m 1) h (a + k)) m _
      refine M' _ ?_
      rw [mr_n (show (0 : Nat) ≠ 1 by decide), h6, nI_1]
      exact M2 Q hQ P hP
theorem isaN1 {k : Nat} : isaN 1 k = true ↔ k = 1 ∨ k = 5 := by unfold isaN; simp
theorem sim_copies {x i y j n : Int32} (R : Rel T c m) (hx : aRg (m 1) x) (hy : aRg (m 1) y) : SimK (wX0_copyLinks x i y j n c) (wX10_copies x i y j n m) (Rel T) n := by
  have R1 := R.set63 0
  have e1 : mp m 0 6 0 1 = m 1 := mp_n (by decide)
  have hM := R.made.2.1
  rw [← e1] at hx hy
  rcases hx.cases with hg | ⟨h, hh, rfl, hl⟩
  · refine ⟨-11, 1, _, _, fun Q hQ => ?_, fun Q hQ => ?_, R1, Or.inr ⟨1, by decide, by decide, rfl, by decide⟩⟩
    · unfold wX0_copyLinks; simp only [forall_eq]; rw [x_gone R1 hg]; simpa using hQ
    · unfold wX10_copies; simp only [forall_eq]; rw [e_gone R1 hg]; simpa using hQ
  rcases hy.cases with hg | ⟨g, gg, rfl, gl⟩
  · refine ⟨-11, 1, _, _, fun Q hQ => ?_, fun Q hQ => ?_, R1, Or.inr ⟨1, by decide, by decide, rfl, by decide⟩⟩
    · unfold wX0_copyLinks; simp only [forall_eq]; rw [x_live R1 hh hl, x_gone R1 hg]; simpa using hQ
    · unfold wX10_copies; simp only [forall_eq]; rw [e_live R1 hh hl, e_gone R1 hg]; simpa using hQ
  obtain ⟨f1, f2, f3, f4, f5, f6, f7, f8, f9, f10, f11, f12, f13, f14, f15, f16⟩ := R1.cF hh hl
  obtain ⟨g1, g2, g3, g4, g5, g6, g7, g8, g9, g10, g11, g12, g13, g14, g15, g16⟩ := R1.cF gg gl
  rcases (Decidable.em (aKd (mp m 0 6 0 1) h = 1 ∨ aKd (mp m 0 6 0 1) h = 5)).symm with hk | hk
  · have hi : isaN 1 (aKd (mp m 0 6 0 1) h) = false := by rw [← Bool.not_eq_true]; exact fun q => hk (isaN1.mp q)
    refine ⟨-13, 3, _, _, fun Q hQ => ?_, fun Q hQ => ?_, R1, Or.inr ⟨3, by decide, by decide, rfl, by decide⟩⟩
    · unfold wX0_copyLinks; simp only [forall_eq]; rw [x_live R1 hh hl, x_live R1 gg gl, x_isA (x := 1) (w := 1) rfl (by decide) f1 f11 (by omega) f12 f3, hi]; simpa using hQ
    · unfold wX10_copies; simp only [forall_eq]; rw [e_live R1 hh hl, e_live R1 gg gl, e_isRow0 f1 f2 f3 hk]; simpa using hQ
  rcases (Decidable.em (aKd (mp m 0 6 0 1) g = 1 ∨ aKd (mp m 0 6 0 1) g = 5)).symm with gk | gk
  · have hi : isaN 1 (aKd (mp m 0 6 0 1) g) = false := by rw [← Bool.not_eq_true]; exact fun q => gk (isaN1.mp q)
    refine ⟨-13, 3, _, _, fun Q hQ => ?_, fun Q hQ => ?_, R1, Or.inr ⟨3, by decide, by decide, rfl, by decide⟩⟩
    · unfold wX0_copyLinks; simp only [forall_eq]; rw [x_live R1 hh hl, x_live R1 gg gl, x_isA (x := 1) (w := 1) rfl (by decide) f1 f11 (by omega) f12 f3, isaN1.mpr hk, x_isA (x := 1) (w := 1) rfl (by decide) g1 g11 (by omega) g12 g3, hi]; simpa using hQ
    · unfold wX10_copies; simp only [forall_eq]; rw [e_live R1 hh hl, e_live R1 gg gl, e_isRow1 f1 f2 hk, e_isRow0 g1 g2 g3 gk]; simpa using hQ
  have xs : ∀ Q : Int32 → gMem → Prop, ((0 ≤ n → wX0_copyLinks_p88 (nI h) i (nI g) j n (nI (aMn (mp m 0 6 0 1) h)) (nI (aMn (mp m 0 6 0 1) g)) 0 (mp c 69 3 0) Q) ∧ (¬ 0 ≤ n → Q (-14) (mp c 69 3 0))) → wX0_copyLinks (nI h) i (nI g) j n c Q := by
    intro Q hQ
    unfold wX0_copyLinks; simp only [forall_eq]
    rw [x_live R1 hh hl, x_live R1 gg gl, x_isA (x := 1) (w := 1) rfl (by decide) f1 f11 (by omega) f12 f3, isaN1.mpr hk, x_isA (x := 1) (w := 1) rfl (by decide) g1 g11 (by omega) g12 g3, isaN1.mpr gk, x_linksOf f1 f11 (by omega) f12 f3 (fun q => f13 (q.elim Or.inl (fun q => Or.inr (Or.inr q)))), x_linksOf g1 g11 (by omega) g12 g3 (fun q => g13 (q.elim Or.inl (fun q => Or.inr (Or.inr q))))]
    have l1 : lkN (aKd (mp m 0 6 0 1) h) (aMn (mp m 0 6 0 1) h) = aMn (mp m 0 6 0 1) h := row_lk hk
    have l2 : lkN (aKd (mp m 0 6 0 1) g) (aMn (mp m 0 6 0 1) g) = aMn (mp m 0 6 0 1) g := row_lk gk
    rw [l1, l2]
    simpa using hQ
  have ms : ∀ Q : Int32 → gMem → Prop, ((0 ≤ n → wX10_copies_p48 (nI h) i (nI g) j n (mp m 0 6 0) Q) ∧ (¬ 0 ≤ n → Q 4 (mp m 0 6 0))) → wX10_copies (nI h) i (nI g) j n m Q := by
    intro Q hQ
    unfold wX10_copies; simp only [forall_eq]
    rw [e_live R1 hh hl, e_live R1 gg gl, e_isRow1 f1 f2 hk, e_isRow1 g1 g2 gk]
    simpa using hQ
  by_cases hn : (0 : Int32) ≤ n
  · obtain ⟨N, hN, rfl⟩ := nI_of (Int32.not_lt.mpr hn)
    obtain ⟨r, f, c2, m2, X2, M2, R2, hfin⟩ := copy_loop (T := T) (i := i) (j := j) f6 g6 hN N 0 (by omega) _ _ R1 (by rw [mp_s, up_s]; rfl) hh hl hk rfl gg gl gk rfl (by omega) (fun q => by omega)
    exact ⟨r, f, c2, m2, fun Q hQ => xs Q ⟨fun _ => X2 Q hQ, fun q => absurd hn q⟩, fun Q hQ => ms Q ⟨fun _ => M2 Q hQ, fun q => absurd hn q⟩, R2, hfin⟩
  · exact ⟨-14, 4, _, _, fun Q hQ => xs Q ⟨fun q => absurd q hn, fun _ => hQ⟩, fun Q hQ => ms Q ⟨fun q => absurd q hn, fun _ => hQ⟩, R1, Or.inr ⟨4, by decide, by decide, rfl, by decide⟩⟩
theorem op_copy {l1 l2 l3 l4 l5 : Int32} (R : Rel T c m) : Sim (wX9_copy l1 l2 l3 l4 l5 c) (wX10_copy l1 l2 l3 l4 l5 m) (Rel T) := by
  rcases pk_ix l1 (n := zM (m 1)) (by have := R.made.2.1; omega) with q | q | ⟨h, hh, rfl⟩
  · exact ⟨-101, c, m, fun Q hQ => by unfold wX9_copy; rw [x_made0 R.made.2.2 (Or.inl q)]; simpa using hQ, fun Q hQ => by unfold wX10_copy; rw [e_made0 R.made.1 R.made.2.1 (Or.inl q)]; simpa using hQ, R⟩
  · exact ⟨-101, c, m, fun Q hQ => by unfold wX9_copy; rw [x_made0 R.made.2.2 (Or.inr q)]; simpa using hQ, fun Q hQ => by unfold wX10_copy; rw [e_made0 R.made.1 R.made.2.1 (Or.inr q)]; simpa using hQ, R⟩
  rcases pk_ix l3 (n := zM (m 1)) (by have := R.made.2.1; omega) with q | q | ⟨g, gg, rfl⟩
  · exact ⟨-101, c, m, fun Q hQ => by unfold wX9_copy; rw [pub_made1 R hh, x_made0 R.made.2.2 (Or.inl q)]; simpa using hQ, fun Q hQ => by unfold wX10_copy; rw [pub_madeM R hh, e_made0 R.made.1 R.made.2.1 (Or.inl q)]; simpa using hQ, R⟩
  · exact ⟨-101, c, m, fun Q hQ => by unfold wX9_copy; rw [pub_made1 R hh, x_made0 R.made.2.2 (Or.inr q)]; simpa using hQ, fun Q hQ => by unfold wX10_copy; rw [pub_madeM R hh, e_made0 R.made.1 R.made.2.1 (Or.inr q)]; simpa using hQ, R⟩
  obtain ⟨r, f, c', m', X, M, R', hf⟩ := sim_copies (i := l2) (j := l4) (n := l5) R (Or.inr ⟨h, hh, rfl⟩) (Or.inr ⟨g, gg, rfl⟩)
  have R2 := R'.set12 l5
  rcases hf with ⟨rfl, rfl, hfd⟩ | ⟨k, k1, k2, rfl, rfl⟩
  · refine ⟨r, _, _, fun Q hQ => ?_, fun Q hQ => ?_, R2.set5 0⟩
    · unfold wX9_copy; rw [pub_made1 R hh, pub_made1 R gg]
      refine X _ ?_
      rw [x_answer, hfd]; exact hQ
    · unfold wX10_copy; rw [pub_madeM R hh, pub_madeM R gg]
      refine M _ ?_
      simp only [forall_eq]
      rw [e_by0, mp_s, up_s]; exact hQ
  · refine ⟨(-10) - nI k, _, _, fun Q hQ => ?_, fun Q hQ => ?_, R2.set5 (nI k)⟩
    · unfold wX9_copy; rw [pub_made1 R hh, pub_made1 R gg]
      refine X _ ?_
      rw [x_answer, fdA_fl k1 k2]; exact hQ
    · unfold wX10_copy; rw [pub_madeM R hh, pub_madeM R gg]
      refine M _ ?_
      simp only [forall_eq]
      rw [e_byF (nI_nle (by omega) (by omega))]; exact hQ
end CP

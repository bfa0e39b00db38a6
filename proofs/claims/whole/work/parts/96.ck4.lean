/-! check: a row that is kept, what was given back, the sum; check -/
section CK4
variable {pv : Nat → Int32} {L K : Nat} {c m : gMem}
/-- links of the paper, from a on -/
theorem ck_links (g : ckG pv L K) (hL : L ≤ 6527) (hc : ckC pv L K c) (hm : ckM pv L m) (hk : ckK pv K c m) {i n : Nat} (hi : i < K) (hn : n ≤ 300) (en : pv (ckS pv i + 5) = nI n) (hend : ckS pv i + 6 + n ≤ ckS pv K) : ∀ (d q : Nat), q + d = n → ∃ r, Di (wX1_firstWrongLink_p2 (nI (ckS pv i + 6 + n)) (nI (ckS pv i + 6 + q)) c) r c ∧ Di (wX10_keptWrong_p193 (nI (ckS pv i)) (nI q) m) r m ∧ (r = -1 ∨ ∃ z : Nat, z ≤ 7000 ∧ r = nI z) := by
  have hlt := g.2.2.2.2.1
  have e5 : nI (ckS pv i) + 5 = nI (ckS pv i + 5) := nI_add _ 5
  intro d
  induction d with
  | zero =>
    intro q hq
    have : q = n := by omega
    subst this
    refine ⟨-1, fun Q hQ P hP => hP _ _ _ ?_, fun Q hQ P hP => hP _ _ _ ?_, Or.inl rfl⟩
    · unfold wX1_firstWrongLink_p2_b
      simp only [Int32.le_refl, true_implies, not_true_eq_false, false_implies, and_true]; exact hQ
    · unfold wX10_keptWrong_p193_b
      rw [e5, e_paper (by omega) hL hm, en]
      simp only [Int32.le_refl, true_implies, not_true_eq_false, false_implies, and_true]; exact hQ
  | succ d ih =>
    intro q hq
    have hge : ¬ nI (ckS pv i + 6 + n) ≤ nI (ckS pv i + 6 + q) := nI_ge (by omega) (by omega)
    have hge2 : ¬ nI n ≤ nI q := nI_ge (by omega) (by omega)
    have e6 : nI (ckS pv i) + 6 + nI q = nI (ckS pv i + 6 + q) := by rw [show nI (ckS pv i) + 6 = nI (ckS pv i + 6) from nI_add _ 6, nI_add]
    obtain ⟨r, X1, M1, hr⟩ := ih (q + 1) (by omega)
    have X1' : ∀ (P : Int32 → Int32 → gMem → Prop) (Q : Int32 → gMem → Prop), (∀ (l2 l3 : Int32) (c : gMem), wX1_firstWrongLink_p2_b P l2 l3 c Q → P l2 l3 c) → Q r c → wX1_firstWrongLink_p32 P (nI (ckS pv i + 6 + n)) (nI (ckS pv i + 6 + q)) c Q := by
      intro P Q hP hQ
      unfold wX1_firstWrongLink_p32
      rw [nI_1]; exact X1 Q hQ P hP
    have hXh : ∀ (P : Int32 → Int32 → gMem → Prop) (Q : Int32 → gMem → Prop), ((pv (ckS pv i + 6 + q) = (-1) → wX1_firstWrongLink_p32 P (nI (ckS pv i + 6 + n)) (nI (ckS pv i + 6 + q)) c Q) ∧ (¬ pv (ckS pv i + 6 + q) = (-1) → wX1_isKept (pv (ckS pv i + 6 + q)) c (fun r10 c9 => ((r10 = 0 → Q (nI (ckS pv i + 6 + q)) c9) ∧ (¬ r10 = 0 → wX1_firstWrongLink_p32 P (nI (ckS pv i + 6 + n)) (nI (ckS pv i + 6 + q)) c9 Q))))) → wX1_firstWrongLink_p2_b P (nI (ckS pv i + 6 + n)) (nI (ckS pv i + 6 + q)) c Q := by
      intro P Q hQ
      unfold wX1_firstWrongLink_p2_b
      simp only [hge, true_implies, not_false_eq_true, false_implies, true_and, forall_eq, hc.1]
      rw [nI_clamp (by omega), hc.2.2.2 _ (by omega)]
      exact ⟨vp_in_nI (by omega) (by decide), hQ.1, fun z => ⟨vp_in_nI (by omega) (by decide), hQ.2 z⟩⟩
    have hMh : ∀ (P : Int32 → Int32 → gMem → Prop) (Q : Int32 → gMem → Prop), wX10_isOne (pv (ckS pv i + 6 + q)) m (fun r7 c6 => ((r7 = 0 → Q (nI (ckS pv i + 6 + q)) c6) ∧ (¬ r7 = 0 → P (nI (ckS pv i)) (nI (q + 1)) c6))) → wX10_keptWrong_p193_b P (nI (ckS pv i)) (nI q) m Q := by
      intro P Q hQ
      unfold wX10_keptWrong_p193_b
      rw [e5, e6, e_paper (by omega) hL hm, en]
      simp only [hge2, true_implies, not_false_eq_true, false_implies, true_and]
      rw [e_paper (by omega) hL hm, nI_1]
      exact hQ
    by_cases e : pv (ckS pv i + 6 + q) = -1
    · refine ⟨r, fun Q hQ P hP => hP _ _ _ (hXh P Q ⟨fun _ => X1' P Q hP hQ, fun z => absurd e z⟩), fun Q hQ P hP => hP _ _ _ (hMh P Q ?_), hr⟩
      unfold wX10_isOne wX10_isOne_p14
      simp only [e, i32_10, true_implies, not_true_eq_false, not_false_eq_true, false_implies, and_true, true_and]
      exact M1 Q hQ P hP
    · rcases kept_case g hL hk (pv (ckS pv i + 6 + q)) with ⟨k1, k2, k3⟩ | ⟨h, j, hh, ex, hF, k1, k2, k3, k4⟩
      · refine ⟨nI (ckS pv i + 6 + q), fun Q hQ P hP => hP _ _ _ (hXh P Q ⟨fun z => absurd z e, fun _ => ?_⟩), fun Q hQ P hP => hP _ _ _ (hMh P Q ?_), Or.inr ⟨_, by omega, rfl⟩⟩
        · rw [k2]
          simp only [true_implies, not_true_eq_false, false_implies, and_true]; exact hQ
        · unfold wX10_isOne
          simp only [e, true_implies, not_false_eq_true, false_implies, true_and]
          rw [k1]
          simp only [true_implies, not_true_eq_false, false_implies, and_true]; exact hQ
      · have hj : ¬ nI j = -1 := nI_m1 (by have := hF.2.1; have := g.2.2.1; omega)
        refine ⟨r, fun Q hQ P hP => hP _ _ _ (hXh P Q ⟨fun z => absurd z e, fun _ => ?_⟩), fun Q hQ P hP => hP _ _ _ (hMh P Q ?_), hr⟩
        · rw [k2]
          simp only [i32_10, true_implies, not_false_eq_true, false_implies, true_and]; exact X1' P Q hP hQ
        · unfold wX10_isOne wX10_isOne_p14
          simp only [e, true_implies, not_false_eq_true, false_implies, true_and]
          rw [k1]
          simp only [hj, i32_10, true_implies, not_false_eq_true, false_implies, true_and]; exact M1 Q hQ P hP
theorem ck_roots (g : ckG pv L K) (hL : L ≤ 6527) (hc : ckC pv L K c) (hm : ckM pv L m) (hk : ckK pv K c m) : ∀ (d q : Nat), q + d = 24 → ∃ r, Di (wX1_firstWrongLink_p2 24 (nI q) c) r c ∧ (∀ Q : Int32 → gMem → Prop, (r = -1 → wX10_meaningWrong_p34 0 m Q) → (¬ r = -1 → Q r m) → wX10_meaningWrong_p6 (nI q) m Q) ∧ (r = -1 ∨ ∃ z : Nat, z ≤ 7000 ∧ r = nI z) := by
  have h24 := g.1
  intro d
  induction d with
  | zero =>
    intro q hq
    have : q = 24 := by omega
    subst this
    refine ⟨-1, fun Q hQ P hP => hP _ _ _ ?_, fun Q h1 h2 P hP => hP _ _ ?_, Or.inl rfl⟩
    · unfold wX1_firstWrongLink_p2_b
      simp only [show (24 : Int32) ≤ nI 24 by decide, true_implies, not_true_eq_false, false_implies, and_true]; exact hQ
    · unfold wX10_meaningWrong_p6_b
      simp only [show (24 : Int32) ≤ nI 24 by decide, true_implies, not_true_eq_false, false_implies, and_true]; exact h1 rfl
  | succ d ih =>
    intro q hq
    have hge : ¬ (24 : Int32) ≤ nI q := nI_ge (b := 24) (by omega) (by decide)
    obtain ⟨r, X1, M1, hr⟩ := ih (q + 1) (by omega)
    have X1' : ∀ (P : Int32 → Int32 → gMem → Prop) (Q : Int32 → gMem → Prop), (∀ (l2 l3 : Int32) (c : gMem), wX1_firstWrongLink_p2_b P l2 l3 c Q → P l2 l3 c) → Q r c → wX1_firstWrongLink_p32 P 24 (nI q) c Q := by
      intro P Q hP hQ
      unfold wX1_firstWrongLink_p32
      rw [nI_1]; exact X1 Q hQ P hP
    have hXh : ∀ (P : Int32 → Int32 → gMem → Prop) (Q : Int32 → gMem → Prop), ((pv q = (-1) → wX1_firstWrongLink_p32 P 24 (nI q) c Q) ∧ (¬ pv q = (-1) → wX1_isKept (pv q) c (fun r10 c9 => ((r10 = 0 → Q (nI q) c9) ∧ (¬ r10 = 0 → wX1_firstWrongLink_p32 P 24 (nI q) c9 Q))))) → wX1_firstWrongLink_p2_b P 24 (nI q) c Q := by
      intro P Q hQ
      unfold wX1_firstWrongLink_p2_b
      simp only [hge, true_implies, not_false_eq_true, false_implies, true_and, forall_eq, hc.1]
      rw [nI_clamp (by omega), hc.2.2.2 _ (by omega)]
      exact ⟨vp_in_nI (by omega) (by decide), hQ.1, fun z => ⟨vp_in_nI (by omega) (by decide), hQ.2 z⟩⟩
    have hMh : ∀ (P : Int32 → gMem → Prop) (Q : Int32 → gMem → Prop), wX10_isOne (pv q) m (fun r5 c4 => ((r5 = 0 → Q (nI q) c4) ∧ (¬ r5 = 0 → P (nI (q + 1)) c4))) → wX10_meaningWrong_p6_b P (nI q) m Q := by
      intro P Q hQ
      unfold wX10_meaningWrong_p6_b
      simp only [hge, true_implies, not_false_eq_true, false_implies, true_and]
      rw [e_paper (by omega) hL hm, nI_1]
      exact hQ
    by_cases e : pv q = -1
    · refine ⟨r, fun Q hQ P hP => hP _ _ _ (hXh P Q ⟨fun _ => X1' P Q hP hQ, fun z => absurd e z⟩), fun Q h1 h2 P hP => hP _ _ (hMh P Q ?_), hr⟩
      unfold wX10_isOne wX10_isOne_p14
      simp only [e, i32_10, true_implies, not_true_eq_false, not_false_eq_true, false_implies, and_true, true_and]
      exact M1 Q h1 h2 P hP
    · rcases kept_case g hL hk (pv q) with ⟨k1, k2, k3⟩ | ⟨h, j, hh, ex, hF, k1, k2, k3, k4⟩
      · refine ⟨nI q, fun Q hQ P hP => hP _ _ _ (hXh P Q ⟨fun z => absurd z e, fun _ => ?_⟩), fun Q h1 h2 P hP => hP _ _ (hMh P Q ?_), Or.inr ⟨_, by omega, rfl⟩⟩
        · rw [k2]
          simp only [true_implies, not_true_eq_false, false_implies, and_true]; exact hQ
        · unfold wX10_isOne
          simp only [e, true_implies, not_false_eq_true, false_implies, true_and]
          rw [k1]
          simp only [true_implies, not_true_eq_false, false_implies, and_true]; exact h2 (nI_m1 (by omega))
      · have hj : ¬ nI j = -1 := nI_m1 (by have := hF.2.1; have := g.2.2.1; omega)
        refine ⟨r, fun Q hQ P hP => hP _ _ _ (hXh P Q ⟨fun z => absurd z e, fun _ => ?_⟩), fun Q h1 h2 P hP => hP _ _ (hMh P Q ?_), hr⟩
        · rw [k2]
          simp only [i32_10, true_implies, not_false_eq_true, false_implies, true_and]; exact X1' P Q hP hQ
        · unfold wX10_isOne wX10_isOne_p14
          simp only [e, true_implies, not_false_eq_true, false_implies, true_and]
          rw [k1]
          simp only [hj, i32_10, true_implies, not_false_eq_true, false_implies, true_and]; exact M1 Q h1 h2 P hP
/-- ranks seen so far -/
def ckR (pv : Nat → Int32) (K i : Nat) (c : gMem) : Prop := ∀ q, 1 ≤ q → q ≤ K → (c 73 q = 0 ∧ ∀ j, j < i → pv (ckS pv j + 4) ≠ nI q) ∨ (c 73 q = 1 ∧ ∃ j, j < i ∧ pv (ckS pv j + 4) = nI q)
theorem ck_rank (g : ckG pv L K) (hL : L ≤ 6527) (hm : ckM pv L m) (hk8 : ∀ j, j < K → m 8 j = nI (ckS pv j)) {i : Nat} (hi : i < K) {l2 v : Int32} : ∀ (d j : Nat), j + d = i → ((∀ q, j ≤ q → q < i → pv (ckS pv q + 4) ≠ v) → ∀ Q : Int32 → gMem → Prop, wX10_keptWrong_p143 l2 v 1 m Q → wX10_keptWrong_p101 (nI i) l2 v 1 (nI j) m Q) ∧ ((∃ q, j ≤ q ∧ q < i ∧ pv (ckS pv q + 4) = v) → ∀ Q : Int32 → gMem → Prop, wX10_keptWrong_p143 l2 v 0 m Q → wX10_keptWrong_p101 (nI i) l2 v 1 (nI j) m Q) := by
  have hK := g.2.2.1
  intro d
  induction d with
  | zero =>
    intro j hj
    have : j = i := by omega
    subst this
    refine ⟨fun _ Q hQ P hP => hP _ _ _ _ _ _ ?_, fun ⟨q, q1, q2, _⟩ => by omega⟩
    unfold wX10_keptWrong_p101_b
    simp only [Int32.le_refl, true_implies, not_true_eq_false, false_implies, and_true]; exact hQ
  | succ d ih =>
    intro j hj
    obtain ⟨I1, I2⟩ := ih (j + 1) (by omega)
    have hrow := (g.2.2.2.1 j (by omega)).1
    have hge : ¬ nI i ≤ nI j := nI_ge (by omega) (by omega)
    have hb : ∀ (P : Int32 → Int32 → Int32 → Int32 → Int32 → gMem → Prop) (Q : Int32 → gMem → Prop), ((pv (ckS pv j + 4) = v → P (nI i) l2 v 0 (nI (j + 1)) m) ∧ (¬ pv (ckS pv j + 4) = v → P (nI i) l2 v 1 (nI (j + 1)) m)) → wX10_keptWrong_p101_b P (nI i) l2 v 1 (nI j) m Q := by
      intro P Q hQ
      unfold wX10_keptWrong_p101_b wX10_keptWrong_p135
      simp only [hge, i32_10, true_implies, not_false_eq_true, false_implies, true_and, forall_eq]
      rw [nI_clamp (by omega), hk8 j (by omega), show nI (ckS pv j) + 4 = nI (ckS pv j + 4) from nI_add _ 4, e_paper (by omega) hL hm, nI_1]
      exact ⟨vp_in_nI (by omega) (by decide), hQ⟩
    have zero : ∀ (P : Int32 → Int32 → Int32 → Int32 → Int32 → gMem → Prop) (Q : Int32 → gMem → Prop), (∀ (l1 l2 l4 l5 l6 : Int32) (c : gMem), wX10_keptWrong_p101_b P l1 l2 l4 l5 l6 c Q → P l1 l2 l4 l5 l6 c) → wX10_keptWrong_p143 l2 v 0 m Q → P (nI i) l2 v 0 (nI (j + 1)) m := by
      intro P Q hP hQ
      refine hP _ _ _ _ _ _ ?_
      unfold wX10_keptWrong_p101_b
      simp only [true_implies, not_true_eq_false, false_implies, and_true]
      exact ⟨fun _ => hQ, fun _ => hQ⟩
    refine ⟨fun hn Q hQ P hP => hP _ _ _ _ _ _ (hb P Q ⟨fun z => absurd z (hn j (Nat.le_refl _) (by omega)), fun _ => I1 (fun q q1 q2 => hn q (by omega) q2) Q hQ P hP⟩), fun ⟨q, q1, q2, q3⟩ Q hQ P hP => hP _ _ _ _ _ _ (hb P Q ⟨fun _ => zero P Q hP hQ, fun z => ?_⟩)⟩
    refine I2 ⟨q, ?_, q2, q3⟩ Q hQ P hP
    by_cases e : q = j
    · subst e; exact absurd q3 z
    · omega
theorem ck_row (g : ckG pv L K) (hL : L ≤ 6527) (hc : ckC pv L K c) (hm : ckM pv L m) (hk : ckK pv K c m) {i : Nat} (hi : i < K) (hR : ckR pv K i c) : ∃ r c', Di (wX1_firstWrongOfKept (nI (ckS pv i)) c) r c' ∧ Di (wX10_keptWrong (nI i) m) r m ∧ (∀ a, a ≠ 73 → c' a = c a) ∧ (r = -1 → ckR pv K (i + 1) c') ∧ (r = -1 ∨ ∃ z : Nat, z ≤ 7000 ∧ r = nI z) := by
  have hK := g.2.2.1
  obtain ⟨hrow, n, hn, en, est⟩ := g.2.2.2.1 i hi
  have hlt := g.2.2.2.2.1
  have hend : ckS pv i + 6 + n ≤ ckS pv K := by
    have := ckS_mono g (K - (i + 1)) (i + 1) (by omega)
    rw [show i + 1 + (K - (i + 1)) = K by omega, est] at this; omega
  have a1 : nI (ckS pv i) + 1 = nI (ckS pv i + 1) := nI_add _ 1
  have a2 : nI (ckS pv i) + 2 = nI (ckS pv i + 2) := nI_add _ 2
  have a3 : nI (ckS pv i) + 3 = nI (ckS pv i + 3) := nI_add _ 3
  have a4 : nI (ckS pv i) + 4 = nI (ckS pv i + 4) := nI_add _ 4
  have a5 : nI (ckS pv i) + 5 = nI (ckS pv i + 5) := nI_add _ 5
  have a6 : nI (ckS pv i) + 6 = nI (ckS pv i + 6) := nI_add _ 6
  have nat : ∀ q, q ≤ 7000 → nI q = -1 ∨ ∃ z : Nat, z ≤ 7000 ∧ nI q = nI z := fun q hq => Or.inr ⟨q, hq, rfl⟩
  -- heads
  have hXh : ∀ Q : Int32 → gMem → Prop, wX1_isKept (pv (ckS pv i)) c (fun r5 c4 => ((r5 = 0 → Q (nI (ckS pv i)) c4) ∧ (¬ r5 = 0 → vp_in (pv (ckS pv i)) 500 ∧ ∀ v7, v7 = c4 72 (pv (ckS pv i)).toNatClampNeg → ((v7 = nI (ckS pv i) → wX1_firstWrongOfReason (nI (ckS pv i)) c4 (fun r11 c10 => ((r11 = (-1) → wX1_isRankWrong (nI (ckS pv i)) c10 (fun r14 c13 => ((r14 = 0 → c13 70 0 = 1 ∧ vp_in (nI (ckS pv i) + 4) 6527 ∧ ∀ v17, v17 = c13 16 (nI (ckS pv i) + 4).toNatClampNeg → vp_in v17 501 ∧ ∀ c19, c19 = mp c13 73 v17.toNatClampNeg 1 → c19 70 0 = 1 ∧ vp_in (nI (ckS pv i) + 5) 6527 ∧ ∀ v22, v22 = c19 16 (nI (ckS pv i) + 5).toNatClampNeg → wX1_firstWrongLink (nI (ckS pv i) + 6) ((nI (ckS pv i) + 6) + v22) c19 (fun r25 c24 => Q r25 c24)) ∧ (¬ r14 = 0 → Q (nI (ckS pv i) + 4) c13)))) ∧ (¬ r11 = (-1) → Q r11 c10)))) ∧ (¬ v7 = nI (ckS pv i) → Q (nI (ckS pv i)) c4))))) → wX1_firstWrongOfKept (nI (ckS pv i)) c Q := by
    intro Q hQ
    unfold wX1_firstWrongOfKept
    rw [nI_clamp (by omega), hc.2.2.2 _ (by omega)]
    refine ⟨hc.1, vp_in_nI (by omega) (by decide), ?_⟩
    intro v2 hv2
    subst hv2
    exact hQ
  have hMh : ∀ Q : Int32 → gMem → Prop, wX10_in (pv (ckS pv i)).toInt64 0 499 m (fun r6 c5 => ((r6 = 0 → Q (nI (ckS pv i)) c5) ∧ (¬ r6 = 0 → wX10_paper (nI (ckS pv i)) c5 (fun r9 c8 => wX10_keptOf r9 c8 (fun r11 c10 => ((nI i ≤ r11 → wX10_paper (nI (ckS pv i) + 1) c10 (fun r14 c13 => wX10_in r14.toInt64 0 5 c13 (fun r16 c15 => ((r16 = 0 → Q (nI (ckS pv i) + 1) c15) ∧ (¬ r16 = 0 → wX10_reasonWrong (nI (ckS pv i)) c15 (fun r19 c18 => ((r19 = (-1) → wX10_paper (nI (ckS pv i) + 4) c18 (fun r22 c21 => wX10_paper 24 c21 (fun r24 c23 => wX10_in r22.toInt64 1 r24.toInt64 c23 (fun r26 c25 => wX10_keptWrong_p101 (nI i) (nI (ckS pv i)) r22 r26 0 c25 Q)))) ∧ (¬ r19 = (-1) → Q r19 c18)))))))) ∧ (¬ nI i ≤ r11 → Q (nI (ckS pv i)) c10))))))) → wX10_keptWrong (nI i) m Q := by
    intro Q hQ
    unfold wX10_keptWrong
    rw [nI_clamp (by omega), hk.1 i hi]
    refine ⟨vp_in_nI (by omega) (by decide), ?_⟩
    intro v1 hv1
    subst hv1
    rw [e_paper (by omega) hL hm]
    exact hQ
  rcases in_both (x := pv (ckS pv i)) (N := 500) (b64 := 499) (b32 := 499) (by decide) (by decide) (by decide) rfl with ⟨q1, q2, q3⟩ | ⟨t, ht, et, q1, q2⟩
  · -- no handle
    rcases kept_case g hL hk (pv (ckS pv i)) with ⟨k1, k2, k3⟩ | ⟨h, j, hh, ex, hF, k1, k2, k3, k4⟩
    · refine ⟨nI (ckS pv i), c, fun Q hQ => hXh Q ?_, fun Q hQ => hMh Q ?_, fun _ _ => rfl, fun z => absurd z (nI_m1 (by omega)), nat _ (by omega)⟩
      · rw [k2]
        simp only [true_implies, not_true_eq_false, false_implies, and_true]; exact hQ
      · rw [q1]
        simp only [true_implies, not_true_eq_false, false_implies, and_true]; exact hQ
    · exact absurd ex (q3 h hh)
  · rcases kept_case g hL hk (pv (ckS pv i)) with ⟨k1, k2, k3⟩ | ⟨h, j, hh, ex, hF, k1, k2, k3, k4⟩
    · exact absurd et (k3 i hi rfl t ht)
    · have hjK := hF.2.1
      have hji : j ≤ i := by
        by_cases z : j ≤ i
        · exact z
        · exact absurd ex (hF.2.2.2 i (Nat.zero_le _) (by omega))
      by_cases e : j = i
      · subst e
        -- heads, once more
        have hXr : ∀ Q : Int32 → gMem → Prop, wX1_firstWrongOfReason (nI (ckS pv j)) c (fun r11 c10 => ((r11 = (-1) → wX1_isRankWrong (nI (ckS pv j)) c10 (fun r14 c13 => ((r14 = 0 → c13 70 0 = 1 ∧ vp_in (nI (ckS pv j) + 4) 6527 ∧ ∀ v17, v17 = c13 16 (nI (ckS pv j) + 4).toNatClampNeg → vp_in v17 501 ∧ ∀ c19, c19 = mp c13 73 v17.toNatClampNeg 1 → c19 70 0 = 1 ∧ vp_in (nI (ckS pv j) + 5) 6527 ∧ ∀ v22, v22 = c19 16 (nI (ckS pv j) + 5).toNatClampNeg → wX1_firstWrongLink (nI (ckS pv j) + 6) ((nI (ckS pv j) + 6) + v22) c19 (fun r25 c24 => Q r25 c24)) ∧ (¬ r14 = 0 → Q (nI (ckS pv j) + 4) c13)))) ∧ (¬ r11 = (-1) → Q r11 c10))) → wX1_firstWrongOfKept (nI (ckS pv j)) c Q := by
          intro Q hQ
          refine hXh Q ?_
          rw [k2, ex]
          simp only [i32_10, true_implies, not_false_eq_true, false_implies, true_and]
          rw [nI_clamp (by omega)]
          refine ⟨vp_in_nI hh (by decide), ?_⟩
          intro v7 hv7
          subst hv7
          exact ⟨fun _ => hQ, fun z => absurd k4 z⟩
        have hMr : ∀ Q : Int32 → gMem → Prop, wX10_in (pv (ckS pv j + 1)).toInt64 0 5 m (fun r16 c15 => ((r16 = 0 → Q (nI (ckS pv j) + 1) c15) ∧ (¬ r16 = 0 → wX10_reasonWrong (nI (ckS pv j)) c15 (fun r19 c18 => ((r19 = (-1) → wX10_paper (nI (ckS pv j) + 4) c18 (fun r22 c21 => wX10_paper 24 c21 (fun r24 c23 => wX10_in r22.toInt64 1 r24.toInt64 c23 (fun r26 c25 => wX10_keptWrong_p101 (nI j) (nI (ckS pv j)) r22 r26 0 c25 Q)))) ∧ (¬ r19 = (-1) → Q r19 c18)))))) → wX10_keptWrong (nI j) m Q := by
          intro Q hQ
          refine hMh Q ?_
          rw [q1]
          simp only [i32_10, true_implies, not_false_eq_true, false_implies, true_and]
          rw [e_paper (by omega) hL hm, k1]
          simp only [Int32.le_refl, true_implies, not_true_eq_false, false_implies, and_true]
          rw [a1, e_paper (by omega) hL hm]
          rw [a1] at hQ
          exact hQ
        rcases in_both (x := pv (ckS pv j + 1)) (N := 6) (b64 := 5) (b32 := 5) (by decide) (by decide) (by decide) rfl with ⟨w1, w2, w3⟩ | ⟨w, hw, ew, w1, w2⟩
        · refine ⟨nI (ckS pv j + 1), c, fun Q hQ => hXr Q ?_, fun Q hQ => hMr Q ?_, fun _ _ => rfl, fun z => absurd z (nI_m1 (by omega)), nat _ (by omega)⟩
          · unfold wX1_firstWrongOfReason
            rw [a1, nI_clamp (by omega), hc.2.2.2 _ (by omega)]
            refine ⟨hc.1, vp_in_nI (by omega) (by decide), ?_⟩
            intro v2 hv2
            subst hv2
            rw [w2]
            simp only [true_implies, not_true_eq_false, false_implies, and_true]
            exact ⟨fun z => absurd z (nI_m1 (by omega)), fun _ => hQ⟩
          · rw [w1]
            simp only [true_implies, not_true_eq_false, false_implies, and_true]
            rw [a1]; exact hQ
        · obtain ⟨b1, f1, f2, f3⟩ := first_case g hL hk (w := w) (by omega) (pv (ckS pv j + 2))
          have hs : ∃ s0 : Int32, (s0 = 1 ∧ w = 3 ∧ pv (ckS pv j + 2) = -1 ∨ s0 = 0 ∧ ¬ (w = 3 ∧ pv (ckS pv j + 2) = -1)) := by
            by_cases z : w = 3 ∧ pv (ckS pv j + 2) = -1
            · exact ⟨1, Or.inl ⟨rfl, z⟩⟩
            · exact ⟨0, Or.inr ⟨rfl, z⟩⟩
          obtain ⟨s0, hs⟩ := hs
          -- reason heads
          have hXq : ∀ Q : Int32 → gMem → Prop, ((b32 b1 = 0 → Q (nI (ckS pv j + 2)) c) ∧ (¬ b32 b1 = 0 → wX1_isSecondRight (nI w) (pv (ckS pv j + 2)) (pv (ckS pv j + 3)) c (fun r17 c16 => ((r17 = 0 → Q (nI (ckS pv j + 3)) c16) ∧ (¬ r17 = 0 → Q (-1) c16))))) → wX1_firstWrongOfReason (nI (ckS pv j)) c Q := by
            intro Q hQ
            unfold wX1_firstWrongOfReason
            rw [a1, a2, a3, nI_clamp (by omega), nI_clamp (by omega), nI_clamp (by omega), hc.2.2.2 _ (by omega)]
            refine ⟨hc.1, vp_in_nI (by omega) (by decide), ?_⟩
            intro v2 hv2
            subst hv2
            rw [w2]
            simp only [i32_10, true_implies, not_false_eq_true, false_implies, true_and]
            refine ⟨hc.1, vp_in_nI (by omega) (by decide), ?_⟩
            intro v8 hv8
            rw [hc.2.2.2 _ (by omega)] at hv8
            subst hv8
            rw [ew, f1]
            refine ⟨hQ.1, fun z => ⟨hc.1, vp_in_nI (by omega) (by decide), ?_⟩⟩
            intro v14 hv14
            rw [hc.2.2.2 _ (by omega)] at hv14
            subst hv14
            exact hQ.2 z
          have hMq : ∀ Q : Int32 → gMem → Prop, wX10_reasonWrong_p120 (nI (ckS pv j)) (nI w) (pv (ckS pv j + 3)) s0 (b32 b1) m Q → wX10_reasonWrong (nI (ckS pv j)) m Q := by
            intro Q hQ
            have h40 := f2 (nI (ckS pv j)) (pv (ckS pv j + 3)) s0 Q hs hQ
            unfold wX10_reasonWrong wX10_reasonWrong_p39
            rw [a1, a2, a3, e_paper (by omega) hL hm, e_paper (by omega) hL hm, e_paper (by omega) hL hm, ew]
            rcases hs with ⟨rfl, rfl, h3⟩ | ⟨rfl, h3⟩
            · rw [h3] at h40 ⊢
              simp only [show (nI 3 = 3) = True by decide, true_implies, not_true_eq_false, false_implies, and_true]
              exact h40
            · refine ⟨fun z3 => ⟨fun z => ?_, fun _ => h40⟩, fun _ => h40⟩
              have : w = 3 := nI_inj (b := 3) (by omega) (by decide) z3
              exact absurd ⟨this, z⟩ h3
          have hMk : ∀ Q : Int32 → gMem → Prop, wX10_reasonWrong (nI (ckS pv j)) m (fun r19 c18 => ((r19 = (-1) → wX10_paper (nI (ckS pv j) + 4) c18 (fun r22 c21 => wX10_paper 24 c21 (fun r24 c23 => wX10_in r22.toInt64 1 r24.toInt64 c23 (fun r26 c25 => wX10_keptWrong_p101 (nI j) (nI (ckS pv j)) r22 r26 0 c25 Q)))) ∧ (¬ r19 = (-1) → Q r19 c18))) → wX10_keptWrong (nI j) m Q := by
            intro Q hQ
            refine hMr Q ?_
            rw [w1]
            simp only [i32_10, true_implies, not_false_eq_true, false_implies, true_and]
            exact hQ
          cases b1
          · refine ⟨nI (ckS pv j + 2), c, fun Q hQ => hXr Q (hXq _ ?_), fun Q hQ => hMk Q (hMq _ ?_), fun _ _ => rfl, fun z => absurd z (nI_m1 (by omega)), nat _ (by omega)⟩
            · refine ⟨fun _ => ⟨fun z => absurd z (nI_m1 (by omega)), fun _ => hQ⟩, fun z => absurd rfl z⟩
            · unfold wX10_reasonWrong_p120
              refine ⟨fun _ => ?_, fun z => absurd rfl z⟩
              rw [a2]
              exact ⟨fun z => absurd z (nI_m1 (by omega)), fun _ => hQ⟩
          · obtain ⟨g1, g2⟩ := f3 rfl
            obtain ⟨b2, s1, s2⟩ := second_case (c := c) (m := m) (w := w) (by omega) (pv (ckS pv j + 2)) (pv (ckS pv j + 3)) s0 hs g2
            have hXs : ∀ Q : Int32 → gMem → Prop, ((b32 b2 = 0 → Q (nI (ckS pv j + 3)) c) ∧ (¬ b32 b2 = 0 → Q (-1) c)) → wX1_firstWrongOfReason (nI (ckS pv j)) c Q := by
              intro Q hQ
              refine hXq Q ⟨fun z => absurd z (by decide), fun _ => ?_⟩
              rw [s1]; exact hQ
            have hMs : ∀ Q : Int32 → gMem → Prop, wX10_reasonWrong_p193 (nI (ckS pv j)) (b32 b2) m Q → wX10_reasonWrong (nI (ckS pv j)) m Q := by
              intro Q hQ
              exact hMq Q (s2 _ Q hQ)
            cases b2
            · refine ⟨nI (ckS pv j + 3), c, fun Q hQ => hXr Q (hXs _ ?_), fun Q hQ => hMk Q (hMs _ ?_), fun _ _ => rfl, fun z => absurd z (nI_m1 (by omega)), nat _ (by omega)⟩
              · exact ⟨fun _ => ⟨fun z => absurd z (nI_m1 (by omega)), fun _ => hQ⟩, fun z => absurd rfl z⟩
              · unfold wX10_reasonWrong_p193
                refine ⟨fun _ => ?_, fun z => absurd rfl z⟩
                rw [a3]
                exact ⟨fun z => absurd z (nI_m1 (by omega)), fun _ => hQ⟩
            · -- the rank
              have hXt : ∀ Q : Int32 → gMem → Prop, wX1_isRankWrong (nI (ckS pv j)) c (fun r14 c13 => ((r14 = 0 → c13 70 0 = 1 ∧ vp_in (nI (ckS pv j) + 4) 6527 ∧ ∀ v17, v17 = c13 16 (nI (ckS pv j) + 4).toNatClampNeg → vp_in v17 501 ∧ ∀ c19, c19 = mp c13 73 v17.toNatClampNeg 1 → c19 70 0 = 1 ∧ vp_in (nI (ckS pv j) + 5) 6527 ∧ ∀ v22, v22 = c19 16 (nI (ckS pv j) + 5).toNatClampNeg → wX1_firstWrongLink (nI (ckS pv j) + 6) ((nI (ckS pv j) + 6) + v22) c19 (fun r25 c24 => Q r25 c24)) ∧ (¬ r14 = 0 → Q (nI (ckS pv j) + 4) c13))) → wX1_firstWrongOfKept (nI (ckS pv j)) c Q := by
                intro Q hQ
                refine hXr Q (hXs _ ⟨fun z => absurd z (by decide), fun _ => ⟨fun _ => hQ, fun z => absurd rfl z⟩⟩)
              have hMt : ∀ Q : Int32 → gMem → Prop, wX10_in (pv (ckS pv j + 4)).toInt64 1 (nI K).toInt64 m (fun r26 c25 => wX10_keptWrong_p101 (nI j) (nI (ckS pv j)) (pv (ckS pv j + 4)) r26 0 c25 Q) → wX10_keptWrong (nI j) m Q := by
                intro Q hQ
                refine hMk Q (hMs _ ?_)
                unfold wX10_reasonWrong_p193
                refine ⟨fun z => absurd z (by decide), fun _ => ⟨fun _ => ?_, fun z => absurd rfl z⟩⟩
                rw [a4, e_paper (by omega) hL hm, show (24 : Int32) = nI 24 from rfl, e_paper g.1 hL hm, g.2.1]
                exact hQ
              have hXu : ∀ Q : Int32 → gMem → Prop, wX1_isIn (pv (ckS pv j + 4)) 1 (nI K) c (fun r6 c5 => ((r6 = 0 → Q 1 c5) ∧ (¬ r6 = 0 → vp_in (pv (ckS pv j + 4)) 501 ∧ ∀ v8, v8 = c5 73 (pv (ckS pv j + 4)).toNatClampNeg → ((v8 = 0 → c5 70 0 = 1 ∧ vp_in (nI (ckS pv j) + 1) 6527 ∧ ∀ v12, v12 = c5 16 (nI (ckS pv j) + 1).toNatClampNeg → ((v12 = 1 → c5 70 0 = 1 ∧ c5 70 0 = 1 ∧ vp_in (nI (ckS pv j) + 2) 6527 ∧ ∀ v17, v17 = c5 16 (nI (ckS pv j) + 2).toNatClampNeg → vp_in v17 500 ∧ ∀ v19, v19 = c5 72 v17.toNatClampNeg → vp_in (v19 + 4) 6527 ∧ ∀ v21, v21 = c5 16 (v19 + 4).toNatClampNeg → ((v21 < pv (ckS pv j + 4) → Q 0 c5) ∧ (¬ v21 < pv (ckS pv j + 4) → Q 1 c5))) ∧ (¬ v12 = 1 → Q 0 c5))) ∧ (¬ v8 = 0 → Q 1 c5))))) → wX1_isRankWrong (nI (ckS pv j)) c Q := by
                intro Q hQ
                unfold wX1_isRankWrong
                rw [a4, nI_clamp (by omega), hc.2.2.2 _ (by omega)]
                refine ⟨hc.1, vp_in_nI (by omega) (by decide), ?_⟩
                intro v2 hv2
                subst hv2
                intro v4 hv4
                rw [hc.2.2.1] at hv4
                subst hv4
                exact hQ
              -- what a wrong rank comes to
              have bad : (∀ Q : Int32 → gMem → Prop, Q 1 c → wX1_isRankWrong (nI (ckS pv j)) c Q) → (∀ Q : Int32 → gMem → Prop, Q (nI (ckS pv j + 4)) m → wX10_keptWrong (nI j) m Q) → ∃ r c', Di (wX1_firstWrongOfKept (nI (ckS pv j)) c) r c' ∧ Di (wX10_keptWrong (nI j) m) r m ∧ (∀ a, a ≠ 73 → c' a = c a) ∧ (r = -1 → ckR pv K (j + 1) c') ∧ (r = -1 ∨ ∃ z : Nat, z ≤ 7000 ∧ r = nI z) := by
                intro bx bm
                refine ⟨nI (ckS pv j + 4), c, fun Q hQ => hXt Q (bx _ ⟨fun z => absurd z (by decide), fun _ => ?_⟩), fun Q hQ => bm Q hQ, fun _ _ => rfl, fun z => absurd z (nI_m1 (by omega)), nat _ (by omega)⟩
                rw [a4]; exact hQ
              have p143 : ∀ (v : Int32) (Q : Int32 → gMem → Prop), Q (nI (ckS pv j + 4)) m → wX10_keptWrong_p143 (nI (ckS pv j)) v 0 m Q := by
                intro v Q hQ
                unfold wX10_keptWrong_p143 wX10_keptWrong_p186
                rw [a4]
                exact ⟨fun _ => hQ, fun z => absurd rfl z⟩
              -- is the rank in reach
              have one : (1 : Int32).toInt = 1 := by decide
              have one64 : (1 : Int64).toInt = 1 := by decide
              have k64 : (nI K).toInt64.toInt = (K : Int) := by
                rw [Int32.toInt_toInt64, nI_toInt (by omega)]
              have rk : (¬ ∃ q, 1 ≤ q ∧ q ≤ K ∧ pv (ckS pv j + 4) = nI q) ∨ ∃ q, 1 ≤ q ∧ q ≤ K ∧ pv (ckS pv j + 4) = nI q := (Decidable.em (1 ≤ (pv (ckS pv j + 4)).toInt ∧ (pv (ckS pv j + 4)).toInt ≤ K)).symm.imp (fun z ⟨q, z1, z2, z3⟩ => z (by rw [z3, nI_toInt (by omega)]; omega)) (fun z => by
                rcases pk_ix (pv (ckS pv j + 4)) (n := K + 1) (by omega) with q | q | ⟨q, hq, eq⟩
                · have := Int32.lt_iff_toInt_lt.mp q
                  have z0 : (0 : Int32).toInt = 0 := by decide
                  omega
                · have := Int32.le_iff_toInt_le.mp q
                  rw [nI_toInt (by omega)] at this
                  omega
                · rw [eq, nI_toInt (by omega)] at z
                  exact ⟨q, by omega, by omega, eq⟩)
              rcases rk with rk | ⟨q, hq1, hqK, eq⟩
              · have rk' : (pv (ckS pv j + 4)).toInt < 1 ∨ (K : Int) < (pv (ckS pv j + 4)).toInt := by
                  by_cases z : (pv (ckS pv j + 4)).toInt < 1
                  · exact Or.inl z
                  · by_cases z2 : (K : Int) < (pv (ckS pv j + 4)).toInt
                    · exact Or.inr z2
                    · exfalso
                      refine rk ⟨(pv (ckS pv j + 4)).toInt.toNat, by omega, by omega, Int32.toInt_inj.mp ?_⟩
                      rw [nI_toInt (by omega)]; omega
                refine bad (fun Q hQ => hXu Q ?_) (fun Q hQ => hMt Q ?_)
                · unfold wX1_isIn
                  have hx : (pv (ckS pv j + 4) < 1 → True) := fun _ => trivial
                  by_cases z : pv (ckS pv j + 4) < 1
                  · simp only [z, true_implies, not_true_eq_false, false_implies, and_true]; exact hQ
                  · have z2 : nI K < pv (ckS pv j + 4) := by
                      refine Int32.lt_iff_toInt_lt.mpr ?_
                      rw [nI_toInt (by omega)]
                      rcases rk' with y | y
                      · exact absurd (Int32.lt_iff_toInt_lt.mpr (by rw [one]; exact y)) z
                      · exact y
                    simp only [z, z2, true_implies, not_true_eq_false, not_false_eq_true, false_implies, and_true, true_and]; exact hQ
                · rw [e_inI0 (by rw [one64, k64]; exact rk')]
                  intro P hP
                  refine hP _ _ _ _ _ _ ?_
                  unfold wX10_keptWrong_p101_b
                  simp only [true_implies, not_true_eq_false, false_implies, and_true]
                  exact ⟨fun _ => p143 _ Q hQ, fun _ => p143 _ Q hQ⟩
              · have hin : ∀ Q : Int32 → gMem → Prop, wX10_in (pv (ckS pv j + 4)).toInt64 1 (nI K).toInt64 m Q = Q 1 m := fun Q => e_inI1 (by rw [one64, eq, nI_toInt (by omega)]; omega) (by rw [k64, eq, nI_toInt (by omega)]; omega)
                have hinx : ∀ Q : Int32 → gMem → Prop, wX1_isIn (pv (ckS pv j + 4)) 1 (nI K) c Q = Q 1 c := by
                  intro Q
                  unfold wX1_isIn
                  have z1 : ¬ pv (ckS pv j + 4) < 1 := fun z => by
                    have := Int32.lt_iff_toInt_lt.mp z
                    rw [eq, nI_toInt (by omega), one] at this; omega
                  have z2 : ¬ nI K < pv (ckS pv j + 4) := fun z => by
                    have := Int32.lt_iff_toInt_lt.mp z
                    rw [eq, nI_toInt (by omega), nI_toInt (by omega)] at this; omega
                  simp only [z1, z2, true_implies, not_false_eq_true, false_implies, true_and]
                have hcl : (pv (ckS pv j + 4)).toNatClampNeg = q := by rw [eq, nI_clamp (by omega)]
                obtain ⟨rk1, rk2⟩ := ck_rank g hL hm hk.1 hi (l2 := nI (ckS pv j)) (v := pv (ckS pv j + 4)) j 0 (by omega)
                rcases hR q hq1 hqK with ⟨c0, hno⟩ | ⟨c1, hyes⟩
                · -- a new rank
                  have hno' : ∀ z, 0 ≤ z → z < j → pv (ckS pv z + 4) ≠ pv (ckS pv j + 4) := fun z _ hz => by rw [eq]; exact hno z hz
                  have hMv : ∀ Q : Int32 → gMem → Prop, wX10_keptWrong_p143 (nI (ckS pv j)) (pv (ckS pv j + 4)) 1 m Q → wX10_keptWrong (nI j) m Q := fun Q hQ => hMt Q (by rw [hin]; exact rk1 hno' Q hQ)
                  have hXv : ∀ Q : Int32 → gMem → Prop, ((nI w = 1 → vp_in (pv (ckS pv j + 2)) 500 ∧ ∀ v19, v19 = c 72 (pv (ckS pv j + 2)).toNatClampNeg → vp_in (v19 + 4) 6527 ∧ ∀ v21, v21 = c 16 (v19 + 4).toNatClampNeg → ((v21 < pv (ckS pv j + 4) → Q 0 c) ∧ (¬ v21 < pv (ckS pv j + 4) → Q 1 c))) ∧ (¬ nI w = 1 → Q 0 c)) → wX1_isRankWrong (nI (ckS pv j)) c Q := by
                    intro Q hQ
                    refine hXu Q ?_
                    rw [hinx]
                    simp only [i32_10, true_implies, not_false_eq_true, false_implies, true_and]
                    rw [hcl]
                    refine ⟨by rw [eq]; exact vp_in_nI (by omega) (by decide), ?_⟩
                    intro v8 hv8
                    rw [c0] at hv8
                    subst hv8
                    refine ⟨fun _ => ⟨hc.1, by rw [a1]; exact vp_in_nI (by omega) (by decide), ?_⟩, fun z => absurd rfl z⟩
                    intro v12 hv12
                    rw [a1, nI_clamp (by omega), hc.2.2.2 _ (by omega), ew] at hv12
                    subst hv12
                    refine ⟨fun z => ⟨hc.1, hc.1, by rw [a2]; exact vp_in_nI (by omega) (by decide), ?_⟩, hQ.2⟩
                    intro v17 hv17
                    rw [a2, nI_clamp (by omega), hc.2.2.2 _ (by omega)] at hv17
                    subst hv17
                    exact hQ.1 z
                  -- behind a good rank come the links
                  have good : (∀ Q : Int32 → gMem → Prop, Q 0 c → wX1_isRankWrong (nI (ckS pv j)) c Q) → (∀ Q : Int32 → gMem → Prop, wX10_keptWrong_p190 (nI (ckS pv j)) m Q → wX10_keptWrong (nI j) m Q) → ∃ r c', Di (wX1_firstWrongOfKept (nI (ckS pv j)) c) r c' ∧ Di (wX10_keptWrong (nI j) m) r m ∧ (∀ a, a ≠ 73 → c' a = c a) ∧ (r = -1 → ckR pv K (j + 1) c') ∧ (r = -1 ∨ ∃ z : Nat, z ≤ 7000 ∧ r = nI z) := by
                    intro bx bm
                    have hc' : ckC pv L K (mp c 73 q 1) := ⟨by rw [mp_n (by decide)]; exact hc.1, by rw [mp_n (by decide)]; exact hc.2.1, by rw [mp_n (by decide)]; exact hc.2.2.1, fun z hz => by rw [mp_n (by decide)]; exact hc.2.2.2 z hz⟩
                    have hk' : ckK pv K (mp c 73 q 1) m := ⟨hk.1, fun z hz => by rw [mp_n (by decide)]; exact hk.2 z hz⟩
                    obtain ⟨r, XL, MLk, hr⟩ := ck_links g hL hc' hm hk' hi hn en hend n 0 (by omega)
                    refine ⟨r, mp c 73 q 1, fun Q hQ => hXt Q (bx _ ⟨fun _ => ⟨hc.1, by rw [a4]; exact vp_in_nI (by omega) (by decide), ?_⟩, fun z => absurd rfl z⟩), fun Q hQ => bm Q (MLk Q hQ), fun a ha => mp_n ha, fun _ => ?_, hr⟩
                    · intro v17 hv17
                      rw [a4, nI_clamp (by omega), hc.2.2.2 _ (by omega)] at hv17
                      subst hv17
                      refine ⟨by rw [eq]; exact vp_in_nI (by omega) (by decide), ?_⟩
                      intro c19 hc19
                      rw [hcl] at hc19
                      subst hc19
                      refine ⟨hc'.1, by rw [a5]; exact vp_in_nI (by omega) (by decide), ?_⟩
                      intro v22 hv22
                      rw [a5, nI_clamp (by omega), hc'.2.2.2 _ (by omega), en] at hv22
                      subst hv22
                      unfold wX1_firstWrongLink
                      rw [a6, nI_add]
                      exact XL _ hQ
                    · intro z z1 z2
                      rw [mp_s]
                      by_cases ez : z = q
                      · subst ez
                        rw [up_s]
                        exact Or.inr ⟨rfl, j, by omega, eq⟩
                      · rw [up_n ez]
                        rcases hR z z1 z2 with ⟨y1, y2⟩ | ⟨y1, y, y2, y3⟩
                        · refine Or.inl ⟨y1, fun x hx => ?_⟩
                          by_cases ex2 : x = j
                          · subst ex2; rw [eq]; exact fun k => ez (nI_inj (by omega) (by omega) k).symm
                          · exact y2 x (by omega)
                        · exact Or.inr ⟨y1, y, by omega, y3⟩
                  by_cases w1' : w = 1
                  · subst w1'
                    obtain ⟨h', i', hh', ex', hF', m9', c72', kO'⟩ := g1 rfl
                    have hi'K := hF'.2.1
                    have hrow' := (g.2.2.2.1 i' hi'K).1
                    have hXw : ∀ Q : Int32 → gMem → Prop, ((pv (ckS pv i' + 4) < pv (ckS pv j + 4) → Q 0 c) ∧ (¬ pv (ckS pv i' + 4) < pv (ckS pv j + 4) → Q 1 c)) → wX1_isRankWrong (nI (ckS pv j)) c Q := by
                      intro Q hQ
                      refine hXv Q ⟨fun _ => ⟨by rw [ex']; exact vp_in_nI hh' (by decide), ?_⟩, fun z => absurd rfl z⟩
                      intro v19 hv19
                      rw [ex', nI_clamp (by omega), c72'] at hv19
                      subst hv19
                      rw [show nI (ckS pv i') + 4 = nI (ckS pv i' + 4) from nI_add _ 4, nI_clamp (by omega), hc.2.2.2 _ (by omega)]
                      refine ⟨vp_in_nI (by omega) (by decide), ?_⟩
                      intro v21 hv21
                      subst hv21
                      exact hQ
                    have hMw : ∀ Q : Int32 → gMem → Prop, ((pv (ckS pv i' + 4) < pv (ckS pv j + 4) → wX10_keptWrong_p190 (nI (ckS pv j)) m Q) ∧ (¬ pv (ckS pv i' + 4) < pv (ckS pv j + 4) → Q (nI (ckS pv j + 4)) m)) → wX10_keptWrong (nI j) m Q := by
                      intro Q hQ
                      refine hMv Q ?_
                      unfold wX10_keptWrong_p143 wX10_keptWrong_p186
                      simp only [i32_10, true_implies, not_false_eq_true, false_implies, true_and]
                      rw [a1, a2, a4, e_paper (by omega) hL hm, ew]
                      simp only [show (nI 1 = 1) = True by decide, true_implies, not_true_eq_false, false_implies, and_true]
                      rw [e_paper (by omega) hL hm, kO', nI_clamp (by omega), hk.1 i' hi'K]
                      refine ⟨vp_in_nI (by omega) (by decide), ?_⟩
                      intro v9 hv9
                      subst hv9
                      rw [show nI (ckS pv i') + 4 = nI (ckS pv i' + 4) from nI_add _ 4, e_paper (by omega) hL hm]
                      exact hQ
                    by_cases lt : pv (ckS pv i' + 4) < pv (ckS pv j + 4)
                    · exact good (fun Q hQ => hXw Q ⟨fun _ => hQ, fun z => absurd lt z⟩) (fun Q hQ => hMw Q ⟨fun _ => hQ, fun z => absurd lt z⟩)
                    · exact bad (fun Q hQ => hXw Q ⟨fun z => absurd z lt, fun _ => hQ⟩) (fun Q hQ => hMw Q ⟨fun z => absurd z lt, fun _ => hQ⟩)
                  · have nw1 : ¬ nI w = 1 := fun z => w1' (nI_inj (b := 1) (by omega) (by decide) z)
                    refine good (fun Q hQ => hXv Q ⟨fun z => absurd z nw1, fun _ => hQ⟩) (fun Q hQ => hMv Q ?_)
                    unfold wX10_keptWrong_p143
                    simp only [i32_10, true_implies, not_false_eq_true, false_implies, true_and]
                    rw [a1, e_paper (by omega) hL hm, ew]
                    exact ⟨fun z => absurd z nw1, fun _ => hQ⟩
                · -- a rank seen before
                  have hyes' : ∃ z, 0 ≤ z ∧ z < j ∧ pv (ckS pv z + 4) = pv (ckS pv j + 4) := by
                    obtain ⟨z, z1, z2⟩ := hyes
                    exact ⟨z, Nat.zero_le _, z1, by rw [eq]; exact z2⟩
                  refine bad (fun Q hQ => hXu Q ?_) (fun Q hQ => hMt Q (by rw [hin]; exact rk2 hyes' Q (p143 _ Q hQ)))
                  rw [hinx]
                  simp only [i32_10, true_implies, not_false_eq_true, false_implies, true_and]
                  rw [hcl]
                  refine ⟨by rw [eq]; exact vp_in_nI (by omega) (by decide), ?_⟩
                  intro v8 hv8
                  rw [c1] at hv8
                  subst hv8
                  exact ⟨fun z => absurd z (by decide), fun _ => hQ⟩
      · -- a handle that has its row already
        have hlt2 := ckS_lt g (i := j) (j := i) (by omega) (by omega)
        refine ⟨nI (ckS pv i), c, fun Q hQ => hXh Q ?_, fun Q hQ => hMh Q ?_, fun _ _ => rfl, fun z => absurd z (nI_m1 (by omega)), nat _ (by omega)⟩
        · rw [k2, ex]
          simp only [i32_10, true_implies, not_false_eq_true, false_implies, true_and]
          rw [nI_clamp (by omega)]
          refine ⟨vp_in_nI hh (by decide), ?_⟩
          intro v7 hv7
          subst hv7
          exact ⟨fun z => absurd (nI_inj (by omega) (by omega) (k4.symm.trans z)) (by omega), fun _ => hQ⟩
        · rw [q1]
          simp only [i32_10, true_implies, not_false_eq_true, false_implies, true_and]
          rw [e_paper (by omega) hL hm, k1]
          exact ⟨fun z => absurd z (nI_ge (by omega) (by omega)), fun _ => hQ⟩
end CK4

/-! check -/
section CK5
variable {pv : Nat → Int32} {L K : Nat} {c m : gMem}
theorem ck_given (g : ckG pv L K) (hL : L ≤ 6527) (hc : ckC pv L K c) (hm : ckM pv L m) (hk : ckK pv K c m) : ∀ (d q : Nat) (prev : Int32), q + d = L - 1 → ∃ r, Di (wX1_firstWrongGivenBack_p6 prev (nI q) c) r c ∧ Di (wX10_meaningWrong_p72 prev (nI q) m) r m ∧ (r = -1 ∨ ∃ z : Nat, z ≤ 7000 ∧ r = nI z) := by
  have h24 := g.1
  have eL : nI L - 1 = nI (L - 1) := by rw [show L = (L - 1) + 1 by omega, nI_pred]; rfl
  intro d
  induction d with
  | zero =>
    intro q prev hq
    have : q = L - 1 := by omega
    subst this
    refine ⟨-1, fun Q hQ P hP => hP _ _ _ ?_, fun Q hQ P hP => hP _ _ _ ?_, Or.inl rfl⟩
    · unfold wX1_firstWrongGivenBack_p6_b
      simp only [forall_eq, hc.2.1, eL, Int32.le_refl, true_implies, not_true_eq_false, false_implies, and_true]; exact hQ
    · unfold wX10_meaningWrong_p72_b
      simp only [forall_eq, hm.1, eL, Int32.le_refl, true_implies, not_true_eq_false, false_implies, and_true]; exact hQ
  | succ d ih =>
    intro q prev hq
    have hge : ¬ nI (L - 1) ≤ nI q := nI_ge (by omega) (by omega)
    have hXh : ∀ (P : Int32 → Int32 → gMem → Prop) (Q : Int32 → gMem → Prop), ((pv q ≤ prev → Q (nI q) c) ∧ (¬ pv q ≤ prev → ((500 ≤ pv q → Q (nI q) c) ∧ (¬ 500 ≤ pv q → wX1_isKept (pv q) c (fun r9 c8 => ((r9 = 0 → P (pv q) (nI (q + 1)) c8) ∧ (¬ r9 = 0 → Q (nI q) c8))))))) → wX1_firstWrongGivenBack_p6_b P prev (nI q) c Q := by
      intro P Q hQ
      unfold wX1_firstWrongGivenBack_p6_b
      simp only [forall_eq, hc.1, hc.2.1, eL, hge, true_implies, not_false_eq_true, false_implies, true_and]
      rw [nI_clamp (by omega), hc.2.2.2 _ (by omega), nI_1]
      exact ⟨vp_in_nI (by omega) (by decide), hQ⟩
    have hMh : ∀ (P : Int32 → Int32 → gMem → Prop) (Q : Int32 → gMem → Prop), ((pv q ≤ prev → Q (nI q) m) ∧ (¬ pv q ≤ prev → ((499 < pv q → Q (nI q) m) ∧ (¬ 499 < pv q → wX10_keptOf (pv q) m (fun r12 c11 => ((r12 = (-1) → wX10_paper (nI q) c11 (fun r15 c14 => P r15 (nI (q + 1)) c14)) ∧ (¬ r12 = (-1) → Q (nI q) c11))))))) → wX10_meaningWrong_p72_b P prev (nI q) m Q := by
      intro P Q hQ
      unfold wX10_meaningWrong_p72_b
      simp only [forall_eq, hm.1, eL, hge, true_implies, not_false_eq_true, false_implies, true_and]
      rw [e_paper (by omega) hL hm, e_paper (by omega) hL hm, e_paper (by omega) hL hm, nI_1]
      exact hQ
    have e5 : (499 < pv q) = ((500 : Int32) ≤ pv q) := propext (by
      have z1 : (499 : Int32).toInt = 499 := by decide
      have z2 : (500 : Int32).toInt = 500 := by decide
      rw [Int32.lt_iff_toInt_lt, Int32.le_iff_toInt_le, z1, z2]; omega)
    rw [e5] at hMh
    have nat : nI q = -1 ∨ ∃ z : Nat, z ≤ 7000 ∧ nI q = nI z := Or.inr ⟨q, by omega, rfl⟩
    by_cases h1 : pv q ≤ prev
    · exact ⟨nI q, fun Q hQ P hP => hP _ _ _ (hXh P Q ⟨fun _ => hQ, fun z => absurd h1 z⟩), fun Q hQ P hP => hP _ _ _ (hMh P Q ⟨fun _ => hQ, fun z => absurd h1 z⟩), nat⟩
    · by_cases h2 : (500 : Int32) ≤ pv q
      · exact ⟨nI q, fun Q hQ P hP => hP _ _ _ (hXh P Q ⟨fun z => absurd z h1, fun _ => ⟨fun _ => hQ, fun z => absurd h2 z⟩⟩), fun Q hQ P hP => hP _ _ _ (hMh P Q ⟨fun z => absurd z h1, fun _ => ⟨fun _ => hQ, fun z => absurd h2 z⟩⟩), nat⟩
      · rcases kept_case g hL hk (pv q) with ⟨k1, k2, k3⟩ | ⟨h, i, hh, ex, hF, k1, k2, k3, k4⟩
        · obtain ⟨r, X1, M1, hr⟩ := ih (q + 1) (pv q) (by omega)
          refine ⟨r, fun Q hQ P hP => hP _ _ _ (hXh P Q ⟨fun z => absurd z h1, fun _ => ⟨fun z => absurd z h2, fun _ => ?_⟩⟩), fun Q hQ P hP => hP _ _ _ (hMh P Q ⟨fun z => absurd z h1, fun _ => ⟨fun z => absurd z h2, fun _ => ?_⟩⟩), hr⟩
          · rw [k2]
            exact ⟨fun _ => X1 Q hQ P hP, fun z => absurd rfl z⟩
          · rw [k1]
            refine ⟨fun _ => ?_, fun z => absurd rfl z⟩
            rw [e_paper (by omega) hL hm]; exact M1 Q hQ P hP
        · have hi : ¬ nI i = -1 := nI_m1 (by have := hF.2.1; have := g.2.2.1; omega)
          refine ⟨nI q, fun Q hQ P hP => hP _ _ _ (hXh P Q ⟨fun z => absurd z h1, fun _ => ⟨fun z => absurd z h2, fun _ => ?_⟩⟩), fun Q hQ P hP => hP _ _ _ (hMh P Q ⟨fun z => absurd z h1, fun _ => ⟨fun z => absurd z h2, fun _ => ?_⟩⟩), nat⟩
          · rw [k2]
            exact ⟨fun z => absurd z (by decide), fun _ => hQ⟩
          · rw [k1]
            exact ⟨fun z => absurd z hi, fun _ => hQ⟩
theorem ck_rows (g : ckG pv L K) (hL : L ≤ 6527) (hm : ckM pv L m) (h14 : m 0 14 = nI (ckS pv K)) : ∀ (d i : Nat) (c : gMem), i + d = K → ckC pv L K c → ckK pv K c m → ckR pv K i c → ∃ r c', Di (wX1_firstWrongInMeaning_p21 (-1) (nI (ckS pv i)) (nI i) c) r c' ∧ Di (wX10_meaningWrong_p34 (nI i) m) r m ∧ (∀ a, a ≠ 73 → c' a = c a) ∧ (r = -1 ∨ ∃ z : Nat, z ≤ 7000 ∧ r = nI z) := by
  have h24 := g.1
  have hK := g.2.2.1
  intro d
  induction d with
  | zero =>
    intro i c hi hc hk hR
    have : i = K := by omega
    subst this
    obtain ⟨-, n, hn, en, eL⟩ := g.2.2.2.2
    obtain ⟨r, X1, M1, hr⟩ := ck_given g hL hc hm hk n (ckS pv i + 1) (-1) (by omega)
    refine ⟨r, c, fun Q hQ P hP => hP _ _ _ _ ?_, fun Q hQ P hP => hP _ _ ?_, fun _ _ => rfl, hr⟩
    · unfold wX1_firstWrongInMeaning_p21_b wX1_firstWrongInMeaning_p60 wX1_firstWrongGivenBack
      simp only [forall_eq, hc.2.2.1, Int32.le_refl, true_implies, not_true_eq_false, false_implies, and_true]
      rw [nI_1]; exact X1 Q hQ
    · unfold wX10_meaningWrong_p34_b
      rw [show (24 : Int32) = nI 24 from rfl, e_paper h24 hL hm, g.2.1]
      simp only [forall_eq, h14, Int32.le_refl, true_implies, not_true_eq_false, false_implies, and_true]
      rw [nI_1]; exact M1 Q hQ
  | succ d ih =>
    intro i c hi hc hk hR
    have hiK : i < K := by omega
    have hge : ¬ nI K ≤ nI i := nI_ge hiK (by omega)
    obtain ⟨hrow, n, hn, en, est⟩ := g.2.2.2.1 i hiK
    obtain ⟨r, c1, X1, M1, f1, hRn, hr⟩ := ck_row g hL hc hm hk hiK hR
    have hc1 : ckC pv L K c1 := ⟨by rw [f1 70 (by decide)]; exact hc.1, by rw [f1 70 (by decide)]; exact hc.2.1, by rw [f1 70 (by decide)]; exact hc.2.2.1, fun j hj => by rw [f1 16 (by decide)]; exact hc.2.2.2 j hj⟩
    have hk1 : ckK pv K c1 m := ⟨hk.1, fun h hh => by rw [f1 72 (by decide)]; exact hk.2 h hh⟩
    have en2 : nI (ckS pv i) + (6 + nI n) = nI (ckS pv (i + 1)) := by
      rw [show (6 : Int32) + nI n = nI (6 + n) from nI_add 6 n, nI_add, est]; congr 1; omega
    have hXh : ∀ (P : Int32 → Int32 → Int32 → gMem → Prop) (Q : Int32 → gMem → Prop), P r (nI (ckS pv (i + 1))) (nI (i + 1)) c1 → wX1_firstWrongInMeaning_p21_b P (-1) (nI (ckS pv i)) (nI i) c Q := by
      intro P Q hQ
      unfold wX1_firstWrongInMeaning_p21_b
      simp only [forall_eq, hc.2.2.1, hge, true_implies, not_true_eq_false, not_false_eq_true, false_implies, and_true, true_and]
      refine X1 _ ⟨hc1.1, ?_⟩
      rw [show nI (ckS pv i) + 5 = nI (ckS pv i + 5) from nI_add _ 5, nI_clamp (by omega), hc1.2.2.2 _ hrow, en, en2, nI_1]
      exact ⟨vp_in_nI (by omega) (by decide), hQ⟩
    have hMh : ∀ (P : Int32 → gMem → Prop) (Q : Int32 → gMem → Prop), ((r = (-1) → P (nI (i + 1)) m) ∧ (¬ r = (-1) → Q r m)) → wX10_meaningWrong_p34_b P (nI i) m Q := by
      intro P Q hQ
      unfold wX10_meaningWrong_p34_b
      rw [show (24 : Int32) = nI 24 from rfl, e_paper h24 hL hm, g.2.1]
      simp only [hge, true_implies, not_false_eq_true, false_implies, true_and]
      refine M1 _ ?_
      rw [nI_1]; exact hQ
    by_cases e : r = -1
    · obtain ⟨r2, c2, X2, M2, f2, hr2⟩ := ih (i + 1) c1 (by omega) hc1 hk1 (hRn e)
      refine ⟨r2, c2, fun Q hQ P hP => hP _ _ _ _ (hXh P Q ?_), fun Q hQ P hP => hP _ _ (hMh P Q ⟨fun _ => M2 Q hQ P hP, fun z => absurd e z⟩), fun a ha => by rw [f2 a ha, f1 a ha], hr2⟩
      rw [e]; exact X2 Q hQ P hP
    · refine ⟨r, c1, fun Q hQ P hP => hP _ _ _ _ (hXh P Q (hP _ _ _ _ ?_)), fun Q hQ P hP => hP _ _ (hMh P Q ⟨fun z => absurd z e, fun _ => hQ⟩), f1, hr⟩
      unfold wX1_firstWrongInMeaning_p21_b wX1_firstWrongInMeaning_p60
      simp only [e, true_implies, not_false_eq_true, false_implies, true_and]
      intro v1 _
      exact ⟨fun _ => hQ, fun _ => hQ⟩
theorem x_sum16 {c : gMem} {n : Nat} (hn : n ≤ 6527) : ∀ (d k : Nat), k + d = n → Di (wX4_sumOf_16_p4 (nI n) (smN (c 16) k) (nI k) c) (smN (c 16) n) c := by
  intro d
  induction d with
  | zero =>
    intro k hk Q hQ P hP
    have : k = n := by omega
    subst this
    refine hP _ _ _ _ ?_
    unfold wX4_sumOf_16_p4_b
    simp only [forall_eq, Int32.le_refl, true_implies, not_true_eq_false, false_implies, and_true]
    exact hQ
  | succ d ih =>
    intro k hk Q hQ P hP
    refine hP _ _ _ _ ?_
    unfold wX4_sumOf_16_p4_b
    simp only [forall_eq, nI_ge (show k < n by omega) (show n < 2 ^ 31 by omega), true_implies, not_false_eq_true, false_implies, true_and]
    rw [nI_clamp (by omega), nI_1]
    exact ⟨vp_in_nI (by omega) (by decide), ih (k + 1) (by omega) Q hQ P hP⟩
theorem e_sumC (hL : L ≤ 6527) (h1 : 1 ≤ L) (hm : ckM pv L m) : ∀ (d k : Nat), k + d = L - 1 → ∀ Q : Int32 → gMem → Prop, ((smN pv (L - 1) = pv (L - 1) → Q (-1) m) ∧ (¬ smN pv (L - 1) = pv (L - 1) → Q (nI (L - 1)) m)) → wX10_check_p43 (smN pv k) (nI k) m Q := by
  have eL : nI L - 1 = nI (L - 1) := by rw [show L = (L - 1) + 1 by omega, nI_pred]; rfl
  intro d
  induction d with
  | zero =>
    intro k hk Q hQ P hP
    have : k = L - 1 := by omega
    subst this
    refine hP _ _ _ ?_
    unfold wX10_check_p43_b
    simp only [forall_eq, hm.1, eL, Int32.le_refl, true_implies, not_true_eq_false, false_implies, and_true]
    rw [e_paper (by omega) hL hm, hm.1, eL]
    exact hQ
  | succ d ih =>
    intro k hk Q hQ P hP
    refine hP _ _ _ ?_
    unfold wX10_check_p43_b
    simp only [forall_eq, hm.1, eL, nI_ge (show k < L - 1 by omega) (show L - 1 < 2 ^ 31 by omega), true_implies, not_false_eq_true, false_implies, true_and]
    rw [e_paper (by omega) hL hm, nI_1]
    exact ih (k + 1) (by omega) Q hQ P hP
theorem op_check {T : Nat} (R : Rel T c m) : Sim (wX9_check c) (wX10_check m) (Rel T) := by
  obtain ⟨ip1, ip2, ip3⟩ := R.1.2.1.2.2.2.1
  have rp := R.1.1.2.2.2.2.2.2.2.1
  have c14 : c 14 0 = nI (zR (m 1)) := rp.1.trans ip1
  by_cases hz : zR (m 1) = 0
  · refine ⟨-104, c, m, fun Q hQ => ?_, fun Q hQ => ?_, R⟩
    · unfold wX9_check
      simp only [forall_eq, c14, hz, show nI 0 = 0 from rfl, true_implies, not_true_eq_false, false_implies, and_true]; exact hQ
    · unfold wX10_check
      simp only [forall_eq, ip1, hz, show nI 0 = 0 from rfl, true_implies, not_true_eq_false, false_implies, and_true]; exact hQ
  · have h27 : 27 ≤ zR (m 1) := ip2.resolve_left hz
    have hL := ip3
    generalize hLz : zR (m 1) = L at *
    have nz : ¬ nI L = 0 := fun q => hz (nI_inj (b := 0) (by omega) (by decide) q)
    have hpv : ∃ pv : Nat → Int32, pv = c 16 := ⟨_, rfl⟩
    obtain ⟨pv, epv⟩ := hpv
    have hm : ckM pv L m := ⟨ip1, fun j hj => by rw [epv]; exact ((rp.2 j (by rw [hLz]; exact hj)).2).symm⟩
    have eL : nI L - 1 = nI (L - 1) := by rw [show L = (L - 1) + 1 by omega, nI_pred]; rfl
    -- the relation behind
    have fin : ∀ (c' m' : gMem), (∀ a, a < 70 → c' a = c a) → (∀ a, a ≠ 0 → a ≠ 8 → a ≠ 9 → m' a = m a) → (∀ a, a ≠ 14 → m' 0 a = m 0 a) → Rel T c' m' := by
      intro c' m' hc' hm' h0
      have e1 : m' 1 = m 1 := hm' 1 (by decide) (by decide) (by decide)
      refine ⟨⟨by rw [e1]; exact aSR_cong (fun i a b => hc' i (by omega)) R.1.1, by rw [e1]; exact R.1.2⟩, aEx_cong (fun j => by rw [hc' 0 (by omega)]) (fun i a b => hc' i (by omega)) (by rw [hc' 69 (by omega)]) (fun b hb => by rw [hc' 64 (by omega), hm' 4 (by decide) (by decide) (by decide)]; exact R.2.2.2.2.1 b hb) (fun j hj => h0 j (by omega)) (hm' 2 (by decide) (by decide) (by decide)) (hm' 3 (by decide) (by decide) (by decide)) (by rw [e1]) R.2⟩
    have hX0 : ∀ Q : Int32 → gMem → Prop, wX1_firstWrong (nI L) c Q → wX9_check c Q := by
      intro Q hQ
      unfold wX9_check
      simp only [forall_eq, c14, nz, true_implies, not_false_eq_true, false_implies, true_and]; exact hQ
    have hM0 : ∀ Q : Int32 → gMem → Prop, wX10_formWrong m (fun r4 c3 => ((r4 = (-1) → wX10_meaningWrong c3 (fun r7 c6 => wX10_check_p31 r7 c6 Q)) ∧ (¬ r4 = (-1) → wX10_check_p31 r4 c3 Q))) → wX10_check m Q := by
      intro Q hQ
      unfold wX10_check
      simp only [forall_eq, ip1, nz, true_implies, not_false_eq_true, false_implies, true_and]; exact hQ
    have hc2 : ∃ c2 : gMem, c2 = mp (mp (mp c 70 0 1) 70 1 (nI L)) 70 2 (pv 24) := ⟨_, rfl⟩
    obtain ⟨c2, ec2⟩ := hc2
    have c2o : ∀ a, a ≠ 70 → c2 a = c a := fun a ha => by rw [ec2, mp_n ha, mp_n ha, mp_n ha]
    have c20 : c2 70 0 = 1 := by rw [ec2, mp_s, up_n (by decide), mp_s, up_n (by decide), mp_s, up_s]
    have c21 : c2 70 1 = nI L := by rw [ec2, mp_s, up_n (by decide), mp_s, up_s]
    have c22 : c2 70 2 = pv 24 := by rw [ec2, mp_s, up_s]
    have hXf : ∀ Q : Int32 → gMem → Prop, wX1_isIn (pv 24) 0 500 c2 (fun r8 c7 => ((r8 = 0 → Q 24 c7) ∧ (¬ r8 = 0 → wX1_firstWrongInForm_p47 25 0 c7 Q))) → wX1_firstWrongInForm (mp (mp c 70 0 1) 70 1 (nI L)) Q := by
      intro Q hQ
      unfold wX1_firstWrongInForm
      have e1 : mp (mp c 70 0 1) 70 1 (nI L) 70 1 = nI L := by rw [mp_s, up_s]
      have e0 : mp (mp c 70 0 1) 70 1 (nI L) 70 0 = 1 := by rw [mp_s, up_n (by decide), mp_s, up_s]
      have e16 : mp (mp c 70 0 1) 70 1 (nI L) 16 24 = pv 24 := by rw [mp_n (by decide), mp_n (by decide), epv]
      simp only [forall_eq, e1, e0, e16, show (24 : Int32) < nI L from nI_lt (a := 24) (by omega) (by omega), true_implies, not_true_eq_false, false_implies, and_true, true_and]
      rw [← ec2, c22]; exact hQ
    have hMf : ∀ Q : Int32 → gMem → Prop, wX10_in (pv 24).toInt64 0 500 m (fun r5 c4 => ((r5 = 0 → Q 24 c4) ∧ (¬ r5 = 0 → wX10_formWrong_p33 (nI L) 25 0 c4 Q))) → wX10_formWrong m Q := by
      intro Q hQ
      unfold wX10_formWrong
      simp only [forall_eq, ip1]
      rw [show (24 : Int32) = nI 24 from rfl, e_paper (by omega) hL hm]
      exact hQ
    rcases in_both (x := pv 24) (N := 501) (b64 := 500) (b32 := 500) (by decide) (by decide) (by decide) rfl with ⟨q1, q2, q3⟩ | ⟨K, hK, eK, q1, q2⟩
    · refine ⟨24, c2, m, fun Q hQ => hX0 Q ?_, fun Q hQ => hM0 Q (hMf _ ?_), fin c2 m (fun a ha => c2o a (by omega)) (fun _ _ _ _ => rfl) (fun _ _ => rfl)⟩
      · unfold wX1_firstWrong
        simp only [forall_eq]
        refine hXf _ ?_
        rw [q2]
        refine ⟨fun _ => ⟨fun z => absurd z (by decide), fun _ => hQ⟩, fun z => absurd rfl z⟩
      · rw [q1]
        refine ⟨fun _ => ⟨fun z => absurd z (by decide), fun _ => ?_⟩, fun z => absurd rfl z⟩
        unfold wX10_check_p31
        exact ⟨fun z => absurd z (by decide), fun _ => hQ⟩
    · have hc : ckC pv L K c2 := ⟨c20, c21, by rw [c22, eK], fun j hj => by rw [c2o 16 (by decide), epv]⟩
      obtain ⟨r, m1, X1, M1, f1, f2, f3, f4⟩ := ck_form hL (by omega) (by omega) eK K 0 c2 m (by omega) hc hm (fun j hj => absurd hj (Nat.not_lt_zero _)) (show 25 ≤ 7000 by decide) (fun j hj => absurd hj (Nat.not_lt_zero _))
      have hXg : ∀ Q : Int32 → gMem → Prop, ((r = (-1) → wX1_noteKept c2 (fun c6 => wX1_firstWrongInMeaning c6 (fun r8 c7 => ((r8 = (-1) → c7 70 0 = 1 ∧ ∀ v11, v11 = c7 70 1 → vp_in (v11 - 1) 6527 ∧ ∀ v12, v12 = c7 16 (v11 - 1).toNatClampNeg → c7 70 0 = 1 ∧ ∀ v15, v15 = c7 70 1 → wX4_sumOf_16 (v15 - 1) c7 (fun r17 c16 => ((v12 = r17 → Q (-1) c16) ∧ (¬ v12 = r17 → ∀ v19, v19 = c16 70 1 → Q (v19 - 1) c16)))) ∧ (¬ r8 = (-1) → Q r8 c7))))) ∧ (¬ r = (-1) → Q r c2)) → wX1_firstWrong (nI L) c Q := by
        intro Q hQ
        unfold wX1_firstWrong
        rw [forall_eq, forall_eq]
        refine hXf _ ?_
        rw [q2]
        exact ⟨fun z => absurd z (by decide), fun _ => X1 _ hQ⟩
      have hMg : ∀ Q : Int32 → gMem → Prop, ((r = (-1) → wX10_meaningWrong m1 (fun r7 c6 => wX10_check_p31 r7 c6 Q)) ∧ (¬ r = (-1) → wX10_check_p31 r m1 Q)) → wX10_check m Q := by
        intro Q hQ
        refine hM0 Q (hMf _ ?_)
        rw [q1]
        exact ⟨fun z => absurd z (by decide), fun _ => M1 _ hQ⟩
      by_cases er : r = -1
      · obtain ⟨g, g8, g14⟩ := f3 er
        have hm1 : ckM pv L m1 := ⟨by rw [f1 1 (by decide) (by decide)]; exact hm.1, fun j hj => by rw [f1 1 (by decide) (by decide)]; exact hm.2 j hj⟩
        -- who is kept
        obtain ⟨m2, M2, z1, z2⟩ := e_clear9 500 0 m1 (by omega)
        have hm2 : ckM pv L m2 := ⟨by rw [z1 1 (by decide)]; exact hm1.1, fun j hj => by rw [z1 1 (by decide)]; exact hm1.2 j hj⟩
        obtain ⟨m3, M3, y1, y2⟩ := ck_first g hL K m2 (Nat.le_refl _) hm2 (fun j hj => by rw [z1 8 (by decide)]; exact g8 j hj) (fun h hh => Or.inl ⟨by rw [z2, if_pos (show 0 ≤ h ∧ h < 500 by omega)], fun j j1 j2 => by omega⟩)
        have hm3 : ckM pv L m3 := ⟨by rw [y1 1 (by decide)]; exact hm2.1, fun j hj => by rw [y1 1 (by decide)]; exact hm2.2 j hj⟩
        have hc3 : ckC pv L K (mr c2 72 (fun _ => -1)) := ⟨by rw [mr_n (by decide)]; exact hc.1, by rw [mr_n (by decide)]; exact hc.2.1, by rw [mr_n (by decide)]; exact hc.2.2.1, fun j hj => by rw [mr_n (by decide)]; exact hc.2.2.2 j hj⟩
        obtain ⟨c3, X3, x1, x2⟩ := ck_note g hL K 0 (mr c2 72 (fun _ => -1)) (by omega) hc3 (fun h hh => Or.inl ⟨by rw [mr_s], fun j j1 j2 => by omega⟩)
        have hc3' : ckC pv L K c3 := ⟨by rw [x1 70 (by decide)]; exact hc3.1, by rw [x1 70 (by decide)]; exact hc3.2.1, by rw [x1 70 (by decide)]; exact hc3.2.2.1, fun j hj => by rw [x1 16 (by decide)]; exact hc3.2.2.2 j hj⟩
        have hk3 : ckK pv K c3 m3 := by
          refine ⟨fun j hj => by rw [y1 8 (by decide), z1 8 (by decide)]; exact g8 j hj, fun h hh => ?_⟩
          rcases y2 h hh with ⟨b1, b2⟩ | ⟨i, b2, b1⟩
          · rcases x2 h hh with ⟨d1, d2⟩ | ⟨i', d2, d1⟩
            · exact Or.inl ⟨b1, d1, b2⟩
            · exact absurd d2.2.2.1 (b2 i' (Nat.zero_le _) d2.2.1)
          · rcases x2 h hh with ⟨d1, d2⟩ | ⟨i', d2, d1⟩
            · exact absurd b2.2.2.1 (d2 i (Nat.zero_le _) b2.2.1)
            · have : i = i' := by
                by_cases lt : i < i'
                · exact absurd b2.2.2.1 (d2.2.2.2 i (Nat.zero_le _) lt)
                · by_cases gt : i' < i
                  · exact absurd d2.2.2.1 (b2.2.2.2 i' (Nat.zero_le _) gt)
                  · omega
              subst this
              exact Or.inr ⟨i, b2, b1, d1⟩
        -- roots
        obtain ⟨r4, X4, M4, hr4⟩ := ck_roots g hL hc3' hm3 hk3 24 0 (by omega)
        have hc4 : ckC pv L K (mr c3 73 (fun _ => 0)) := ⟨by rw [mr_n (by decide)]; exact hc3'.1, by rw [mr_n (by decide)]; exact hc3'.2.1, by rw [mr_n (by decide)]; exact hc3'.2.2.1, fun j hj => by rw [mr_n (by decide)]; exact hc3'.2.2.2 j hj⟩
        have hk4 : ckK pv K (mr c3 73 (fun _ => 0)) m3 := ⟨hk3.1, fun h hh => by rw [mr_n (by decide)]; exact hk3.2 h hh⟩
        have hXm : ∀ (r8 : Int32) (c' : gMem), (∀ Q : Int32 → gMem → Prop, Q r8 c' → wX1_firstWrongInMeaning_p21 r4 25 0 (mr c3 73 (fun _ => 0)) Q) → ∀ Q : Int32 → gMem → Prop, ((r8 = (-1) → c' 70 0 = 1 ∧ ∀ v11, v11 = c' 70 1 → vp_in (v11 - 1) 6527 ∧ ∀ v12, v12 = c' 16 (v11 - 1).toNatClampNeg → c' 70 0 = 1 ∧ ∀ v15, v15 = c' 70 1 → wX4_sumOf_16 (v15 - 1) c' (fun r17 c16 => ((v12 = r17 → Q (-1) c16) ∧ (¬ v12 = r17 → ∀ v19, v19 = c16 70 1 → Q (v19 - 1) c16)))) ∧ (¬ r8 = (-1) → Q r8 c')) → wX9_check c Q := by
          intro r8 c' h21 Q hQ
          refine hX0 Q (hXg Q ⟨fun _ => ?_, fun z => absurd er z⟩)
          unfold wX1_noteKept
          rw [forall_eq]
          refine X3 _ ?_
          unfold wX1_firstWrongInMeaning wX1_firstWrongLink
          refine X4 _ ?_
          rw [forall_eq]
          exact h21 _ hQ
        have hMm : ∀ Q : Int32 → gMem → Prop, wX10_meaningWrong_p6 0 m3 (fun r7 c6 => wX10_check_p31 r7 c6 Q) → wX10_check m Q := by
          intro Q hQ
          refine hMg Q ⟨fun _ => ?_, fun z => absurd er z⟩
          unfold wX10_meaningWrong wX10_findFirst
          refine M2 _ ?_
          rw [show (24 : Int32) = nI 24 from rfl, e_paper g.1 hL hm2, g.2.1]
          exact M3 _ hQ
        have hmf : (∀ a, a ≠ 0 → a ≠ 8 → a ≠ 9 → m3 a = m a) ∧ ∀ a, a ≠ 14 → m3 0 a = m 0 a := ⟨fun a a0 a8 a9 => by rw [y1 a a9, z1 a a9, f1 a a0 a8], fun a ha => by rw [y1 0 (by decide), z1 0 (by decide), f2 a ha]⟩
        have hcf : ∀ c' : gMem, (∀ a, a ≠ 73 → c' a = mr c3 73 (fun _ => 0) a) → ∀ a, a < 70 → c' a = c a := fun c' h a ha => by
          rw [h a (by omega), mr_n (by omega), x1 a (by omega), mr_n (by omega), c2o a (by omega)]
        by_cases e4 : r4 = -1
        · obtain ⟨r5, c5, X5, M5, f5, hr5⟩ := ck_rows g hL hm3 (by rw [y1 0 (by decide), z1 0 (by decide)]; exact g14) K 0 (mr c3 73 (fun _ => 0)) (by omega) hc4 hk4 (fun q q1 q2 => Or.inl ⟨by rw [mr_s], fun j hj => absurd hj (Nat.not_lt_zero _)⟩)
          have hc5 : ckC pv L K c5 := ⟨by rw [f5 70 (by decide)]; exact hc4.1, by rw [f5 70 (by decide)]; exact hc4.2.1, by rw [f5 70 (by decide)]; exact hc4.2.2.1, fun j hj => by rw [f5 16 (by decide)]; exact hc4.2.2.2 j hj⟩
          have hXn := hXm r5 c5 (fun Q hQ => by rw [e4]; exact X5 Q hQ)
          have hMn : ∀ Q : Int32 → gMem → Prop, wX10_check_p31 r5 m3 Q → wX10_check m Q := fun Q hQ => hMm Q (M4 _ (fun _ => M5 _ hQ) (fun z => absurd e4 z))
          by_cases e5 : r5 = -1
          · have s16 : smN (c5 16) (L - 1) = smN pv (L - 1) := smN_cong _ (fun k hk => hc5.2.2.2 k (by omega))
            have hXs : ∀ Q : Int32 → gMem → Prop, ((pv (L - 1) = smN pv (L - 1) → Q (-1) c5) ∧ (¬ pv (L - 1) = smN pv (L - 1) → Q (nI (L - 1)) c5)) → wX9_check c Q := by
              intro Q hQ
              refine hXn Q ⟨fun _ => ⟨hc5.1, ?_⟩, fun z => absurd e5 z⟩
              intro v11 hv11
              rw [hc5.2.1] at hv11
              subst hv11
              rw [eL, nI_clamp (by omega), hc5.2.2.2 _ (by omega)]
              refine ⟨vp_in_nI (by omega) (by decide), ?_⟩
              intro v12 hv12
              subst hv12
              refine ⟨hc5.1, ?_⟩
              intro v15 hv15
              rw [hc5.2.1] at hv15
              subst hv15
              rw [eL]
              unfold wX4_sumOf_16
              refine x_sum16 (by omega) (L - 1) 0 (by omega) _ ?_
              rw [s16]
              refine ⟨hQ.1, fun z => ?_⟩
              intro v19 hv19
              rw [hc5.2.1] at hv19
              subst hv19
              rw [eL]; exact hQ.2 z
            have hMs : ∀ Q : Int32 → gMem → Prop, ((smN pv (L - 1) = pv (L - 1) → Q (-1) m3) ∧ (¬ smN pv (L - 1) = pv (L - 1) → Q (nI (L - 1)) m3)) → wX10_check m Q := by
              intro Q hQ
              refine hMn Q ?_
              unfold wX10_check_p31
              exact ⟨fun _ => e_sumC hL (by omega) hm3 (L - 1) 0 (by omega) Q hQ, fun z => absurd e5 z⟩
            have RR := fin c5 m3 (hcf c5 f5) hmf.1 hmf.2
            by_cases es : pv (L - 1) = smN pv (L - 1)
            · exact ⟨-1, c5, m3, fun Q hQ => hXs Q ⟨fun _ => hQ, fun z => absurd es z⟩, fun Q hQ => hMs Q ⟨fun _ => hQ, fun z => absurd es.symm z⟩, RR⟩
            · exact ⟨nI (L - 1), c5, m3, fun Q hQ => hXs Q ⟨fun z => absurd z es, fun _ => hQ⟩, fun Q hQ => hMs Q ⟨fun z => absurd z.symm es, fun _ => hQ⟩, RR⟩
          · refine ⟨r5, c5, m3, fun Q hQ => hXn Q ⟨fun z => absurd z e5, fun _ => hQ⟩, fun Q hQ => hMn Q ?_, fin c5 m3 (hcf c5 f5) hmf.1 hmf.2⟩
            unfold wX10_check_p31
            exact ⟨fun z => absurd z e5, fun _ => hQ⟩
        · refine ⟨r4, mr c3 73 (fun _ => 0), m3, fun Q hQ => hXm r4 (mr c3 73 (fun _ => 0)) (fun Q' hQ' P hP => hP _ _ _ _ ?_) Q ⟨fun z => absurd z e4, fun _ => hQ⟩, fun Q hQ => hMm Q (M4 _ (fun z => absurd z e4) (fun _ => ?_)), fin _ m3 (hcf _ (fun _ _ => rfl)) hmf.1 hmf.2⟩
          · unfold wX1_firstWrongInMeaning_p21_b wX1_firstWrongInMeaning_p60
            simp only [e4, true_implies, not_false_eq_true, false_implies, true_and]
            intro v1 _
            exact ⟨fun _ => hQ', fun _ => hQ'⟩
          · unfold wX10_check_p31
            exact ⟨fun z => absurd z e4, fun _ => hQ⟩
      · refine ⟨r, c2, m1, fun Q hQ => hX0 Q (hXg Q ⟨fun z => absurd z er, fun _ => hQ⟩), fun Q hQ => hMg Q ⟨fun z => absurd z er, fun _ => ?_⟩, fin c2 m1 (fun a ha => c2o a (by omega)) (fun a a0 a8 _ => f1 a a0 a8) f2⟩
        unfold wX10_check_p31
        exact ⟨fun z => absurd z er, fun _ => hQ⟩
end CK5

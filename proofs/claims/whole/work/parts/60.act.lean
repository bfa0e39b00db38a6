/-! act -/
section AC
variable {T : Nat} {c m : gMem}
def acC (c : gMem) (n : Nat) (w a b d e : Int32) : gMem := mp (mp (mp (mp (mp (mp c 18 (5 * n) w) 18 (5 * n + 1) a) 18 (5 * n + 2) b) 18 (5 * n + 3) d) 18 (5 * n + 4) e) 17 0 (nI (n + 1))
def acS (s : gS) (n : Nat) (w a b d e : Int32) : gS := upd (upd (upd (upd (upd (upd s (400 + 5 * n) w) (400 + 5 * n + 1) a) (400 + 5 * n + 2) b) (400 + 5 * n + 3) d) (400 + 5 * n + 4) e) 11 (nI (n + 1))
theorem acS_o {s : gS} {n j : Nat} {w a b d e : Int32} (h1 : j ≠ 11) (h2 : j < 400 + 5 * n ∨ 404 + 5 * n < j) : acS s n w a b d e j = s j := by
  unfold acS; rw [up_n h1, up_n (by omega), up_n (by omega), up_n (by omega), up_n (by omega), up_n (by omega)]
theorem sim_add {w : Nat} {a b d e : Int32} (R : Rel T c m) (hA : aAct (nI w) a b d) : Sim (wX9_act_p86 (nI w) a b d e c) (wX10_act_p78 (nI w) a b d e m) (Rel T) := by
  obtain ⟨n, j, G1, G2, G3, G4, G5⟩ := id R.1.2.1.2.2.2.2
  have r9 := R.1.1.2.2.2.2.2.2.2.2.1
  have h0 : c 17 0 = nI n := by rw [← G1]; exact r9.1 0 (by decide)
  have eg : nn (m 1) 11 = n := nn_nI G1 (by omega)
  by_cases hn : n = 40
  · subst hn
    refine ⟨-104, c, m, fun Q hQ => ?_, fun Q hQ => ?_, R⟩
    · unfold wX9_act_p86; simp only [forall_eq, h0, show ¬ nI 40 < (40 : Int32) by decide, true_implies, not_false_eq_true, false_implies, true_and]; exact hQ
    · unfold wX10_act_p78; simp only [forall_eq, G1, show nI 40 = (40 : Int32) from rfl, true_implies, not_true_eq_false, false_implies, and_true]; exact hQ
  · have hn2 : n < 40 := by omega
    have i5 : nI n * 5 = nI (5 * n) := by rw [show (5 : Int32) = nI 5 from rfl, pk_mul, Nat.mul_comm]
    have i51 : nI (5 * n) + 1 = nI (5 * n + 1) := nI_add _ 1
    have i52 : nI (5 * n) + 2 = nI (5 * n + 2) := nI_add _ 2
    have i53 : nI (5 * n) + 3 = nI (5 * n + 3) := nI_add _ 3
    have i54 : nI (5 * n) + 4 = nI (5 * n + 4) := nI_add _ 4
    have k5 : (400 : Int32) + 5 * nI n = nI (400 + 5 * n) := by rw [show (5 : Int32) = nI 5 from rfl, show (400 : Int32) = nI 400 from rfl, pk_mul, nI_add]
    have k51 : nI (400 + 5 * n) + 1 = nI (400 + 5 * n + 1) := nI_add _ 1
    have k52 : nI (400 + 5 * n) + 2 = nI (400 + 5 * n + 2) := nI_add _ 2
    have k53 : nI (400 + 5 * n) + 3 = nI (400 + 5 * n + 3) := nI_add _ 3
    have k54 : nI (400 + 5 * n) + 4 = nI (400 + 5 * n + 4) := nI_add _ 4
    refine ⟨nI (n + 1), acC c n (nI w) a b d e, mr m 1 (acS (m 1) n (nI w) a b d e), fun Q hQ => ?_, fun Q hQ => ?_, pg_now R (fun q h1 h2 h3 => acS_o (by omega) (by omega)) (fun i hi => ?_) ?_ (fun r hr => by rw [acS_o (by omega) (by omega)]; exact R.1.2.1.1.2.2.2.2.2.2 r hr) ?_⟩
    · unfold wX9_act_p86 wX5_add
      simp only [forall_eq, h0, show nI n < (40 : Int32) from nI_lt (b := 40) hn2 (by decide), i5, i51, i52, i53, i54, vp_in_nI (show 5 * n < 200 by omega) (show 200 < 2 ^ 31 by decide), vp_in_nI (show 5 * n + 1 < 200 by omega) (show 200 < 2 ^ 31 by decide), vp_in_nI (show 5 * n + 2 < 200 by omega) (show 200 < 2 ^ 31 by decide), vp_in_nI (show 5 * n + 3 < 200 by omega) (show 200 < 2 ^ 31 by decide), vp_in_nI (show 5 * n + 4 < 200 by omega) (show 200 < 2 ^ 31 by decide), nI_clamp (show 5 * n < 2 ^ 31 by omega), nI_clamp (show 5 * n + 1 < 2 ^ 31 by omega), nI_clamp (show 5 * n + 2 < 2 ^ 31 by omega), nI_clamp (show 5 * n + 3 < 2 ^ 31 by omega), nI_clamp (show 5 * n + 4 < 2 ^ 31 by omega), mp_n (show (17 : Nat) ≠ 18 by decide), mp_s, up_s, nI_1, true_implies, not_true_eq_false, false_implies, and_true, true_and]
      exact hQ
    · unfold wX10_act_p78
      have hn40 : ¬ nI n = (40 : Int32) := fun q => hn (nI_inj (b := 40) (by omega) (by decide) q)
      have e11 : ∀ x y z u v : Int32, upd (upd (upd (upd (upd (m 1) (400 + 5 * n) x) (400 + 5 * n + 1) y) (400 + 5 * n + 2) z) (400 + 5 * n + 3) u) (400 + 5 * n + 4) v 11 = nI n := fun x y z u v => by rw [up_n (by omega), up_n (by omega), up_n (by omega), up_n (by omega), up_n (by omega), G1]
      have fold1 : ∀ (q : Nat) (v : Int32), mp m 1 q v = mr m 1 (upd (m 1) q v) := fun _ _ => rfl
      simp only [forall_eq, G1, hn40, k5, k51, k52, k53, k54, vp_in_nI (show 400 + 5 * n < 26100 by omega) (show 26100 < 2 ^ 31 by decide), vp_in_nI (show 400 + 5 * n + 1 < 26100 by omega) (show 26100 < 2 ^ 31 by decide), vp_in_nI (show 400 + 5 * n + 2 < 26100 by omega) (show 26100 < 2 ^ 31 by decide), vp_in_nI (show 400 + 5 * n + 3 < 26100 by omega) (show 26100 < 2 ^ 31 by decide), vp_in_nI (show 400 + 5 * n + 4 < 26100 by omega) (show 26100 < 2 ^ 31 by decide), nI_clamp (show 400 + 5 * n < 2 ^ 31 by omega), nI_clamp (show 400 + 5 * n + 1 < 2 ^ 31 by omega), nI_clamp (show 400 + 5 * n + 2 < 2 ^ 31 by omega), nI_clamp (show 400 + 5 * n + 3 < 2 ^ 31 by omega), nI_clamp (show 400 + 5 * n + 4 < 2 ^ 31 by omega), fold1, mp_mr, mr_s, e11, up_s, nI_1, true_implies, not_false_eq_true, false_implies, true_and]
      exact hQ
    · unfold acC; rw [mp_n (by omega), mp_n (by omega), mp_n (by omega), mp_n (by omega), mp_n (by omega), mp_n (by omega)]
    · refine ⟨n + 1, j, by unfold acS; rw [up_s], by omega, by rw [acS_o (by omega) (by omega)]; exact G3, Or.inl (by omega), fun q hq => ?_⟩
      by_cases hqn : q = n
      · subst hqn
        unfold acS
        rw [up_n (by omega), up_n (by omega), up_n (by omega), up_n (by omega), up_n (by omega), up_s, show 401 + 5 * q = 400 + 5 * q + 1 by omega, show 402 + 5 * q = 400 + 5 * q + 2 by omega, show 403 + 5 * q = 400 + 5 * q + 3 by omega]
        rw [up_n (by omega), up_n (by omega), up_n (by omega), up_n (by omega), up_s, up_n (by omega), up_n (by omega), up_n (by omega), up_s, up_n (by omega), up_n (by omega), up_s]
        exact hA
      · rw [acS_o (by omega) (by omega), acS_o (by omega) (by omega), acS_o (by omega) (by omega), acS_o (by omega) (by omega)]
        exact G5 q (by omega)
    · have en : nn (acS (m 1) n (nI w) a b d e) 11 = n + 1 := nn_nI (by unfold acS; rw [up_s]) (by omega)
      refine ⟨fun k hk => ?_, fun k hk => ?_, fun r hr => ?_⟩
      · show acC c n (nI w) a b d e 17 k = _
        unfold acC
        rw [mp_s, mp_n (by decide), mp_n (by decide), mp_n (by decide), mp_n (by decide), mp_n (by decide)]
        by_cases hk0 : k = 0
        · subst hk0; rw [up_s]; unfold acS; rw [up_s]
        · rw [up_n hk0, acS_o (by omega) (by omega)]; exact r9.1 k hk
      · rw [en] at hk
        show acC c n (nI w) a b d e 18 k = _
        unfold acC
        rw [mp_n (by decide)]
        simp only [mp_s]
        by_cases hkn : k < 5 * n
        · rw [up_n (by omega), up_n (by omega), up_n (by omega), up_n (by omega), up_n (by omega), acS_o (by omega) (by omega)]
          exact r9.2.1 k (by omega)
        · unfold acS
          rw [up_n (show 400 + k ≠ 11 by omega)]
          rcases (by omega : k = 5 * n ∨ k = 5 * n + 1 ∨ k = 5 * n + 2 ∨ k = 5 * n + 3 ∨ k = 5 * n + 4) with rfl | rfl | rfl | rfl | rfl
          · rw [up_n (by omega), up_n (by omega), up_n (by omega), up_n (by omega), up_s, up_n (by omega), up_n (by omega), up_n (by omega), up_n (by omega), up_s]
          · rw [up_n (by omega), up_n (by omega), up_n (by omega), up_s, up_n (by omega), up_n (by omega), up_n (by omega), show 400 + (5 * n + 1) = 400 + 5 * n + 1 by omega, up_s]
          · rw [up_n (by omega), up_n (by omega), up_s, up_n (by omega), up_n (by omega), show 400 + (5 * n + 2) = 400 + 5 * n + 2 by omega, up_s]
          · rw [up_n (by omega), up_s, up_n (by omega), show 400 + (5 * n + 3) = 400 + 5 * n + 3 by omega, up_s]
          · rw [up_s, show 400 + (5 * n + 4) = 400 + 5 * n + 4 by omega, up_s]
      · show acC c n (nI w) a b d e 19 r = _
        unfold acC
        rw [mp_n (by decide), mp_n (by decide), mp_n (by decide), mp_n (by decide), mp_n (by decide), mp_n (by decide), acS_o (by omega) (by omega)]; exact r9.2.2 r hr
/-- a kind and a number that make() may get -/
theorem mk_out (b d : Int32) : (∃ bn : Nat, bn ≤ 5 ∧ b = nI bn ∧ (aMany bn → d.toInt ≤ 300)) ∨ ((b < 0 ∨ nI 6 ≤ b) ∨ ∃ bn : Nat, bn ≤ 5 ∧ b = nI bn ∧ aMany bn ∧ ¬ d ≤ 300) := by
  rcases pk_ix b (n := 6) (by decide) with q | q | ⟨j, hj, e⟩
  · exact Or.inr (Or.inl (Or.inl q))
  · exact Or.inr (Or.inl (Or.inr q))
  · by_cases h1 : aMany j
    · by_cases h2 : d ≤ 300
      · refine Or.inl ⟨j, by omega, e, fun _ => ?_⟩
        have := Int32.le_iff_toInt_le.mp h2
        exact this
      · exact Or.inr (Or.inr ⟨j, by omega, e, h1, h2⟩)
    · exact Or.inl ⟨j, by omega, e, fun q => absurd q h1⟩
theorem le300 {d : Int32} (h : d.toInt ≤ 300) : d ≤ 300 := Int32.le_iff_toInt_le.mpr h
theorem x_out0 {b d : Int32} (h : ∃ bn : Nat, bn ≤ 5 ∧ b = nI bn ∧ (aMany bn → d.toInt ≤ 300)) {Q : Int32 → gMem → Prop} : wX9_isOutsideOfMaking b d c Q = Q 0 c := by
  obtain ⟨bn, h1, rfl, h2⟩ := h
  unfold wX9_isOutsideOfMaking wX9_isOutsideOfMaking_p24
  simp only [nI_pos (show bn < 2 ^ 31 by omega), show ¬ (6 : Int32) ≤ nI bn from nI_ge (b := 6) (by omega) (by decide), true_implies, not_false_eq_true, false_implies, true_and]
  by_cases hm : aMany bn
  · rw [x_many1 hm]
    simp only [i32_10, le300 (h2 hm), true_implies, not_true_eq_false, not_false_eq_true, false_implies, true_and, and_true]
  · rw [x_many0 hm h1]; simp
theorem x_out1 {b d : Int32} (h : (b < 0 ∨ nI 6 ≤ b) ∨ ∃ bn : Nat, bn ≤ 5 ∧ b = nI bn ∧ aMany bn ∧ ¬ d ≤ 300) {Q : Int32 → gMem → Prop} : wX9_isOutsideOfMaking b d c Q = Q 1 c := by
  unfold wX9_isOutsideOfMaking wX9_isOutsideOfMaking_p24
  rcases h with h | ⟨bn, h1, rfl, h2, h3⟩
  · by_cases h0 : b < 0
    · simp only [h0, true_implies, not_true_eq_false, false_implies, and_true]
    · simp only [h0, show (6 : Int32) ≤ b from h.resolve_left h0, true_implies, not_true_eq_false, not_false_eq_true, false_implies, true_and, and_true]
  · rw [x_many1 h2]
    simp only [nI_pos (show bn < 2 ^ 31 by omega), show ¬ (6 : Int32) ≤ nI bn from nI_ge (b := 6) (by omega) (by decide), i32_10, h3, true_implies, not_false_eq_true, false_implies, true_and]
theorem op_act {l1 l2 l3 l4 l5 : Int32} (R : Rel T c m) : Sim (wX9_act l1 l2 l3 l4 l5 c) (wX10_act l1 l2 l3 l4 l5 m) (Rel T) := by
  have oor : (l1 < 0 ∨ nI 13 ≤ l1) → Sim (wX9_act l1 l2 l3 l4 l5 c) (wX10_act l1 l2 l3 l4 l5 m) (Rel T) := by
    intro q
    have ht : l1.toInt < 0 ∨ 12 < l1.toInt := by
      rcases q with q | q
      · left; exact Int32.lt_iff_toInt_lt.mp q
      · right; have := Int32.le_iff_toInt_le.mp q; rw [nI_toInt (by decide)] at this; omega
    have key : ∀ k : Int32, 0 ≤ k.toInt → k.toInt ≤ 12 → ¬ l1 = k := fun k h1 h2 z => by rw [z] at ht; omega
    refine ⟨-102, c, m, fun Q hQ => ?_, fun Q hQ => ?_, R⟩
    · unfold wX9_act
      by_cases h0 : l1 < 0
      · simp only [h0, true_implies, not_true_eq_false, false_implies, and_true]; exact hQ
      · have h12 : ¬ l1 ≤ 12 := by
          intro z
          have h1 := Int32.le_iff_toInt_le.mp z
          have e : (12 : Int32).toInt = 12 := by decide
          have h2 := Int32.le_iff_toInt_le.mp (Int32.not_lt.mp h0)
          have e0 : (0 : Int32).toInt = 0 := by decide
          omega
        simp only [h0, h12, true_implies, not_false_eq_true, false_implies, true_and]; exact hQ
    · unfold wX10_act wX10_areKnown
      simp only [ht, true_implies, key 0 (by decide) (by decide), key 1 (by decide) (by decide), key 2 (by decide) (by decide), key 3 (by decide) (by decide), key 4 (by decide) (by decide), key 5 (by decide) (by decide), key 6 (by decide) (by decide), key 7 (by decide) (by decide), key 8 (by decide) (by decide), key 9 (by decide) (by decide), key 10 (by decide) (by decide), key 11 (by decide) (by decide), key 12 (by decide) (by decide), false_implies, and_true]
      rw [e_inL0 (n := 13) (by decide) (by decide) q]; simpa using hQ
  rcases pk_ix l1 (n := 13) (by decide) with q | q | ⟨w, hw, rfl⟩
  · exact oor (Or.inl q)
  · exact oor (Or.inr q)
  obtain ⟨t1, t2, t3, t4, t5, t6⟩ := nm_tab (show w ≤ 12 by omega)
  have h0 : ¬ nI w < 0 := nI_pos (by omega)
  have h12 : nI w ≤ (12 : Int32) := nI_le (b := 12) (by omega) (by decide)
  have hx0 : ∀ Q : Int32 → gMem → Prop, (0 < nmA w ∧ (l2 < 0 ∨ nI (nmA w) ≤ l2)) ∨ kn (nmA w) l2 ∧ ((0 < nmB w ∧ (l3 < 0 ∨ nI (nmB w) ≤ l3)) ∨ kn (nmB w) l3 ∧ (0 < nmC w ∧ (l4 < 0 ∨ nI (nmC w) ≤ l4))) → Q (-101) c → wX9_act (nI w) l2 l3 l4 l5 c Q := by
    intro Q h hQ
    unfold wX9_act
    simp only [h0, h12, vp_in_nI hw (show 13 < 2 ^ 31 by decide), nI_clamp (show w < 2 ^ 31 by omega), forall_eq, true_implies, not_true_eq_false, not_false_eq_true, false_implies, true_and, and_true]
    rcases h with h | ⟨g1, h | ⟨g2, h⟩⟩
    · rw [x_name0 t1 (by omega) h]; simpa using hQ
    · rw [x_name1 t1 (by omega) g1, x_name0 t2 (by omega) h]; simpa using hQ
    · rw [x_name1 t1 (by omega) g1, x_name1 t2 (by omega) g2, x_name0 t3 (by omega) h]; simpa using hQ
  have unk : ((0 < nmA w ∧ (l2 < 0 ∨ nI (nmA w) ≤ l2)) ∨ kn (nmA w) l2 ∧ ((0 < nmB w ∧ (l3 < 0 ∨ nI (nmB w) ≤ l3)) ∨ kn (nmB w) l3 ∧ (0 < nmC w ∧ (l4 < 0 ∨ nI (nmC w) ≤ l4)))) → Sim (wX9_act (nI w) l2 l3 l4 l5 c) (wX10_act (nI w) l2 l3 l4 l5 m) (Rel T) := fun h =>
    ⟨-101, c, m, fun Q hQ => hx0 Q h hQ, fun Q hQ => by unfold wX10_act; rw [e_known0 (by omega) h]; simpa using hQ, R⟩
  rcases kn_or (n := nmA w) (x := l2) (by omega) with ga | ga
  rotate_left
  · exact unk (Or.inl ga)
  rcases kn_or (n := nmB w) (x := l3) (by omega) with gb | gb
  rotate_left
  · exact unk (Or.inr ⟨ga, Or.inl gb⟩)
  rcases kn_or (n := nmC w) (x := l4) (by omega) with gc | gc
  rotate_left
  · exact unk (Or.inr ⟨ga, Or.inr ⟨gb, gc⟩⟩)
  -- the names are good
  have hx : ∀ Q : Int32 → gMem → Prop, ((nI w = 0 → wX9_isOutsideOfMaking l3 l4 c (fun r20 c19 => (r20 = 0 → wX9_act_p66 (nI w) l2 l3 l4 l5 c19 Q) ∧ (¬ r20 = 0 → Q (-102) c19))) ∧ (¬ nI w = 0 → wX9_act_p66 (nI w) l2 l3 l4 l5 c Q)) → wX9_act (nI w) l2 l3 l4 l5 c Q := by
    intro Q hQ
    unfold wX9_act
    simp only [h0, h12, vp_in_nI hw (show 13 < 2 ^ 31 by decide), nI_clamp (show w < 2 ^ 31 by omega), forall_eq, true_implies, not_true_eq_false, not_false_eq_true, false_implies, true_and, and_true]
    rw [x_name1 t1 (by omega) ga, x_name1 t2 (by omega) gb, x_name1 t3 (by omega) gc]
    simpa using hQ
  have hm : ∀ Q : Int32 → gMem → Prop, ((nI w = 0 → wX10_in l3.toInt64 0 5 m (fun r9 c8 => (r9 = 0 → Q (-102) c8) ∧ (¬ r9 = 0 → wX10_hasMany l3 c8 (fun r12 c11 => (r12 = 0 → wX10_act_p57 (nI w) l2 l3 l4 l5 c11 Q) ∧ (¬ r12 = 0 → (300 < l4 → Q (-102) c11) ∧ (¬ 300 < l4 → wX10_act_p57 (nI w) l2 l3 l4 l5 c11 Q)))))) ∧ (¬ nI w = 0 → wX10_act_p57 (nI w) l2 l3 l4 l5 m Q)) → wX10_act (nI w) l2 l3 l4 l5 m Q := by
    intro Q hQ
    unfold wX10_act
    rw [e_known1 (by omega) ga gb gc, e_inL1 (n := 13) (by decide) hw (by decide)]
    simpa using hQ
  have g8 : ∀ {x : Int32}, kn 8 x → isIn x 8 := fun h => h.resolve_left (by decide)
  have fin : aAct (nI w) l2 l3 l4 → (∀ Q : Int32 → gMem → Prop, wX9_act_p86 (nI w) l2 l3 l4 l5 c Q → wX9_act (nI w) l2 l3 l4 l5 c Q) → (∀ Q : Int32 → gMem → Prop, wX10_act_p78 (nI w) l2 l3 l4 l5 m Q → wX10_act (nI w) l2 l3 l4 l5 m Q) → Sim (wX9_act (nI w) l2 l3 l4 l5 c) (wX10_act (nI w) l2 l3 l4 l5 m) (Rel T) := by
    intro hA h1 h2
    obtain ⟨r, c', m', X, M, R'⟩ := sim_add (e := l5) R hA
    exact ⟨r, c', m', fun Q hQ => h1 Q (X Q hQ), fun Q hQ => h2 Q (M Q hQ), R'⟩
  by_cases hw0 : w = 0
  · subst hw0
    have e0 : nI 0 = (0 : Int32) := rfl
    have e9 : ¬ nI 0 = (9 : Int32) := by decide
    rcases mk_out l3 l4 with hk | hk
    · refine fin ⟨0, by decide, rfl, fun _ => ⟨g8 ga, hk⟩, fun q => by omega, fun q => by omega, fun q => by omega, fun q => by omega, fun q => by omega, fun q => by omega⟩ (fun Q hQ => hx Q ⟨fun _ => ?_, fun q => absurd e0 q⟩) (fun Q hQ => hm Q ⟨fun _ => ?_, fun q => absurd e0 q⟩)
      · rw [x_out0 hk]
        unfold wX9_act_p66
        simp only [e9, true_implies, not_true_eq_false, not_false_eq_true, false_implies, true_and, and_true]; exact hQ
      · obtain ⟨bn, h1, rfl, h2⟩ := hk
        rw [e_inL1 (n := 6) (by decide) (by omega) (by decide)]
        unfold wX10_act_p57
        by_cases hmm : aMany bn
        · rw [e_many1 hmm]
          simp only [i32_10, e9, show ¬ (300 : Int32) < l4 from Int32.not_lt.mpr (le300 (h2 hmm)), true_implies, not_true_eq_false, not_false_eq_true, false_implies, true_and, and_true]; exact hQ
        · rw [e_many0 hmm h1]
          simp only [i32_10, e9, true_implies, not_true_eq_false, not_false_eq_true, false_implies, true_and, and_true]; exact hQ
    · refine ⟨-102, c, m, fun Q hQ => hx Q ⟨fun _ => ?_, fun q => absurd e0 q⟩, fun Q hQ => hm Q ⟨fun _ => ?_, fun q => absurd e0 q⟩, R⟩
      · rw [x_out1 hk]; simpa using hQ
      · rcases hk with hk | ⟨bn, h1, rfl, h2, h3⟩
        · rw [e_inL0 (n := 6) (by decide) (by decide) hk]; simpa using hQ
        · rw [e_inL1 (n := 6) (by decide) (by omega) (by decide), e_many1 h2]
          simp only [i32_10, Int32.not_le.mp h3, true_implies, not_true_eq_false, not_false_eq_true, false_implies, true_and, and_true]; exact hQ
  have ne0 : ¬ nI w = (0 : Int32) := nI_ne0 (by omega) (by omega)
  by_cases hw9 : w = 9
  · subst hw9
    have e9 : nI 9 = (9 : Int32) := rfl
    have bey : (l2 < 0 ∨ nI 1001 ≤ l2) → Sim (wX9_act (nI 9) l2 l3 l4 l5 c) (wX10_act (nI 9) l2 l3 l4 l5 m) (Rel T) := by
      intro q
      refine ⟨-102, c, m, fun Q hQ => hx Q ⟨fun z => absurd z ne0, fun _ => ?_⟩, fun Q hQ => hm Q ⟨fun z => absurd z ne0, fun _ => ?_⟩, R⟩
      · unfold wX9_act_p66
        by_cases h00 : l2 < 0
        · simp only [e9, h00, true_implies, not_true_eq_false, not_false_eq_true, false_implies, true_and, and_true]; exact hQ
        · have : ¬ l2 ≤ 1000 := by
            intro z
            have h1 := Int32.le_iff_toInt_le.mp z
            have h2 := Int32.le_iff_toInt_le.mp (q.resolve_left h00)
            rw [nI_toInt (by decide)] at h2
            have e : (1000 : Int32).toInt = 1000 := by decide
            omega
          simp only [e9, h00, this, true_implies, not_true_eq_false, not_false_eq_true, false_implies, true_and, and_true]; exact hQ
      · unfold wX10_act_p57
        rw [e_inL0 (n := 1001) (by decide) (by decide) q]
        simp only [e9, true_implies, not_true_eq_false, not_false_eq_true, false_implies, true_and, and_true]; exact hQ
    rcases pk_ix l2 (n := 1001) (by decide) with q | q | ⟨j, hj, rfl⟩
    · exact bey (Or.inl q)
    · exact bey (Or.inr q)
    · refine fin ⟨9, by decide, rfl, fun q => by omega, fun q => by omega, fun q => by omega, fun q => by omega, fun q => by omega, fun _ => ⟨j, hj, rfl⟩, fun q => by omega⟩ (fun Q hQ => hx Q ⟨fun z => absurd z ne0, fun _ => ?_⟩) (fun Q hQ => hm Q ⟨fun z => absurd z ne0, fun _ => ?_⟩)
      · unfold wX9_act_p66
        simp only [e9, nI_pos (show j < 2 ^ 31 by omega), show nI j ≤ (1000 : Int32) from nI_le (b := 1000) (by omega) (by decide), true_implies, not_true_eq_false, not_false_eq_true, false_implies, true_and, and_true]; exact hQ
      · unfold wX10_act_p57
        rw [e_inL1 (n := 1001) (by decide) hj (by decide)]
        simp only [e9, i32_10, true_implies, not_true_eq_false, not_false_eq_true, false_implies, true_and, and_true]; exact hQ
  · have ne9 : ¬ nI w = (9 : Int32) := fun q => hw9 (nI_inj (b := 9) (by omega) (by decide) q)
    refine fin ⟨w, by omega, rfl, fun q => absurd q hw0, fun q => ?_, fun q => ?_, fun q => ?_, fun q => ?_, fun q => absurd q hw9, fun q => ?_⟩ (fun Q hQ => hx Q ⟨fun z => absurd z ne0, fun _ => ?_⟩) (fun Q hQ => hm Q ⟨fun z => absurd z ne0, fun _ => ?_⟩)
    · rcases q with rfl | rfl | rfl <;> exact ⟨g8 ga, g8 gc⟩
    · rcases q with rfl | rfl <;> exact ⟨ga.resolve_left (by decide), g8 gb⟩
    · rcases q with rfl | rfl <;> exact ⟨g8 ga, g8 gb⟩
    · rcases q with rfl | rfl <;> exact g8 ga
    · subst q; exact ⟨ga.resolve_left (by decide), g8 gc⟩
    · unfold wX9_act_p66
      simp only [ne9, true_implies, not_false_eq_true, false_implies, true_and]; exact hQ
    · unfold wX10_act_p57
      simp only [ne9, true_implies, not_false_eq_true, false_implies, true_and]; exact hQ
end AC

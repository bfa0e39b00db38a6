/-! digest; the paper as it is shown, forged, restored -/
def dgF (f : Nat → Int32) : Int32 → Nat → Nat → Int32
  | a, _, 0 => a
  | a, i, d + 1 => dgF f (31 * a + f i) (i + 1) d
theorem dgF_cong {f g : Nat → Int32} : ∀ (d i : Nat) (a : Int32), (∀ j, i ≤ j → j < i + d → f j = g j) → dgF f a i d = dgF g a i d := by
  intro d
  induction d with
  | zero => intro i a _; rfl
  | succ d ih =>
    intro i a h
    show dgF f (31 * a + f i) (i + 1) d = dgF g (31 * a + g i) (i + 1) d
    rw [h i (Nat.le_refl _) (by omega)]
    exact ih (i + 1) _ (fun j h1 h2 => h j (by omega) (by omega))
section DG
variable {T : Nat} {c m : gMem}
theorem x_dig2 (R : Rel T c m) : ∀ (d k : Nat) (a : Int32), k + d = 24 → Di (wX9_digest_p45 a (nI k) c) (31 * dgF (fun j => c 20 j) a k d + m 1 3) c := by
  intro d
  induction d with
  | zero =>
    intro k a hk Q hQ P hP
    refine hP _ _ _ ?_
    unfold wX9_digest_p45_b
    simp only [show k = 24 by omega, show (24 : Int32) ≤ nI 24 by decide, true_implies, not_true_eq_false, false_implies, and_true]
    rw [x_phase R]; exact hQ
  | succ d ih =>
    intro k a hk Q hQ P hP
    refine hP _ _ _ ?_
    unfold wX9_digest_p45_b
    rw [nI_clamp (by omega)]
    simp only [show ¬ (24 : Int32) ≤ nI k from nI_ge (b := 24) (by omega) (by decide), vp_in_nI (show k < 24 by omega) (show 24 < 2 ^ 31 by decide), forall_eq, nI_1, true_implies, not_false_eq_true, false_implies, true_and]
    exact ih (k + 1) _ (by omega) Q hQ P hP
theorem e_dig2 : ∀ (d k : Nat) (a : Int32), k + d = 24 → Di (wX10_digest_p40 a (nI k) m) (31 * dgF (fun j => m 1 (20 + j)) a k d + m 1 3) m := by
  intro d
  induction d with
  | zero =>
    intro k a hk Q hQ P hP
    refine hP _ _ _ ?_
    unfold wX10_digest_p40_b
    simp only [show k = 24 by omega, show (24 : Int32) ≤ nI 24 by decide, forall_eq, true_implies, not_true_eq_false, false_implies, and_true]
    exact hQ
  | succ d ih =>
    intro k a hk Q hQ P hP
    refine hP _ _ _ ?_
    unfold wX10_digest_p40_b
    rw [show (20 : Int32) + nI k = nI (20 + k) from nI_add 20 k, nI_clamp (by omega)]
    simp only [show ¬ (24 : Int32) ≤ nI k from nI_ge (b := 24) (by omega) (by decide), vp_in_nI (show 20 + k < 26100 by omega) (show 26100 < 2 ^ 31 by decide), forall_eq, nI_1, true_implies, not_false_eq_true, false_implies, true_and]
    exact ih (k + 1) _ (by omega) Q hQ P hP
theorem x_dig1 (R : Rel T c m) : ∀ (d k : Nat) (a : Int32), k + d = zU (m 1) → Di (wX9_digest_p5 a (nI k) c) (31 * dgF (fun j => c 20 j) (dgF (fun j => c 3 j) a k d) 0 24 + m 1 3) c := by
  obtain ⟨a1, a2, a3, a4, a5, a6, a7, a8, a9⟩ := id R.1.2.1.1.1
  have e1 : c 2 1 = nI (zU (m 1)) := by rw [← a6]; exact R.1.1.1.2.1
  intro d
  induction d with
  | zero =>
    intro k a hk Q hQ P hP
    refine hP _ _ _ ?_
    unfold wX9_digest_p5_b
    simp only [forall_eq, e1, show k = zU (m 1) by omega, Int32.le_refl, true_implies, not_true_eq_false, false_implies, and_true]
    exact x_dig2 R 24 0 a (by omega) Q hQ
  | succ d ih =>
    intro k a hk Q hQ P hP
    refine hP _ _ _ ?_
    unfold wX9_digest_p5_b
    rw [nI_clamp (by omega)]
    simp only [forall_eq, e1, nI_ge (show k < zU (m 1) by omega) (show zU (m 1) < 2 ^ 31 by omega), vp_in_nI (show k < 4000 by omega) (show 4000 < 2 ^ 31 by decide), nI_1, true_implies, not_false_eq_true, false_implies, true_and]
    exact ih (k + 1) _ (by omega) Q hQ P hP
theorem e_dig1 (R : Rel T c m) : ∀ (d k : Nat) (a : Int32), k + d = zU (m 1) → Di (wX10_digest_p5 a (nI k) m) (31 * dgF (fun j => m 1 (20 + j)) (dgF (fun j => m 1 (6100 + j)) a k d) 0 24 + m 1 3) m := by
  obtain ⟨a1, a2, a3, a4, a5, a6, a7, a8, a9⟩ := id R.1.2.1.1.1
  intro d
  induction d with
  | zero =>
    intro k a hk Q hQ P hP
    refine hP _ _ _ ?_
    unfold wX10_digest_p5_b
    simp only [forall_eq, a6, show k = zU (m 1) by omega, Int32.le_refl, true_implies, not_true_eq_false, false_implies, and_true]
    exact e_dig2 24 0 a (by omega) Q hQ
  | succ d ih =>
    intro k a hk Q hQ P hP
    refine hP _ _ _ ?_
    unfold wX10_digest_p5_b
    rw [show (6100 : Int32) + nI k = nI (6100 + k) from nI_add 6100 k, nI_clamp (by omega)]
    simp only [forall_eq, a6, nI_ge (show k < zU (m 1) by omega) (show zU (m 1) < 2 ^ 31 by omega), vp_in_nI (show 6100 + k < 26100 by omega) (show 26100 < 2 ^ 31 by decide), nI_1, true_implies, not_false_eq_true, false_implies, true_and]
    exact ih (k + 1) _ (by omega) Q hQ P hP
theorem op_digest (R : Rel T c m) : Sim (wX9_digest c) (wX10_digest m) (Rel T) := by
  have h1 : dgF (fun j => c 3 j) 7 0 (zU (m 1)) = dgF (fun j => m 1 (6100 + j)) 7 0 (zU (m 1)) := dgF_cong _ _ _ (fun j _ hj => R.1.1.2.1.1 j (by omega))
  refine ⟨_, c, m, fun Q hQ => ?_, fun Q hQ => e_dig1 R (zU (m 1)) 0 7 (by omega) Q hQ, R⟩
  refine x_dig1 R (zU (m 1)) 0 7 (by omega) Q ?_
  rw [h1, dgF_cong (f := fun j => c 20 j) (g := fun j => m 1 (20 + j)) _ _ _ (fun j _ hj => R.1.1.2.2.2.2.2.2.2.2.2.1 j (by omega))]
  exact hQ
/-! the paper -/
theorem pp_hp {s : gS} {k : Nat} {v : Int32} : hpE s (upd s (10100 + k) v) := ⟨⟨fun j hj => up_n (by omega), fun h w hh hw => up_n (by omega)⟩, fun j a b => up_n (by omega), fun j a b => up_n (by omega)⟩
theorem pp_mk {s : gS} {k : Nat} {v : Int32} : mkE s (upd s (10100 + k) v) := ⟨fun j hj => up_n (by omega), fun j a b => up_n (by omega), fun h w hh a b => up_n (by omega)⟩
theorem pp_now {k : Nat} {v : Int32} (R : Rel T c m) (hk : k < zR (m 1)) : Rel T (mp c 16 k v) (mr m 1 (upd (m 1) (10100 + k) v)) := by
  obtain ⟨⟨hp, hmk, it, ip, ig⟩, hL⟩ := id R.1.2
  obtain ⟨a1, a2, a3, a4, a5, a6, a7, a8, a9⟩ := id hp.1
  obtain ⟨r1, r2, r3, r4, r5, r6, r7, r8, r9, r10⟩ := R.1.1
  have hR6 := ip.2.2
  have e := pp_hp (s := m 1) (k := k) (v := v)
  have f := pp_mk (s := m 1) (k := k) (v := v)
  have hc : ∀ i, i ≠ 16 → mp c 16 k v i = c i := fun i hi => mp_n hi
  refine R.now (Nat.le_refl _) ?_ ⟨⟨e.all hp, f.all hp.1 e.1.m (fun g hg hlg => (e.1.lv (by omega)).mpr hlg) (fun g hg hlg => e.1.lk (by omega)) hmk, iT_cong (up_n (by omega)) it, iP_cong (up_n (by omega)) ip, iG_cong ⟨fun q a b => up_n (by omega), fun q a b => up_n (by omega), fun q a b => up_n (by omega)⟩ ig⟩, both_iL e f hp hmk hL⟩ (fun i hi => hc i (by omega)) (up_n (by omega))
  refine ⟨rH_cong e.1 (fun k _ => by rw [hc _ (by decide)]) r1, rW_cong e.1.u (by omega) (fun k hk => e.2.2 _ (by omega) (by omega)) (fun k _ => by rw [hc _ (by decide)]) r2, rC_cong e.1 a5 (fun k _ => by rw [hc _ (by decide)]) (fun k _ => by rw [hc _ (by decide)]) r3, rM_cong f hmk a5 (fun k _ => by rw [hc _ (by decide)]) r4, rO_cong f hmk a5 (fun k _ => by rw [hc _ (by decide)]) (fun k _ => by rw [hc _ (by decide)]) (fun k _ => by rw [hc _ (by decide)]) (fun k _ => by rw [hc _ (by decide)]) r5, rK_cong f e.1.m a5 (fun k _ => by rw [hc _ (by decide)]) r6, rT_cong ⟨fun q _ _ => up_n (by omega), fun q _ _ => up_n (by omega)⟩ (fun k _ => by rw [hc _ (by decide)]) (fun k _ => by rw [hc _ (by decide)]) r7, ?_, rG_cong ⟨fun q _ _ => up_n (by omega), fun q _ _ => up_n (by omega), fun q _ _ => up_n (by omega)⟩ ig (fun k _ => by rw [hc _ (by decide)]) (fun k _ => by rw [hc _ (by decide)]) (fun k _ => by rw [hc _ (by decide)]) r9, rR_cong (fun q _ _ => up_n (by omega)) (fun k _ => by rw [hc _ (by decide)]) (fun k _ => by rw [hc _ (by decide)]) r10⟩
  have ez : zR (upd (m 1) (10100 + k) v) = zR (m 1) := nn_cong (up_n (by omega))
  refine ⟨?_, fun q hq => ?_⟩
  · show mp c 16 k v 14 0 = _
    rw [hc _ (by decide), up_n (by omega)]; exact r8.1
  · rw [ez] at hq
    show mp c 16 k v 15 q = _ ∧ mp c 16 k v 16 q = _
    rw [hc _ (by decide), mp_s, up_n (show 18100 + q ≠ 10100 + k by omega)]
    refine ⟨(r8.2 q hq).1, ?_⟩
    by_cases hqk : q = k
    · subst hqk; rw [up_s, up_s]
    · rw [up_n hqk, up_n (by omega)]; exact (r8.2 q hq).2
theorem row_facts (R : Rel T c m) : m 1 15 = nI (zR (m 1)) ∧ c 14 0 = nI (zR (m 1)) ∧ zR (m 1) ≤ 6527 := by
  have ip := R.1.2.1.2.2.2.1
  exact ⟨ip.1, by rw [← ip.1]; exact R.1.1.2.2.2.2.2.2.2.1.1, ip.2.2⟩
theorem x101 {k : Nat} : (10100 : Int32) + nI k = nI (10100 + k) := nI_add 10100 k
theorem x181 {k : Nat} : (18100 : Int32) + nI k = nI (18100 + k) := nI_add 18100 k
theorem op_row {l1 : Int32} (R : Rel T c m) : Sim (wX9_row l1 c) (wX10_row l1 m) (Rel T) := by
  obtain ⟨e1, e2, e3⟩ := row_facts R
  have bey : (l1 < 0 ∨ nI (zR (m 1)) ≤ l1) → Sim (wX9_row l1 c) (wX10_row l1 m) (Rel T) := by
    intro q
    refine ⟨-101, c, m, fun Q hQ => ?_, fun Q hQ => ?_, R⟩
    · unfold wX9_row wX9_row_p18
      by_cases h0 : l1 < 0
      · simpa [h0] using hQ
      · simp only [h0, e2, forall_eq, show ¬ l1 < nI (zR (m 1)) from Int32.not_lt.mpr (q.resolve_left h0), true_implies, not_true_eq_false, false_implies, and_true, not_false_eq_true, true_and]; exact hQ
    · unfold wX10_row
      simp only [forall_eq]
      rw [e1, e_inN0 q (by omega)]; simpa using hQ
  rcases pk_ix l1 (n := zR (m 1)) (by omega) with q | q | ⟨k, hk, rfl⟩
  · exact bey (Or.inl q)
  · exact bey (Or.inr q)
  · have hw : c 16 k = m 1 (10100 + k) := (R.1.1.2.2.2.2.2.2.2.1.2 k hk).2
    refine ⟨m 1 (10100 + k), c, m, fun Q hQ => ?_, fun Q hQ => ?_, R⟩
    · unfold wX9_row
      rw [nI_clamp (by omega)]
      simp only [nI_pos (show k < 2 ^ 31 by omega), e2, forall_eq, nI_lt hk (show zR (m 1) < 2 ^ 31 by omega), vp_in_nI (show k < 6527 by omega) (show 6527 < 2 ^ 31 by decide), hw, true_implies, not_true_eq_false, false_implies, and_true, not_false_eq_true, true_and]; exact hQ
    · unfold wX10_row
      simp only [forall_eq]
      rw [e1, e_inN1 hk (by omega), x101, nI_clamp (by omega)]
      simp only [vp_in_nI (show 10100 + k < 26100 by omega) (show 26100 < 2 ^ 31 by decide), i32_10, true_implies, not_true_eq_false, false_implies, and_true, not_false_eq_true, true_and]; exact hQ
theorem op_forge {l1 l2 : Int32} (R : Rel T c m) : Sim (wX9_forge l1 l2 c) (wX10_forge l1 l2 m) (Rel T) := by
  obtain ⟨e1, e2, e3⟩ := row_facts R
  have bey : (l1 < 0 ∨ nI (zR (m 1)) ≤ l1) → Sim (wX9_forge l1 l2 c) (wX10_forge l1 l2 m) (Rel T) := by
    intro q
    refine ⟨-101, c, m, fun Q hQ => ?_, fun Q hQ => ?_, R⟩
    · unfold wX9_forge
      by_cases h0 : l1 < 0
      · simpa [h0] using hQ
      · simp only [h0, e2, forall_eq, show ¬ l1 < nI (zR (m 1)) from Int32.not_lt.mpr (q.resolve_left h0), true_implies, not_true_eq_false, false_implies, and_true, not_false_eq_true, true_and]; exact hQ
    · unfold wX10_forge
      simp only [forall_eq]
      rw [e1, e_inN0 q (by omega)]; simpa using hQ
  rcases pk_ix l1 (n := zR (m 1)) (by omega) with q | q | ⟨k, hk, rfl⟩
  · exact bey (Or.inl q)
  · exact bey (Or.inr q)
  · have hw : c 16 k = m 1 (10100 + k) := (R.1.1.2.2.2.2.2.2.2.1.2 k hk).2
    refine ⟨m 1 (10100 + k), _, _, fun Q hQ => ?_, fun Q hQ => ?_, pp_now (v := l2) R hk⟩
    · unfold wX9_forge
      rw [nI_clamp (by omega)]
      simp only [nI_pos (show k < 2 ^ 31 by omega), e2, forall_eq, nI_lt hk (show zR (m 1) < 2 ^ 31 by omega), vp_in_nI (show k < 6527 by omega) (show 6527 < 2 ^ 31 by decide), hw, true_implies, not_true_eq_false, false_implies, and_true, not_false_eq_true, true_and]; exact hQ
    · unfold wX10_forge
      simp only [forall_eq]
      rw [e1, e_inN1 hk (by omega), x101, nI_clamp (by omega)]
      simp only [vp_in_nI (show 10100 + k < 26100 by omega) (show 26100 < 2 ^ 31 by decide), i32_10, true_implies, not_true_eq_false, false_implies, and_true, not_false_eq_true, true_and]; exact hQ
theorem plain_loop : ∀ (d k : Nat) (a : Int32) (c m : gMem), Rel T c m → k + d = zR (m 1) → Sim (wX4_restore_p4 a (nI k) c) (wX10_plain_p4 a (nI k) m) (Rel T) := by
  intro d
  induction d with
  | zero =>
    intro k a c m R hk
    obtain ⟨e1, e2, e3⟩ := row_facts R
    refine ⟨a, c, m, fun Q hQ P hP => ?_, fun Q hQ P hP => ?_, R⟩
    · refine hP _ _ _ ?_
      unfold wX4_restore_p4_b
      simp only [forall_eq, e2, show k = zR (m 1) by omega, Int32.le_refl, true_implies, not_true_eq_false, false_implies, and_true]
      exact hQ
    · refine hP _ _ _ ?_
      unfold wX10_plain_p4_b
      simp only [forall_eq, e1, show k = zR (m 1) by omega, Int32.le_refl, true_implies, not_true_eq_false, false_implies, and_true]
      exact hQ
  | succ d ih =>
    intro k a c m R hk
    obtain ⟨e1, e2, e3⟩ := row_facts R
    have hkz : k < zR (m 1) := by omega
    have hw := R.1.1.2.2.2.2.2.2.2.1.2 k hkz
    have h15 : c 15 k = m 1 (18100 + k) := hw.1
    have h16 : c 16 k = m 1 (10100 + k) := hw.2
    have R1 := pp_now (v := m 1 (18100 + k)) R hkz
    have ez : zR (mr m 1 (upd (m 1) (10100 + k) (m 1 (18100 + k))) 1) = zR (m 1) := by rw [mr_s]; exact nn_cong (up_n (by omega))
    have eM : mp m 1 (10100 + k) (m 1 (18100 + k)) = mr m 1 (upd (m 1) (10100 + k) (m 1 (18100 + k))) := rfl
    by_cases hq : m 1 (10100 + k) = m 1 (18100 + k)
    · obtain ⟨r, c', m', X, M, R2⟩ := ih (k + 1) a _ _ R1 (by omega)
      rw [mp_id (h16.trans hq)] at X
      refine ⟨r, c', m', fun Q hQ P hP => ?_, fun Q hQ P hP => ?_, R2⟩
      · refine hP _ _ _ ?_
        unfold wX4_restore_p4_b wX4_restore_p42
        rw [nI_clamp (by omega)]
        simp only [forall_eq, e2, nI_ge hkz (show zR (m 1) < 2 ^ 31 by omega), vp_in_nI (show k < 6527 by omega) (show 6527 < 2 ^ 31 by decide), h15, h16, hq, nI_1, true_implies, not_true_eq_false, not_false_eq_true, false_implies, true_and, and_true]
        exact X Q hQ P hP
      · refine hP _ _ _ ?_
        unfold wX10_plain_p4_b wX10_plain_p44
        rw [x101, x181, nI_clamp (by omega), nI_clamp (by omega)]
        simp only [forall_eq, e1, nI_ge hkz (show zR (m 1) < 2 ^ 31 by omega), vp_in_nI (show 10100 + k < 26100 by omega) (show 26100 < 2 ^ 31 by decide), vp_in_nI (show 18100 + k < 26100 by omega) (show 26100 < 2 ^ 31 by decide), hq, nI_1, true_implies, not_true_eq_false, not_false_eq_true, false_implies, true_and, and_true, Int32.add_zero]
        rw [eM]
        exact M Q hQ P hP
    · obtain ⟨r, c', m', X, M, R2⟩ := ih (k + 1) (a + 1) _ _ R1 (by omega)
      refine ⟨r, c', m', fun Q hQ P hP => ?_, fun Q hQ P hP => ?_, R2⟩
      · refine hP _ _ _ ?_
        unfold wX4_restore_p4_b wX4_restore_p42
        rw [nI_clamp (by omega)]
        simp only [forall_eq, e2, nI_ge hkz (show zR (m 1) < 2 ^ 31 by omega), vp_in_nI (show k < 6527 by omega) (show 6527 < 2 ^ 31 by decide), h15, h16, hq, nI_1, true_implies, not_true_eq_false, not_false_eq_true, false_implies, true_and, and_true]
        exact X Q hQ P hP
      · refine hP _ _ _ ?_
        unfold wX10_plain_p4_b wX10_plain_p44
        rw [x101, x181, nI_clamp (by omega), nI_clamp (by omega)]
        simp only [forall_eq, e1, nI_ge hkz (show zR (m 1) < 2 ^ 31 by omega), vp_in_nI (show 10100 + k < 26100 by omega) (show 26100 < 2 ^ 31 by decide), vp_in_nI (show 18100 + k < 26100 by omega) (show 26100 < 2 ^ 31 by decide), hq, nI_1, true_implies, not_true_eq_false, not_false_eq_true, false_implies, true_and, and_true]
        rw [eM]
        exact M Q hQ P hP
theorem op_plain (R : Rel T c m) : Sim (wX9_plain c) (wX10_plain m) (Rel T) := by
  obtain ⟨r, c', m', X, M, R2⟩ := plain_loop (zR (m 1)) 0 0 c m R (by omega)
  exact ⟨r, c', m', fun Q hQ => X _ hQ, fun Q hQ => M _ hQ, R2⟩
end DG

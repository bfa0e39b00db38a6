/-! roots and shelves -/
section RU
variable {T : Nat} {c m : gMem} {s : gS} {j : Nat} {v : Int32}
theorem ru_w (h1 : 20 ≤ j) (h2 : j < 84) : hwE s (upd s j v) := ⟨⟨fun q hq => up_n (by omega), fun h w hh hw => up_n (by omega)⟩, fun q a b => up_n (by omega)⟩
theorem ru_k (h1 : 20 ≤ j) (h2 : j < 84) : mkE s (upd s j v) := ⟨fun q hq => up_n (by omega), fun q a b => up_n (by omega), fun h w hh a b => up_n (by omega)⟩
theorem ru_S0 (h0 : aS0 T s) (h1 : 20 ≤ j) (h2 : j < 76) (hv : aHv s v) : aS0 T (upd s j v) := by
  obtain ⟨hp, hmk, it, ip, ig⟩ := h0
  obtain ⟨ia, ic, iz, inn, ir⟩ := hp
  have a5 := ia.2.2.2.2.1
  have e : hwE s (upd s j v) := ru_w h1 (by omega)
  refine ⟨⟨e.jA ia, e.jC ia ic, e.jZ ia iz, e.jN ia ic inn, ?_⟩, (ru_k h1 (by omega)).all ia e.1.m (fun g hg hlg => (e.1.lv (by omega)).mpr hlg) (fun g hg hlg => e.1.lk (by omega)) hmk, iT_cong (up_n (by omega)) it, iP_cong (up_n (by omega)) ip, iG_cong ⟨fun q a b => up_n (by omega), fun q a b => up_n (by omega), fun q a b => up_n (by omega)⟩ ig⟩
  obtain ⟨i1, i2, i3⟩ := ir
  refine ⟨fun r hr => ?_, fun k hk => ?_, fun r hr => ?_⟩
  · by_cases hj : 20 + r = j
    · rw [hj, up_s]; exact e.1.hv a5 hv
    · rw [up_n hj]; exact e.1.hv a5 (i1 r hr)
  · by_cases hj : 44 + k = j
    · rw [hj, up_s]; exact e.1.hv a5 hv
    · rw [up_n hj]; exact e.1.hv a5 (i2 k hk)
  · rw [up_n (by omega), e.1.m]; exact i3 r hr
theorem ru_SR (hr : aSR 1 c s) (h0 : aS0 T s) (h1 : 20 ≤ j) (h2 : j < 76) {c' : gMem} (hc : ∀ i, i < 20 ∨ 21 < i → c' i = c i) (hR : rR 1 c' (upd s j v)) : aSR 1 c' (upd s j v) := by
  obtain ⟨hp, hmk, it, ip, ig⟩ := h0
  obtain ⟨a1, a2, a3, a4, a5, a6, a7, a8, a9⟩ := hp.1
  obtain ⟨r1, r2, r3, r4, r5, r6, r7, r8, r9, r10⟩ := hr
  have e : hwE s (upd s j v) := ru_w h1 (by omega)
  have f : mkE s (upd s j v) := ru_k h1 (by omega)
  exact ⟨rH_cong e.1 (fun k _ => by rw [hc _ (by decide)]) r1, rW_cong e.1.u (by omega) (fun k hk => e.2 _ (by omega) (by omega)) (fun k _ => by rw [hc _ (by decide)]) r2, rC_cong e.1 a5 (fun k _ => by rw [hc _ (by decide)]) (fun k _ => by rw [hc _ (by decide)]) r3, rM_cong f hmk a5 (fun k _ => by rw [hc _ (by decide)]) r4, rO_cong f hmk a5 (fun k _ => by rw [hc _ (by decide)]) (fun k _ => by rw [hc _ (by decide)]) (fun k _ => by rw [hc _ (by decide)]) (fun k _ => by rw [hc _ (by decide)]) r5, rK_cong f e.1.m a5 (fun k _ => by rw [hc _ (by decide)]) r6, rT_cong ⟨fun q _ _ => up_n (by omega), fun q _ _ => up_n (by omega)⟩ (fun k _ => by rw [hc _ (by decide)]) (fun k _ => by rw [hc _ (by decide)]) r7, rP_cong ⟨up_n (by omega), fun q hq => ⟨up_n (by omega), up_n (by omega)⟩⟩ (by rw [hc _ (by decide)]) (fun k _ => by rw [hc _ (by decide)]) (fun k _ => by rw [hc _ (by decide)]) r8, rG_cong ⟨fun q _ _ => up_n (by omega), fun q _ _ => up_n (by omega), fun q _ _ => up_n (by omega)⟩ ig (fun k _ => by rw [hc _ (by decide)]) (fun k _ => by rw [hc _ (by decide)]) (fun k _ => by rw [hc _ (by decide)]) r9, hR⟩
theorem ru_SR1 {r : Nat} (hr : aSR 1 c s) (h0 : aS0 T s) (h : r < 24) : aSR 1 (mp c 20 r v) (upd s (20 + r) v) := by
  refine ru_SR hr h0 (by omega) (by omega) (fun i hi => mp_n (by omega)) ⟨fun q hq => ?_, fun q hq => ?_⟩
  · show mp c 20 r v 20 q = _
    rw [mp_s]
    by_cases h1 : q = r
    · subst h1; rw [up_s, up_s]
    · rw [up_n h1, up_n (by omega)]; exact hr.2.2.2.2.2.2.2.2.2.1 q hq
  · show mp c 20 r v 21 q = _
    rw [mp_n (by decide), up_n (by omega)]; exact hr.2.2.2.2.2.2.2.2.2.2 q hq
theorem ru_SR2 {r : Nat} (hr : aSR 1 c s) (h0 : aS0 T s) (h : r < 32) : aSR 1 (mp c 21 r v) (upd s (44 + r) v) := by
  refine ru_SR hr h0 (by omega) (by omega) (fun i hi => mp_n (by omega)) ⟨fun q hq => ?_, fun q hq => ?_⟩
  · show mp c 21 r v 20 q = _
    rw [mp_n (by decide), up_n (by omega)]; exact hr.2.2.2.2.2.2.2.2.2.1 q hq
  · show mp c 21 r v 21 q = _
    rw [mp_s]
    by_cases h1 : q = r
    · subst h1; rw [up_s, up_s]
    · rw [up_n h1, up_n (by omega)]; exact hr.2.2.2.2.2.2.2.2.2.2 q hq
/-- the first half of the marks' law, where links and marks agree -/
theorem iL1_cong {s' : gS} (e : hwE s s') (f : mkE s s') (h0 : aS0 T s) (h : ∀ k, k < zK s → ∀ i, i < aTh s (aOd s k) → aMk s (aLn s (aOd s k) i)) : ∀ k, k < zK s' → ∀ i, i < aTh s' (aOd s' k) → aMk s' (aLn s' (aOd s' k) i) := by
  intro k hk i hi
  have hM := h0.1.1.2.2.2.2.1
  have hK := h0.2.1.1.2.2.1
  rw [f.k] at hk
  obtain ⟨o1, o2, o3, o4, o5, o6, o7, o8⟩ := h0.2.1.2.1 k hk
  rw [f.od (by omega), f.th (by omega)] at hi
  rw [f.od (by omega), e.ln h0.1.1 h0.1.2.1 o2 o3 (by omega)]
  exact f.mk (by omega) (h k hk i hi)
theorem aMS.L1 {s' : gS} {x : Int32} (h : aMS s s' x) (h0 : aS0 T s) (hL : ∀ k, k < zK s → ∀ i, i < aTh s (aOd s k) → aMk s (aLn s (aOd s k) i)) : ∀ k, k < zK s' → ∀ i, i < aTh s' (aOd s' k) → aMk s' (aLn s' (aOd s' k) i) := by
  obtain ⟨e, ho, eL, hK, h5, h6, h7, h8⟩ := h
  intro k hk i hi
  by_cases hk2 : k < zK s
  · obtain ⟨o1, o2, o3, o4, o5, o6, o7, o8⟩ := h0.2.1.2.1 k hk2
    rw [(h5 k hk2).1, (h5 k hk2).2] at hi
    rw [(h5 k hk2).1, e.ln h0.1.1 h0.1.2.1 o2 o3 (by omega)]
    exact h7 _ (hL k hk2 i hi)
  · rw [h6 k (by omega) hk] at hi; exact absurd hi (by omega)
theorem x20 {r : Nat} (hr : r < 24) : (20 : Int32) + nI r = nI (20 + r) := nI_add 20 r
theorem sim_roots {r : Nat} {t : Int32} (R : Rel T c m) (hr : r < 24) (ht : aRg (m 1) t) : SimG (wX0_setRoot (nI r) t c) (wX10_roots (nI r) t m) (Rel T) := by
  have hM := R.made.2.1
  rcases ht.tgt.symm with ⟨t', ht', rfl, hld⟩ | hv
  · refine ⟨-11, 1, c, m, fun Q hQ => ?_, fun Q hQ => ?_, R, Or.inr ⟨1, by decide, by decide, rfl, by decide⟩⟩
    · unfold wX0_setRoot; rw [x_tgt0 R ht' hld]; simpa using hQ
    · unfold wX10_roots; rw [e_gone R (Or.inr ⟨t', ht', rfl, hld⟩)]; simpa [nI_m1 (show t' < 2 ^ 31 by omega)] using hQ
  have hold : aHv (m 1) (m 1 (20 + r)) := R.1.2.1.1.2.2.2.2.1 r hr
  have hcr : c 20 r = m 1 (20 + r) := R.1.1.2.2.2.2.2.2.2.2.2.1 r hr
  have hS := ru_S0 (v := t) R.1.2.1 (show 20 ≤ 20 + r by omega) (by omega) hv
  have hR := ru_SR1 (v := t) R.1.1 R.1.2.1 hr
  have e : hwE (m 1) (upd (m 1) (20 + r) t) := ru_w (by omega) (by omega)
  have f : mkE (m 1) (upd (m 1) (20 + r) t) := ru_k (by omega) (by omega)
  have R1 := R.set12 (m 1 (20 + r))
  have hm1 : ∀ v : Int32, mp m 0 12 v 1 = m 1 := fun v => mp_n (by decide)
  have e5 : mp (mp m 0 12 (m 1 (20 + r))) 1 (20 + r) t = mr (mp m 0 12 (m 1 (20 + r))) 1 (upd (m 1) (20 + r) t) := by
    unfold mp; rw [mr_n (by decide)]
  have hX : ∀ c', Dv (wX7_mark t 3 (-1) (nI r) (mp c 20 r t)) c' → Di (wX0_setRoot (nI r) t c) (m 1 (20 + r)) c' := by
    intro c' hd Q hQ
    unfold wX0_setRoot; rw [x_tgt1 R hv, nI_clamp (by omega)]
    simp only [true_implies, not_true_eq_false, false_implies, and_true, vp_in_nI hr (show 24 < 2 ^ 31 by decide), true_and, forall_eq, hcr]
    exact hd _ hQ
  have hMm : ∀ m', (m 1 3 = 1 → Dv (wX10_mark t 3 (-1) (nI r) (mr (mp m 0 12 (m 1 (20 + r))) 1 (upd (m 1) (20 + r) t))) m') → (¬ m 1 3 = 1 → m' = mr (mp m 0 12 (m 1 (20 + r))) 1 (upd (m 1) (20 + r) t)) → Di (wX10_roots (nI r) t m) 0 m' := by
    intro m' h1 h2 Q hQ
    have e15 : wX10_roots_p15 (nI r) t m Q := by
      unfold wX10_roots_p15
      rw [x20 hr, nI_clamp (by omega)]
      have e3 : upd (m 1) (20 + r) t 3 = m 1 3 := up_n (by omega)
      simp only [vp_in_nI (show 20 + r < 26100 by omega) (show 26100 < 2 ^ 31 by decide), true_and, forall_eq, e5, mr_s, e3]
      refine ⟨fun q => h1 q _ hQ, fun q => ?_⟩
      rw [← h2 q]; exact hQ
    unfold wX10_roots
    rcases hv with rfl | ⟨t', ht', rfl, hlv⟩
    · simpa using e15
    · rw [e_live R ht' hlv]; simpa [nI_m1 (show t' < 2 ^ 31 by omega)] using e15
  have hgot : ∀ s' : gS, mr (mp m 0 12 (m 1 (20 + r))) 1 s' 0 12 = m 1 (20 + r) := fun s' => by rw [mr_n (by decide), mp_s, up_s]
  rcases R.1.2.1.2.1.1.1 with h3 | h3
  · have c6 : mp c 20 r t 6 0 = 0 := by rw [mp_n (by decide), ← h3]; exact R.1.1.2.2.2.1.1
    refine ⟨m 1 (20 + r), 0, mp c 20 r t, _, hX _ (fun Q hQ => by rw [x_markOff c6]; exact hQ), hMm _ (fun q => absurd (h3.symm.trans q) (by decide)) (fun _ => rfl), R1.now (Nat.le_refl _) hR ⟨hS, iL_off hS.2.1.1 (by rw [up_n (by omega)]; exact h3)⟩ (fun q hq => mp_n (by omega)) (by rw [hm1]; exact up_n (by omega)), Or.inl ⟨rfl, hgot _, fdA_hv hM hold.rg⟩⟩
  · have h31 : upd (m 1) (20 + r) t 3 = 1 := by rw [up_n (by omega)]; exact h3
    obtain ⟨c1, X1, M1, r1, S1, MS1, F1⟩ := sim_mark (w := 3) (a := -1) (b := nI r) hR hS (e.1.hv hM hv) h31
    have hL2 : iL (mkF (upd (m 1) (20 + r) t) t 3 (-1) (nI r)) := by
      refine ⟨MS1.L1 hS (iL1_cong e f R.1.2.1 R.1.2.2.1), fun _ q hq => ?_⟩
      rw [MS1.1.2.1 _ (by omega) (by omega)]
      by_cases hqr : q = r
      · subst hqr; rw [up_s]; exact MS1.2.2.2.2.2.2.2
      · rw [up_n (by omega)]
        exact MS1.2.2.2.2.2.2.1 _ (f.mk (by have := R.1.2.1.2.1.1.2.2.1; omega) (R.1.2.2.2 h3 q hq))
    refine ⟨m 1 (20 + r), 0, c1, _, hX _ X1, hMm _ (fun _ => M1 _) (fun q => absurd h3 q), R1.now (Nat.le_refl _) r1 ⟨S1, hL2⟩ (fun q hq => by rw [F1 q (by omega), mp_n (by omega)]) (by rw [hm1]; exact (MS1.1.1.1 0 (by simp)).trans (up_n (by omega))), Or.inl ⟨rfl, hgot _, fdA_hv hM hold.rg⟩⟩
theorem e_isRoot1 {r : Nat} (hr : r < 24) {Q : Int32 → gMem → Prop} : wX10_isRoot (nI r) m Q = Q 1 m := by
  unfold wX10_isRoot
  rw [e_inI1 (by rw [nI_toInt (by omega)]; show (0 : Int) ≤ _; omega) (by rw [nI_toInt (by omega)]; show _ ≤ (23 : Int); omega)]
  simp
theorem e_isRoot0 {x : Int32} (hx : x < 0 ∨ nI 24 ≤ x) {Q : Int32 → gMem → Prop} : wX10_isRoot x m Q = Q 0 m := by
  unfold wX10_isRoot
  rw [e_inI0 ?_]
  · simp
  · rcases hx with hx | hx
    · left; have := Int32.lt_iff_toInt_lt.mp hx; show _ < (0 : Int); exact this
    · right; have := Int32.le_iff_toInt_le.mp hx; rw [nI_toInt (by decide)] at this; show (23 : Int) < _; omega
theorem lt_of24 {x : Int32} (hx : nI 24 ≤ x) : ¬ x < 0 := by
  intro q
  have h1 := Int32.le_iff_toInt_le.mp hx
  have h2 := Int32.lt_iff_toInt_lt.mp q
  rw [nI_toInt (by decide)] at h1
  have e : (0 : Int32).toInt = 0 := by decide
  omega
theorem op_root {l1 l2 : Int32} (R : Rel T c m) : Sim (wX9_root l1 l2 c) (wX10_root l1 l2 m) (Rel T) := by
  rcases pk_ix l1 (n := 24) (by decide) with q | q | ⟨r, hr, rfl⟩
  · exact ⟨-101, c, m, fun Q hQ => by unfold wX9_root; simpa [q] using hQ, fun Q hQ => by unfold wX10_root wX10_root_p15; rw [e_isRoot0 (Or.inl q)]; simpa using hQ, R⟩
  · exact ⟨-101, c, m, fun Q hQ => by unfold wX9_root; simp only [lt_of24 q, show (24 : Int32) ≤ l1 from q, true_implies, not_true_eq_false, false_implies, and_true, not_false_eq_true, true_and]; exact hQ, fun Q hQ => by unfold wX10_root wX10_root_p15; rw [e_isRoot0 (Or.inr q)]; simpa using hQ, R⟩
  · have h0 : ¬ nI r < 0 := nI_pos (by omega)
    have h24 : ¬ (24 : Int32) ≤ nI r := nI_ge hr (by decide)
    rcases R.rg l2 with ht | ⟨h1, h2⟩
    · obtain ⟨a, c', m', a1, a2, a3⟩ := pub_by (sim_roots R hr ht)
      refine ⟨a, c', m', fun Q hQ => ?_, fun Q hQ => ?_, a3⟩
      · unfold wX9_root
        have e : ∀ P : Int32 → gMem → Prop, wX9_isUnknownTarget l2 c P = P 0 c := fun P => by
          rcases ht with rfl | ⟨t, ht, rfl⟩
          · exact x_unkN
          · exact x_unk1 R.made.2.2 R.made.2.1 ht
        rw [e]
        simp only [h0, h24, true_implies, not_true_eq_false, false_implies, and_true, not_false_eq_true, true_and]
        exact a1 _ hQ
      · unfold wX10_root
        have e : ∀ P : Int32 → gMem → Prop, wX10_mayBe l2 m P = P 1 m := fun P => by
          rcases ht with rfl | ⟨t, ht, rfl⟩
          · exact e_mayN
          · exact e_may1 R.made.1 R.made.2.1 ht
        rw [e_isRoot1 hr, e]
        simp only [i32_10, false_implies, not_false_eq_true, true_implies, true_and]
        exact a2 _ hQ
    · refine ⟨-101, c, m, fun Q hQ => ?_, fun Q hQ => ?_, R⟩
      · unfold wX9_root
        rw [x_unk0 R.made.2.2 h2 h1]
        simp only [h0, h24, true_implies, not_true_eq_false, false_implies, and_true, not_false_eq_true, true_and]
        simpa using hQ
      · unfold wX10_root wX10_root_p15
        rw [e_isRoot1 hr, e_may0 R.made.1 R.made.2.1 h2 h1]; simpa using hQ
theorem op_rootOf {l1 : Int32} (R : Rel T c m) : Sim (wX9_rootOf l1 c) (wX10_rootOf l1 m) (Rel T) := by
  rcases pk_ix l1 (n := 24) (by decide) with q | q | ⟨r, hr, rfl⟩
  · exact ⟨-101, c, m, fun Q hQ => by unfold wX9_rootOf wX9_rootOf_p10; simpa [q] using hQ, fun Q hQ => by unfold wX10_rootOf; rw [e_isRoot0 (Or.inl q)]; simpa using hQ, R⟩
  · exact ⟨-101, c, m, fun Q hQ => by unfold wX9_rootOf wX9_rootOf_p10; simp only [lt_of24 q, show ¬ l1 < (24 : Int32) from Int32.not_lt.mpr q, true_implies, not_true_eq_false, false_implies, and_true, not_false_eq_true, true_and]; exact hQ, fun Q hQ => by unfold wX10_rootOf; rw [e_isRoot0 (Or.inr q)]; simpa using hQ, R⟩
  · have h0 : ¬ nI r < 0 := nI_pos (by omega)
    have h24 : nI r < (24 : Int32) := nI_lt (b := 24) hr (by decide)
    have hcr : c 20 r = m 1 (20 + r) := R.1.1.2.2.2.2.2.2.2.2.2.1 r hr
    refine ⟨m 1 (20 + r), c, m, fun Q hQ => ?_, fun Q hQ => ?_, R⟩
    · unfold wX9_rootOf
      rw [nI_clamp (by omega)]
      simp only [h0, h24, vp_in_nI hr (show 24 < 2 ^ 31 by decide), hcr, forall_eq, true_implies, not_true_eq_false, false_implies, and_true, not_false_eq_true, true_and]
      exact hQ
    · unfold wX10_rootOf
      rw [e_isRoot1 hr, x20 hr, nI_clamp (by omega)]
      simp only [i32_10, vp_in_nI (show 20 + r < 26100 by omega) (show 26100 < 2 ^ 31 by decide), forall_eq, false_implies, not_false_eq_true, true_implies, true_and]
      exact hQ
end RU

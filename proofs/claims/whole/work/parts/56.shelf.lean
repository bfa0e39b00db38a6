/-! shelves, and calls that ask -/
section SH
variable {T : Nat} {c m : gMem}
theorem e_inL1 {j n : Nat} {b : Int64} (hb : b.toInt + 1 = (n : Int)) (hj : j < n) (hn : n < 2 ^ 31) {Q : Int32 → gMem → Prop} : wX10_in (nI j).toInt64 0 b m Q = Q 1 m :=
  e_inI1 (by rw [nI_toInt (by omega), i64_0]; omega) (by rw [nI_toInt (by omega)]; omega)
theorem e_inL0 {x : Int32} {n : Nat} {b : Int64} (hb : b.toInt + 1 = (n : Int)) (hn : n < 2 ^ 31) (hx : x < 0 ∨ nI n ≤ x) {Q : Int32 → gMem → Prop} : wX10_in x.toInt64 0 b m Q = Q 0 m := by
  refine e_inI0 ?_
  rcases hx with hx | hx
  · left; have := Int32.lt_iff_toInt_lt.mp hx; rw [i64_0]; exact this
  · right; have := Int32.le_iff_toInt_le.mp hx; rw [nI_toInt hn] at this; omega
theorem nn_of_le {x : Int32} {n : Nat} (hn : n < 2 ^ 31) (hx : nI n ≤ x) : ¬ x < 0 := by
  intro q
  have h1 := Int32.le_iff_toInt_le.mp hx
  have h2 := Int32.lt_iff_toInt_lt.mp q
  rw [nI_toInt hn] at h1
  have e : (0 : Int32).toInt = 0 := by decide
  omega
theorem e_takes {sh k : Nat} (hs : sh < 4) (hk : k ≤ 5) {Q : Int32 → gMem → Prop} : wX10_takes (nI sh) (nI k) m Q = Q (if isaN sh k then 1 else 0) m := by
  unfold wX10_takes wX10_takes_p10 wX10_takes_p15 wX10_takes_p28 wX10_takes_p51
  rcases (by omega : sh = 0 ∨ sh = 1 ∨ sh = 2 ∨ sh = 3) with rfl | rfl | rfl | rfl <;> rcases (by omega : k = 0 ∨ k = 1 ∨ k = 2 ∨ k = 3 ∨ k = 4 ∨ k = 5) with rfl | rfl | rfl | rfl | rfl | rfl <;> simp [nI, isaN]
theorem ix8 {sh j : Nat} : nI sh * 8 + nI j = nI (8 * sh + j) := by
  rw [show (8 : Int32) = nI 8 from rfl, pk_mul, nI_add]; congr 1; omega
theorem ix44 {sh j : Nat} : ((44 : Int32) + 8 * nI sh) + nI j = nI (44 + (8 * sh + j)) := by
  rw [show (8 : Int32) = nI 8 from rfl, show (44 : Int32) = nI 44 from rfl, pk_mul, nI_add, nI_add]; congr 1; omega
theorem sim_setShelf {sh : Nat} {i t : Int32} (R : Rel T c m) (hs : sh < 4) (ht : aRg (m 1) t) : Sim (wX0_setShelf (nI sh) i t c) (wX10_shelves (nI sh) i t m) (Rel T) := by
  have hM := R.made.2.1
  rcases ht.tgt.symm with ⟨t', ht', rfl, hld⟩ | hv
  · refine ⟨-11, c, m, fun Q hQ => ?_, fun Q hQ => ?_, R⟩
    · unfold wX0_setShelf; rw [x_tgt0 R ht' hld]; simpa using hQ
    · unfold wX10_shelves; rw [e_gone R (Or.inr ⟨t', ht', rfl, hld⟩)]; simpa [nI_m1 (show t' < 2 ^ 31 by omega), e_fails] using hQ
  have em : ∀ Q : Int32 → gMem → Prop, wX10_shelves_p18 (nI sh) i t m Q → wX10_shelves (nI sh) i t m Q := by
    intro Q hQ
    unfold wX10_shelves
    rcases hv with rfl | ⟨t', ht', rfl, hlv⟩
    · simpa using hQ
    · rw [e_live R ht' hlv]; simpa [nI_m1 (show t' < 2 ^ 31 by omega)] using hQ
  have bey : (i < 0 ∨ nI 8 ≤ i) → Sim (wX0_setShelf (nI sh) i t c) (wX10_shelves (nI sh) i t m) (Rel T) := by
    intro q
    refine ⟨-12, c, m, fun Q hQ => ?_, fun Q hQ => em Q ?_, R⟩
    · unfold wX0_setShelf; rw [x_tgt1 R hv]
      by_cases h0 : i < 0
      · simpa [h0] using hQ
      · simp only [h0, show ¬ i < (8 : Int32) from Int32.not_lt.mpr (q.resolve_left h0), true_implies, not_true_eq_false, false_implies, and_true, not_false_eq_true, true_and]; exact hQ
    · unfold wX10_shelves_p18; rw [e_inL0 (n := 8) (by decide) (by decide) q]; simpa [e_fails] using hQ
  rcases pk_ix i (n := 8) (by decide) with q | q | ⟨j, hj, rfl⟩
  · exact bey (Or.inl q)
  · exact bey (Or.inr q)
  have h0 : ¬ nI j < 0 := nI_pos (by omega)
  have h8 : nI j < (8 : Int32) := nI_lt (b := 8) hj (by decide)
  have hst : ∀ (hx : ∀ Q : Int32 → gMem → Prop, wX0_setShelf_p44 (nI sh) (nI j) t c Q → wX0_setShelf (nI sh) (nI j) t c Q) (hm : ∀ Q : Int32 → gMem → Prop, wX10_shelves_p58 (nI sh) (nI j) t m Q → wX10_shelves (nI sh) (nI j) t m Q), Sim (wX0_setShelf (nI sh) (nI j) t c) (wX10_shelves (nI sh) (nI j) t m) (Rel T) := by
    intro hx hm
    have hS := ru_S0 (v := t) R.1.2.1 (show 20 ≤ 44 + (8 * sh + j) by omega) (by omega) hv
    have hR := ru_SR2 (v := t) R.1.1 R.1.2.1 (show 8 * sh + j < 32 by omega)
    have e : hwE (m 1) (upd (m 1) (44 + (8 * sh + j)) t) := ru_w (by omega) (by omega)
    have f : mkE (m 1) (upd (m 1) (44 + (8 * sh + j)) t) := ru_k (by omega) (by omega)
    have hL : iL (upd (m 1) (44 + (8 * sh + j)) t) := by
      refine ⟨iL1_cong e f R.1.2.1 R.1.2.2.1, fun h3 r hr => ?_⟩
      rw [up_n (by omega)] at h3 ⊢
      exact f.mk (by have := R.1.2.1.2.1.1.2.2.1; omega) (R.1.2.2.2 h3 r hr)
    refine ⟨1, _, _, fun Q hQ => hx Q ?_, fun Q hQ => hm Q ?_, R.now (Nat.le_refl _) hR ⟨hS, hL⟩ (fun q hq => mp_n (by omega)) (up_n (by omega))⟩
    · unfold wX0_setShelf_p44
      rw [ix8, nI_clamp (by omega)]
      refine ⟨vp_in_nI (by omega) (by decide), fun c1 e1 => ?_⟩
      subst e1; exact hQ
    · unfold wX10_shelves_p58
      rw [ix44, nI_clamp (by omega)]
      refine ⟨vp_in_nI (by omega) (by decide), fun c1 e1 => ?_⟩
      subst e1; exact hQ
  rcases hv with rfl | ⟨t', ht', rfl, hlv⟩
  · refine hst (fun Q hQ => ?_) (fun Q hQ => em Q ?_)
    · unfold wX0_setShelf; rw [x_tgt1 R (Or.inl rfl)]
      simp only [h0, h8, true_implies, not_true_eq_false, false_implies, and_true, not_false_eq_true, true_and]; exact hQ
    · unfold wX10_shelves_p18; rw [e_inL1 (n := 8) (by decide) hj (by decide)]; simpa using hQ
  · obtain ⟨f1, f2, f3, f4, f5, f6, f7, f8, f9, f10, f11, f12, f13, f14, f15, f16⟩ := R.cF ht' hlv
    have hm1 := nI_m1 (show t' < 2 ^ 31 by omega)
    cases hisa : isaN sh (aKd (m 1) t')
    · refine ⟨-15, c, m, fun Q hQ => ?_, fun Q hQ => em Q ?_, R⟩
      · unfold wX0_setShelf; rw [x_tgt1 R (Or.inr ⟨t', ht', rfl, hlv⟩), x_isA rfl (by omega) f1 f11 (by omega) f12 f3, hisa]
        simp only [h0, h8, hm1, true_implies, not_true_eq_false, false_implies, and_true, not_false_eq_true, true_and]; simpa using hQ
      · unfold wX10_shelves_p18; rw [e_inL1 (n := 8) (by decide) hj (by decide), e_of1 f1, f2, e_takes hs f3, hisa]; simpa [hm1, e_fails] using hQ
    · refine hst (fun Q hQ => ?_) (fun Q hQ => em Q ?_)
      · unfold wX0_setShelf; rw [x_tgt1 R (Or.inr ⟨t', ht', rfl, hlv⟩), x_isA rfl (by omega) f1 f11 (by omega) f12 f3, hisa]
        simp only [h0, h8, hm1, true_implies, not_true_eq_false, false_implies, and_true, not_false_eq_true, true_and, if_true, i32_10]; exact hQ
      · unfold wX10_shelves_p18; rw [e_inL1 (n := 8) (by decide) hj (by decide), e_of1 f1, f2, e_takes hs f3, hisa]; simpa [hm1, e_fails] using hQ
theorem op_shelve {l1 l2 l3 : Int32} (R : Rel T c m) : Sim (wX9_shelve l1 l2 l3 c) (wX10_shelve l1 l2 l3 m) (Rel T) := by
  rcases pk_ix l1 (n := 4) (by decide) with q | q | ⟨r, hr, rfl⟩
  · exact ⟨-101, c, m, fun Q hQ => by unfold wX9_shelve; simpa [q] using hQ, fun Q hQ => by unfold wX10_shelve wX10_shelve_p20; rw [e_inL0 (n := 4) (by decide) (by decide) (Or.inl q)]; simpa using hQ, R⟩
  · exact ⟨-101, c, m, fun Q hQ => by unfold wX9_shelve; simp only [nn_of_le (by decide) q, show (4 : Int32) ≤ l1 from q, true_implies, not_true_eq_false, false_implies, and_true, not_false_eq_true, true_and]; exact hQ, fun Q hQ => by unfold wX10_shelve wX10_shelve_p20; rw [e_inL0 (n := 4) (by decide) (by decide) (Or.inr q)]; simpa using hQ, R⟩
  · have h0 : ¬ nI r < 0 := nI_pos (by omega)
    have h4 : ¬ (4 : Int32) ≤ nI r := nI_ge hr (by decide)
    rcases R.rg l3 with ht | ⟨h1, h2⟩
    · obtain ⟨a, c', m', a1, a2, a3⟩ := pub_answer (sim_setShelf (i := l2) R hr ht)
      refine ⟨a, c', m', fun Q hQ => ?_, fun Q hQ => ?_, a3⟩
      · unfold wX9_shelve
        have e : ∀ P : Int32 → gMem → Prop, wX9_isUnknownTarget l3 c P = P 0 c := fun P => by
          rcases ht with rfl | ⟨t, ht, rfl⟩
          · exact x_unkN
          · exact x_unk1 R.made.2.2 R.made.2.1 ht
        rw [e]
        simp only [h0, h4, true_implies, not_true_eq_false, false_implies, and_true, not_false_eq_true, true_and]
        exact a1 _ hQ
      · unfold wX10_shelve
        have e : ∀ P : Int32 → gMem → Prop, wX10_mayBe l3 m P = P 1 m := fun P => by
          rcases ht with rfl | ⟨t, ht, rfl⟩
          · exact e_mayN
          · exact e_may1 R.made.1 R.made.2.1 ht
        rw [e_inL1 (n := 4) (by decide) hr (by decide), e]
        simp only [i32_10, false_implies, not_false_eq_true, true_implies, true_and]
        exact a2 _ hQ
    · refine ⟨-101, c, m, fun Q hQ => ?_, fun Q hQ => ?_, R⟩
      · unfold wX9_shelve
        rw [x_unk0 R.made.2.2 h2 h1]
        simp only [h0, h4, true_implies, not_true_eq_false, false_implies, and_true, not_false_eq_true, true_and]
        simpa using hQ
      · unfold wX10_shelve wX10_shelve_p20
        rw [e_inL1 (n := 4) (by decide) hr (by decide), e_may0 R.made.1 R.made.2.1 h2 h1]; simpa using hQ
theorem op_shelf {l1 l2 : Int32} (R : Rel T c m) : Sim (wX9_shelf l1 l2 c) (wX10_shelf l1 l2 m) (Rel T) := by
  rcases pk_ix l1 (n := 4) (by decide) with q | q | ⟨r, hr, rfl⟩
  · exact ⟨-101, c, m, fun Q hQ => by unfold wX9_shelf; simpa [q] using hQ, fun Q hQ => by unfold wX10_shelf; rw [e_inL0 (n := 4) (by decide) (by decide) (Or.inl q)]; simpa using hQ, R⟩
  · exact ⟨-101, c, m, fun Q hQ => by unfold wX9_shelf; simp only [nn_of_le (by decide) q, show ¬ l1 < (4 : Int32) from Int32.not_lt.mpr q, true_implies, not_true_eq_false, false_implies, and_true, not_false_eq_true, true_and]; exact hQ, fun Q hQ => by unfold wX10_shelf; rw [e_inL0 (n := 4) (by decide) (by decide) (Or.inr q)]; simpa using hQ, R⟩
  · have h0 : ¬ nI r < 0 := nI_pos (by omega)
    have h4 : nI r < (4 : Int32) := nI_lt (b := 4) hr (by decide)
    have bey : (l2 < 0 ∨ nI 8 ≤ l2) → Sim (wX9_shelf (nI r) l2 c) (wX10_shelf (nI r) l2 m) (Rel T) := by
      intro q
      refine by_wrong (R.set12 (-1)) (-12) 2 (fun Q hQ => ?_) (fun Q hQ => ?_)
      · unfold wX9_shelf wX9_shelf_p23 wX9_shelf_p42
        by_cases h00 : l2 < 0
        · simp only [h0, h4, h00, true_implies, not_true_eq_false, false_implies, and_true, not_false_eq_true, true_and, x_answer, fd12]; exact hQ
        · simp only [h0, h4, h00, show ¬ l2 < (8 : Int32) from Int32.not_lt.mpr (q.resolve_left h00), true_implies, not_true_eq_false, false_implies, and_true, not_false_eq_true, true_and, x_answer, fd12]; exact hQ
      · unfold wX10_shelf wX10_shelf_p48 wX10_shelf_p61
        rw [e_inL1 (n := 4) (by decide) hr (by decide), e_inL0 (n := 8) (by decide) (by decide) q]
        have := e_byF (m := mp m 0 12 (-1)) (Q := Q) (v := 2) (by decide)
        simpa [this] using hQ
    rcases pk_ix l2 (n := 8) (by decide) with q | q | ⟨j, hj, rfl⟩
    · exact bey (Or.inl q)
    · exact bey (Or.inr q)
    · have hcr : c 21 (8 * r + j) = m 1 (44 + (8 * r + j)) := R.1.1.2.2.2.2.2.2.2.2.2.2 _ (by omega)
      have hv : aHv (m 1) (m 1 (44 + (8 * r + j))) := R.1.2.1.1.2.2.2.2.2.1 _ (by omega)
      refine ⟨m 1 (44 + (8 * r + j)), _, _, fun Q hQ => ?_, fun Q hQ => ?_, (R.set12 (m 1 (44 + (8 * r + j)))).set5 0⟩
      · unfold wX9_shelf wX9_shelf_p42
        rw [ix8, nI_clamp (by omega)]
        simp only [h0, h4, nI_pos (show j < 2 ^ 31 by omega), show nI j < (8 : Int32) from nI_lt (b := 8) hj (by decide), vp_in_nI (show 8 * r + j < 32 by omega) (show 32 < 2 ^ 31 by decide), forall_eq, hcr, true_implies, not_true_eq_false, false_implies, and_true, not_false_eq_true, true_and, x_answer, fdA_hv R.made.2.1 hv.rg]; exact hQ
      · unfold wX10_shelf wX10_shelf_p48 wX10_shelf_p61
        rw [e_inL1 (n := 4) (by decide) hr (by decide), e_inL1 (n := 8) (by decide) hj (by decide), ix44, nI_clamp (by omega)]
        simp only [i32_10, vp_in_nI (show 44 + (8 * r + j) < 26100 by omega) (show 26100 < 2 ^ 31 by decide), forall_eq, true_implies, not_true_eq_false, false_implies, and_true, not_false_eq_true, true_and, e_by0]
        rw [mp_s, up_s]; exact hQ
/-! calls that ask -/
theorem op_copied (R : Rel T c m) : Sim (wX9_copied c) (wX10_copied m) (Rel T) := ⟨m 0 6, c, m, fun Q hQ => by unfold wX9_copied; simp only [forall_eq, R.2.2.2.1]; exact hQ, fun Q hQ => by unfold wX10_copied; simpa using hQ, R⟩
theorem op_found (R : Rel T c m) : Sim (wX9_found c) (wX10_found m) (Rel T) := ⟨m 0 7, c, m, fun Q hQ => by unfold wX9_found; simp only [forall_eq, R.2.2.1]; exact hQ, fun Q hQ => by unfold wX10_found; simpa using hQ, R⟩
theorem op_finding (R : Rel T c m) : Sim (wX9_finding c) (wX10_finding m) (Rel T) := ⟨m 0 5, c, m, fun Q hQ => by unfold wX9_finding; simp only [forall_eq, R.2.1]; exact hQ, fun Q hQ => by unfold wX10_finding; simpa using hQ, R⟩
theorem op_rows (R : Rel T c m) : Sim (wX9_rows c) (wX10_rows m) (Rel T) := ⟨m 1 15, c, m, fun Q hQ => by unfold wX9_rows; simp only [forall_eq, show c 14 0 = m 1 15 from R.1.1.2.2.2.2.2.2.2.1.1]; exact hQ, fun Q hQ => by unfold wX10_rows; simpa using hQ, R⟩
theorem x_phase (R : Rel T c m) {Q : Int32 → gMem → Prop} : wX9_phase c Q = Q (m 1 3) c := by
  have e : c 6 0 = m 1 3 := R.1.1.2.2.2.1.1
  unfold wX9_phase
  simp only [forall_eq, e]
  rcases R.1.2.1.2.1.1.1 with h | h <;> simp [h]
theorem op_phase (R : Rel T c m) : Sim (wX9_phase c) (wX10_phase m) (Rel T) := ⟨m 1 3, c, m, fun Q hQ => by rw [x_phase R]; exact hQ, fun Q hQ => by unfold wX10_phase; simpa using hQ, R⟩
theorem op_register {l1 : Int32} (R : Rel T c m) : Sim (wX9_register l1 c) (wX10_register l1 m) (Rel T) := by
  rcases pk_ix l1 (n := 8) (by decide) with q | q | ⟨r, hr, rfl⟩
  · exact ⟨-101, c, m, fun Q hQ => by unfold wX9_register wX9_register_p10; simpa [q] using hQ, fun Q hQ => by unfold wX10_register wX10_isRegister; rw [e_inL0 (n := 8) (by decide) (by decide) (Or.inl q)]; simpa using hQ, R⟩
  · exact ⟨-101, c, m, fun Q hQ => by unfold wX9_register wX9_register_p10; simp only [nn_of_le (by decide) q, show ¬ l1 < (8 : Int32) from Int32.not_lt.mpr q, true_implies, not_true_eq_false, false_implies, and_true, not_false_eq_true, true_and]; exact hQ, fun Q hQ => by unfold wX10_register wX10_isRegister; rw [e_inL0 (n := 8) (by decide) (by decide) (Or.inr q)]; simpa using hQ, R⟩
  · have hcr : c 19 r = m 1 (76 + r) := R.1.1.2.2.2.2.2.2.2.2.1.2.2 r hr
    refine ⟨m 1 (76 + r), c, m, fun Q hQ => ?_, fun Q hQ => ?_, R⟩
    · unfold wX9_register
      rw [nI_clamp (by omega)]
      simp only [nI_pos (show r < 2 ^ 31 by omega), show nI r < (8 : Int32) from nI_lt (b := 8) hr (by decide), vp_in_nI hr (show 8 < 2 ^ 31 by decide), forall_eq, hcr, true_implies, not_true_eq_false, false_implies, and_true, not_false_eq_true, true_and]; exact hQ
    · unfold wX10_register wX10_isRegister wX10_reg
      rw [e_inL1 (n := 8) (by decide) hr (by decide), show (76 : Int32) + nI r = nI (76 + r) from nI_add 76 r, nI_clamp (by omega)]
      simp only [vp_in_nI (show 76 + r < 26100 by omega) (show 26100 < 2 ^ 31 by decide), forall_eq, i32_10, true_implies, not_true_eq_false, false_implies, and_true, not_false_eq_true, true_and]
      simpa using hQ
theorem op_trace {l1 : Int32} (R : Rel T c m) : Sim (wX9_trace l1 c) (wX10_trace l1 m) (Rel T) := by
  rcases pk_ix l1 (n := 14) (by decide) with q | q | ⟨r, hr, rfl⟩
  · exact ⟨-101, c, m, fun Q hQ => by unfold wX9_trace wX9_trace_p10; simpa [q] using hQ, fun Q hQ => by unfold wX10_trace; rw [e_inL0 (n := 14) (by decide) (by decide) (Or.inl q)]; simpa using hQ, R⟩
  · exact ⟨-101, c, m, fun Q hQ => by unfold wX9_trace wX9_trace_p10; simp only [nn_of_le (by decide) q, show ¬ l1 < (14 : Int32) from Int32.not_lt.mpr q, true_implies, not_true_eq_false, false_implies, and_true, not_false_eq_true, true_and]; exact hQ, fun Q hQ => by unfold wX10_trace; rw [e_inL0 (n := 14) (by decide) (by decide) (Or.inr q)]; simpa using hQ, R⟩
  · refine ⟨m 4 r, c, m, fun Q hQ => ?_, fun Q hQ => ?_, R⟩
    · unfold wX9_trace
      rw [nI_clamp (by omega)]
      simp only [nI_pos (show r < 2 ^ 31 by omega), show nI r < (14 : Int32) from nI_lt (b := 14) hr (by decide), vp_in_nI hr (show 14 < 2 ^ 31 by decide), forall_eq, R.2.2.2.2.1 r hr, true_implies, not_true_eq_false, false_implies, and_true, not_false_eq_true, true_and]; exact hQ
    · unfold wX10_trace
      rw [e_inL1 (n := 14) (by decide) hr (by decide), nI_clamp (by omega)]
      simp only [vp_in_nI hr (show 14 < 2 ^ 31 by decide), forall_eq, i32_10, true_implies, not_true_eq_false, false_implies, and_true, not_false_eq_true, true_and]; exact hQ
theorem op_word {l1 : Int32} (R : Rel T c m) : Sim (wX9_word l1 c) (wX10_word l1 m) (Rel T) := by
  obtain ⟨a1, a2, a3, a4, a5, a6, a7, a8, a9⟩ := id R.1.2.1.1.1
  have e0 : c 2 0 = nI (zA (m 1)) := by rw [← a1]; exact R.1.1.1.1
  have bey : (l1 < 0 ∨ nI (zA (m 1)) ≤ l1) → Sim (wX9_word l1 c) (wX10_word l1 m) (Rel T) := by
    intro q
    refine ⟨-102, c, m, fun Q hQ => ?_, fun Q hQ => ?_, R⟩
    · unfold wX9_word wX9_word_p18
      by_cases h0 : l1 < 0
      · simpa [h0] using hQ
      · simp only [h0, e0, forall_eq, show ¬ l1 < nI (zA (m 1)) from Int32.not_lt.mpr (q.resolve_left h0), true_implies, not_true_eq_false, false_implies, and_true, not_false_eq_true, true_and]; exact hQ
    · unfold wX10_word
      simp only [forall_eq]
      rw [a1, e_inN0 q (by omega)]; simpa using hQ
  rcases pk_ix l1 (n := zA (m 1)) (by omega) with q | q | ⟨k, hk, rfl⟩
  · exact bey (Or.inl q)
  · exact bey (Or.inr q)
  · have hw : c 3 k = m 1 (6100 + k) := by
      by_cases hku : k < zU (m 1)
      · exact R.1.1.2.1.1 k hku
      · rw [R.1.2.1.1.2.2.1 k (by omega) hk]; exact R.1.1.2.1.2 k (by omega) (by omega)
    refine ⟨m 1 (6100 + k), c, m, fun Q hQ => ?_, fun Q hQ => ?_, R⟩
    · unfold wX9_word
      rw [nI_clamp (by omega)]
      simp only [nI_pos (show k < 2 ^ 31 by omega), e0, forall_eq, nI_lt hk (show zA (m 1) < 2 ^ 31 by omega), vp_in_nI (show k < 4000 by omega) (show 4000 < 2 ^ 31 by decide), hw, true_implies, not_true_eq_false, false_implies, and_true, not_false_eq_true, true_and]; exact hQ
    · unfold wX10_word
      simp only [forall_eq]
      rw [a1, e_inN1 hk (by omega), show (6100 : Int32) + nI k = nI (6100 + k) from nI_add 6100 k, nI_clamp (by omega)]
      simp only [vp_in_nI (show 6100 + k < 26100 by omega) (show 26100 < 2 ^ 31 by decide), i32_10, true_implies, not_true_eq_false, false_implies, and_true, not_false_eq_true, true_and]; exact hQ
end SH

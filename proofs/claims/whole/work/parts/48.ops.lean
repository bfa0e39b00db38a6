/-! handles, and calls that ask about cells -/
def aRg (s : gS) (x : Int32) : Prop := x = -1 ∨ ∃ t : Nat, t < zM s ∧ x = nI t
def aGn (s : gS) (x : Int32) : Prop := x = -1 ∨ ∃ t : Nat, t < zM s ∧ x = nI t ∧ ¬ aLv s t
theorem aRg.cases {s : gS} {x : Int32} (h : aRg s x) : aGn s x ∨ ∃ t : Nat, t < zM s ∧ x = nI t ∧ aLv s t := by
  rcases h with h | ⟨t, ht, hx⟩
  · exact Or.inl (Or.inl h)
  · by_cases hl : aLv s t
    · exact Or.inr ⟨t, ht, hx, hl⟩
    · exact Or.inl (Or.inr ⟨t, ht, hx, hl⟩)
theorem aHv.rg {s : gS} {x : Int32} (h : aHv s x) : aRg s x := h.imp id (fun ⟨t, a, b, _⟩ => ⟨t, a, b⟩)
theorem aRg.tgt {s : gS} {x : Int32} (h : aRg s x) : aHv s x ∨ ∃ t : Nat, t < zM s ∧ x = nI t ∧ ¬ aLv s t := by
  rcases h with h | ⟨t, ht, hx⟩
  · exact Or.inl (Or.inl h)
  · by_cases hl : aLv s t
    · exact Or.inl (Or.inr ⟨t, ht, hx, hl⟩)
    · exact Or.inr ⟨t, ht, hx, hl⟩
/-- like Sim, but the reference answers a finding's number, and keeps what it got -/
def SimG (wx wm : (Int32 → gMem → Prop) → Prop) (R : gMem → gMem → Prop) : Prop := ∃ r f c' m', Di wx r c' ∧ Di wm f m' ∧ R c' m' ∧ (f = 0 ∧ m' 0 12 = r ∧ fdA r = 0 ∨ ∃ j : Nat, 1 ≤ j ∧ j ≤ 8 ∧ f = nI j ∧ r = (-10) - nI j)
theorem fdA_nI {n : Nat} (hn : n < 2 ^ 31) : fdA (nI n) = 0 := by
  unfold fdA
  rw [if_neg]
  intro q
  have h1 := Int32.le_iff_toInt_le.mp q.2
  rw [nI_toInt hn] at h1
  have e : (-11 : Int32).toInt = -11 := by decide
  omega
theorem fdA_m1 : fdA (-1) = 0 := by decide
theorem fdA_fl {j : Nat} (h1 : 1 ≤ j) (h2 : j ≤ 8) : fdA ((-10) - nI j) = nI j := by
  rcases (by omega : j = 1 ∨ j = 2 ∨ j = 3 ∨ j = 4 ∨ j = 5 ∨ j = 6 ∨ j = 7 ∨ j = 8) with rfl | rfl | rfl | rfl | rfl | rfl | rfl | rfl <;> decide
theorem fdA_hv {s : gS} {x : Int32} (hM : zM s ≤ 500) (h : aRg s x) : fdA x = 0 := by
  rcases h with rfl | ⟨t, ht, rfl⟩
  · exact fdA_m1
  · exact fdA_nI (by omega)
section OP
variable {T : Nat} {c m : gMem}
theorem pub_answer {wx wm : (Int32 → gMem → Prop) → Prop} (h : Sim wx wm (Rel T)) : Sim (fun Q => wx (fun r c => wX9_answer r c Q)) (fun Q => wm (fun r m => wX10_answers r m Q)) (Rel T) := by
  obtain ⟨r, c', m', h1, h2, h3⟩ := h
  exact ⟨r, _, _, fun Q hQ => h1 _ (by rw [x_answer]; exact hQ), fun Q hQ => h2 _ (by rw [e_answers]; exact hQ), h3.set5 _⟩
theorem pub_by {wx wm : (Int32 → gMem → Prop) → Prop} (h : SimG wx wm (Rel T)) : Sim (fun Q => wx (fun r c => wX9_answer r c Q)) (fun Q => wm (fun f m => wX10_by f m Q)) (Rel T) := by
  obtain ⟨r, f, c', m', h1, h2, h3, h4⟩ := h
  rcases h4 with ⟨rfl, hg, hf⟩ | ⟨j, j1, j2, rfl, rfl⟩
  · refine ⟨r, mp c' 0 5 0, mp m' 0 5 0, fun Q hQ => h1 _ (by rw [x_answer, hf]; exact hQ), fun Q hQ => h2 _ (by rw [e_by0, hg]; exact hQ), h3.set5 _⟩
  · refine ⟨_, mp c' 0 5 (nI j), mp m' 0 5 (nI j), fun Q hQ => h1 _ (by rw [x_answer, fdA_fl j1 j2]; exact hQ), fun Q hQ => h2 _ (by rw [e_byF (nI_nle (by omega) (by omega))]; exact hQ), h3.set5 _⟩
theorem Rel.mono {T' : Nat} (h : T ≤ T') (R : Rel T c m) : Rel T' c m := by
  have mo : ∀ {s : gS}, aSI T s → aSI T' s := fun q => ⟨⟨q.1.1, q.1.2.1, ⟨q.1.2.2.1.1, Nat.le_trans q.1.2.2.1.2 h⟩, q.1.2.2.2⟩, q.2⟩
  obtain ⟨⟨hr, hi⟩, h1, h2, h3, h4, h5, h6⟩ := R
  exact ⟨⟨hr, mo hi⟩, h1, h2, h3, h4, ⟨h5.1, h5.2.1, h5.2.2.imp id (fun q => ⟨q.1, q.2.1, mo q.2.2.1, q.2.2.2⟩)⟩, ⟨h6.1, h6.2.1, h6.2.2.imp id (fun q => ⟨q.1, q.2.1, mo q.2.2.1, q.2.2.2⟩)⟩⟩
theorem Rel.now {T' : Nat} {c' : gMem} {s' : gS} (R : Rel T c m) (hT : T ≤ T') (hr : aSR 1 c' s') (hi : aSI T' s') (hf : aFX c c') (hA : s' 0 = m 1 0) : Rel T' c' (mr m 1 s') := by
  have e1 : mr m 1 s' 1 = s' := mr_s
  refine ⟨⟨by rw [e1]; exact hr, by rw [e1]; exact hi⟩, aEx_cong (fun j => by rw [hf 0 (by omega)]) (fun i a b => hf i (by omega)) (by rw [hf 69 (by omega)]) (fun b hb => ?_) (fun j hj => by rw [mr_n (by decide)]) (mr_n (by decide)) (mr_n (by decide)) (by rw [e1]; exact hA) (R.mono hT).2⟩
  rw [hf 64 (by omega), mr_n (by decide)]
  exact R.2.2.2.2.1 b hb
theorem Rel.rg (R : Rel T c m) (x : Int32) : aRg (m 1) x ∨ ¬ x = -1 ∧ (x < 0 ∨ nI (zM (m 1)) ≤ x) := by
  rcases pk_ix x (n := zM (m 1)) (by have := R.made.2.1; omega) with q | q | ⟨j, hj, e⟩
  · by_cases h1 : x = -1
    · exact Or.inl (Or.inl h1)
    · exact Or.inr ⟨h1, Or.inl q⟩
  · refine Or.inr ⟨?_, Or.inr q⟩
    rintro rfl
    have h1 := Int32.le_iff_toInt_le.mp q
    rw [nI_toInt (by have := R.made.2.1; omega)] at h1
    have e : (-1 : Int32).toInt = -1 := by decide
    omega
  · exact Or.inl (Or.inr ⟨j, hj, e⟩)
theorem x_gone (R : Rel T c m) {x : Int32} (h : aGn (m 1) x) {Q : Int32 → gMem → Prop} : wX2_has x c Q = Q 0 c := by
  rcases h with rfl | ⟨t, ht, rfl, hl⟩
  · exact x_hasN
  · exact x_has0 R.made.2.2 R.made.2.1 ht (R.dead ht hl).2
theorem e_gone (R : Rel T c m) {x : Int32} (h : aGn (m 1) x) {Q : Int32 → gMem → Prop} : wX10_isGone x m Q = Q 1 m := by
  rcases h with rfl | ⟨t, ht, rfl, hl⟩
  · exact e_goneN
  · exact e_gone1 (by have := R.made.2.1; omega) (R.dead ht hl).1
theorem x_live (R : Rel T c m) {t : Nat} (ht : t < zM (m 1)) (hl : aLv (m 1) t) {Q : Int32 → gMem → Prop} : wX2_has (nI t) c Q = Q 1 c := by
  have f := R.cF ht hl
  obtain ⟨f1, f2, f3, f4, f5, f6, f7, f8, f9, f10, f11, f12, f13, f14, f15, f16⟩ := f
  exact x_has1 R.made.2.2 R.made.2.1 ht f11 (by omega)
theorem e_live (R : Rel T c m) {t : Nat} (ht : t < zM (m 1)) (hl : aLv (m 1) t) {Q : Int32 → gMem → Prop} : wX10_isGone (nI t) m Q = Q 0 m := e_gone0 (by have := R.made.2.1; omega) hl
theorem x_tgt1 (R : Rel T c m) {x : Int32} (h : aHv (m 1) x) {Q : Int32 → gMem → Prop} : wX0_isGoneTarget x c Q = Q 0 c := by
  unfold wX0_isGoneTarget
  rcases h with rfl | ⟨t, ht, rfl, hl⟩
  · simp
  · have hM := R.made.2.1
    simp only [nI_m1 (show t < 2 ^ 31 by omega), x_live R ht hl]
    simp
theorem x_tgt0 (R : Rel T c m) {t : Nat} (ht : t < zM (m 1)) (hl : ¬ aLv (m 1) t) {Q : Int32 → gMem → Prop} : wX0_isGoneTarget (nI t) c Q = Q 1 c := by
  unfold wX0_isGoneTarget
  have hM := R.made.2.1
  simp only [nI_m1 (show t < 2 ^ 31 by omega), x_gone R (Or.inr ⟨t, ht, rfl, hl⟩)]
  simp
theorem op_kind {l1 : Int32} (R : Rel T c m) : Sim (wX9_kind l1 c) (wX10_kind l1 m) (Rel T) := by
  rcases pk_ix l1 (n := zM (m 1)) (by have := R.made.2.1; omega) with q | q | ⟨h, hh, rfl⟩
  · exact ⟨-101, c, m, fun Q hQ => by unfold wX9_kind; rw [x_made0 R.made.2.2 (Or.inl q)]; simpa using hQ, fun Q hQ => by unfold wX10_kind; rw [e_made0 R.made.1 R.made.2.1 (Or.inl q)]; simpa using hQ, R⟩
  · exact ⟨-101, c, m, fun Q hQ => by unfold wX9_kind; rw [x_made0 R.made.2.2 (Or.inr q)]; simpa using hQ, fun Q hQ => by unfold wX10_kind; rw [e_made0 R.made.1 R.made.2.1 (Or.inr q)]; simpa using hQ, R⟩
  · by_cases hl : aLv (m 1) h
    · obtain ⟨f1, f2, f3, f4, f5, f6, f7, f8, f9, f10, f11, f12, f13, f14, f15, f16⟩ := R.cF hh hl
      refine ⟨nI (aKd (m 1) h), _, _, fun Q hQ => ?_, fun Q hQ => ?_, R.set5 (fdA (nI (aKd (m 1) h)))⟩
      · unfold wX9_kind wX9_kind_p48
        rw [x_made1 R.made.2.2 R.made.2.1 hh, x_live R hh hl, x_kindOf f1 f11 (by omega) f12 f3]
        simpa [x_answer, nI_clamp (show h < 2 ^ 31 by omega), vp_in_nI f1 (show 500 < 2 ^ 31 by decide)] using hQ
      · unfold wX10_kind wX10_kind_p35
        rw [e_made1 R.made.1 R.made.2.1 hh, e_live R hh hl, e_of1 f1, f2]
        simpa [e_answers] using hQ
    · refine ⟨-11, _, _, fun Q hQ => ?_, fun Q hQ => ?_, R.set5 (fdA (-11))⟩
      · unfold wX9_kind wX9_kind_p48
        rw [x_made1 R.made.2.2 R.made.2.1 hh, x_gone R (Or.inr ⟨h, hh, rfl, hl⟩)]
        simpa [x_answer] using hQ
      · unfold wX10_kind wX10_kind_p35
        rw [e_made1 R.made.1 R.made.2.1 hh, e_gone R (Or.inr ⟨h, hh, rfl, hl⟩), e_fails]
        simpa [e_answers] using hQ
theorem op_place {l1 : Int32} (R : Rel T c m) : Sim (wX9_place l1 c) (wX10_place l1 m) (Rel T) := by
  rcases pk_ix l1 (n := zM (m 1)) (by have := R.made.2.1; omega) with q | q | ⟨h, hh, rfl⟩
  · exact ⟨-101, c, m, fun Q hQ => by unfold wX9_place; rw [x_made0 R.made.2.2 (Or.inl q)]; simpa using hQ, fun Q hQ => by unfold wX10_place; rw [e_made0 R.made.1 R.made.2.1 (Or.inl q)]; simpa using hQ, R⟩
  · exact ⟨-101, c, m, fun Q hQ => by unfold wX9_place; rw [x_made0 R.made.2.2 (Or.inr q)]; simpa using hQ, fun Q hQ => by unfold wX10_place; rw [e_made0 R.made.1 R.made.2.1 (Or.inr q)]; simpa using hQ, R⟩
  · by_cases hl : aLv (m 1) h
    · obtain ⟨f1, f2, f3, f4, f5, f6, f7, f8, f9, f10, f11, f12, f13, f14, f15, f16⟩ := R.cF hh hl
      refine ⟨nI (aPl (m 1) h), _, _, fun Q hQ => ?_, fun Q hQ => ?_, R.set5 (fdA (nI (aPl (m 1) h)))⟩
      · unfold wX9_place wX9_place_p49
        rw [x_made1 R.made.2.2 R.made.2.1 hh, x_live R hh hl]
        simpa [x_answer, nI_clamp (show h < 2 ^ 31 by omega), vp_in_nI f1 (show 500 < 2 ^ 31 by decide), f11] using hQ
      · unfold wX10_place wX10_place_p35
        rw [e_made1 R.made.1 R.made.2.1 hh, e_live R hh hl, e_of2 f1, f4]
        simpa [e_answers] using hQ
    · refine ⟨-11, _, _, fun Q hQ => ?_, fun Q hQ => ?_, R.set5 (fdA (-11))⟩
      · unfold wX9_place wX9_place_p49
        rw [x_made1 R.made.2.2 R.made.2.1 hh, x_gone R (Or.inr ⟨h, hh, rfl, hl⟩)]
        simpa [x_answer] using hQ
      · unfold wX10_place wX10_place_p35
        rw [e_made1 R.made.1 R.made.2.1 hh, e_gone R (Or.inr ⟨h, hh, rfl, hl⟩), e_fails]
        simpa [e_answers] using hQ
theorem op_marked {l1 : Int32} (R : Rel T c m) : Sim (wX9_marked l1 c) (wX10_marked l1 m) (Rel T) := by
  rcases pk_ix l1 (n := zM (m 1)) (by have := R.made.2.1; omega) with q | q | ⟨h, hh, rfl⟩
  · exact ⟨-101, c, m, fun Q hQ => by unfold wX9_marked; rw [x_made0 R.made.2.2 (Or.inl q)]; simpa using hQ, fun Q hQ => by unfold wX10_marked; rw [e_made0 R.made.1 R.made.2.1 (Or.inl q)]; simpa using hQ, R⟩
  · exact ⟨-101, c, m, fun Q hQ => by unfold wX9_marked; rw [x_made0 R.made.2.2 (Or.inr q)]; simpa using hQ, fun Q hQ => by unfold wX10_marked; rw [e_made0 R.made.1 R.made.2.1 (Or.inr q)]; simpa using hQ, R⟩
  · by_cases hl : aLv (m 1) h
    · obtain ⟨f1, f2, f3, f4, f5, f6, f7, f8, f9, f10, f11, f12, f13, f14, f15, f16⟩ := R.cF hh hl
      refine ⟨m 1 (1105 + 10 * h), _, _, fun Q hQ => ?_, fun Q hQ => ?_, R.set5 (fdA (m 1 (1105 + 10 * h)))⟩
      · unfold wX9_marked wX9_marked_p49
        rw [x_made1 R.made.2.2 R.made.2.1 hh, x_live R hh hl]
        simpa [x_answer, nI_clamp (show h < 2 ^ 31 by omega), vp_in_nI f1 (show 500 < 2 ^ 31 by decide), show c 8 h = m 1 (1105 + 10 * h) from R.1.1.2.2.2.2.2.1.1 h hh] using hQ
      · unfold wX10_marked wX10_marked_p35
        rw [e_made1 R.made.1 R.made.2.1 hh, e_live R hh hl, e_of5 f1]
        simpa [e_answers] using hQ
    · refine ⟨-11, _, _, fun Q hQ => ?_, fun Q hQ => ?_, R.set5 (fdA (-11))⟩
      · unfold wX9_marked wX9_marked_p49
        rw [x_made1 R.made.2.2 R.made.2.1 hh, x_gone R (Or.inr ⟨h, hh, rfl, hl⟩)]
        simpa [x_answer] using hQ
      · unfold wX10_marked wX10_marked_p35
        rw [e_made1 R.made.1 R.made.2.1 hh, e_gone R (Or.inr ⟨h, hh, rfl, hl⟩), e_fails]
        simpa [e_answers] using hQ
theorem op_moved {l1 : Int32} (R : Rel T c m) : Sim (wX9_moved l1 c) (wX10_moved l1 m) (Rel T) := by
  rcases pk_ix l1 (n := zM (m 1)) (by have := R.made.2.1; omega) with q | q | ⟨h, hh, rfl⟩
  · exact ⟨-101, c, m, fun Q hQ => by unfold wX9_moved; rw [x_made0 R.made.2.2 (Or.inl q)]; simpa using hQ, fun Q hQ => by unfold wX10_moved; rw [e_made0 R.made.1 R.made.2.1 (Or.inl q)]; simpa using hQ, R⟩
  · exact ⟨-101, c, m, fun Q hQ => by unfold wX9_moved; rw [x_made0 R.made.2.2 (Or.inr q)]; simpa using hQ, fun Q hQ => by unfold wX10_moved; rw [e_made0 R.made.1 R.made.2.1 (Or.inr q)]; simpa using hQ, R⟩
  · by_cases hl : aLv (m 1) h
    · obtain ⟨f1, f2, f3, f4, f5, f6, f7, f8, f9, f10, f11, f12, f13, f14, f15, f16⟩ := R.cF hh hl
      refine ⟨m 1 (1104 + 10 * h), _, _, fun Q hQ => ?_, fun Q hQ => ?_, R.set5 (fdA (m 1 (1104 + 10 * h)))⟩
      · unfold wX9_moved wX9_moved_p49
        rw [x_made1 R.made.2.2 R.made.2.1 hh, x_live R hh hl]
        simpa [x_answer, nI_clamp (show h < 2 ^ 31 by omega), vp_in_nI f1 (show 500 < 2 ^ 31 by decide), show c 5 h = m 1 (1104 + 10 * h) from ((R.1.1.2.2.1 h hh).1 hl).2] using hQ
      · unfold wX10_moved wX10_moved_p35
        rw [e_made1 R.made.1 R.made.2.1 hh, e_live R hh hl, e_of4 f1]
        simpa [e_answers] using hQ
    · refine ⟨-11, _, _, fun Q hQ => ?_, fun Q hQ => ?_, R.set5 (fdA (-11))⟩
      · unfold wX9_moved wX9_moved_p49
        rw [x_made1 R.made.2.2 R.made.2.1 hh, x_gone R (Or.inr ⟨h, hh, rfl, hl⟩)]
        simpa [x_answer] using hQ
      · unfold wX10_moved wX10_moved_p35
        rw [e_made1 R.made.1 R.made.2.1 hh, e_gone R (Or.inr ⟨h, hh, rfl, hl⟩), e_fails]
        simpa [e_answers] using hQ
end OP

/-! what the roots reach -/
theorem nd_len {n : Nat} {l : List Nat} (h : l.Nodup) (hl : ∀ x ∈ l, x < n) : l.length ≤ n := by
  have h2 := sumN_list (f := fun _ => 1) (n := n) l h hl
  have h3 : ∀ l : List Nat, (l.map (fun _ => 1)).sum = l.length := by
    intro l
    induction l with
    | nil => rfl
    | cons a l ih => simp [ih]; omega
  have h4 : sumN (fun h => if h ∈ l then 1 else 0) n ≤ sumN (fun _ => 1) n := sumN_le n (fun h _ => by split <;> omega)
  have h5 : ∀ n, sumN (fun _ => 1) n = n := by
    intro n
    induction n with
    | zero => rfl
    | succ n ih => show sumN (fun _ => 1) n + 1 = n + 1; rw [ih]
  rw [h2, h3, h5] at h4
  exact h4
def rcR (s : gS) (c0 m0 : gMem) (l : List Nat) (c m : gMem) : Prop :=
  (∀ i, i ≠ 65 → i ≠ 67 → i ≠ 68 → c i = c0 i) ∧ (∀ i, i ≠ 6 → i ≠ 7 → m i = m0 i) ∧ c 65 8 = nI l.length ∧ (∀ k, k < l.length → c 68 k = nI (l.getD k 0) ∧ m 6 k = nI (l.getD k 0)) ∧ (∀ h, h < 500 → c 67 h = (if h ∈ l then 1 else 0) ∧ m 7 h = (if h ∈ l then 1 else 0)) ∧ glL s l ∧ l.Nodup
section RE
variable {T : Nat} {c0 m0 c m : gMem} {l : List Nat} {x : Int32}
theorem Rel.ends2 {T' : Nat} {c' m' : gMem} (R : Rel T c m) (hT : T ≤ T') (hr : aSR 1 c' (m' 1)) (hi : aSI T' (m' 1)) (h64 : ∀ b, b < 14 → c' 64 b = m' 4 b) (m10 : m' 1 0 = m 1 0) (mi : ∀ i, i = 0 ∨ i = 2 ∨ i = 3 → m' i = m i) (ci : ∀ i, i = 0 ∨ 22 ≤ i ∧ i < 64 ∨ i = 69 → c' i = c i) : Rel T' c' m' :=
  ⟨⟨hr, hi⟩, aEx_cong (fun j => by rw [ci 0 (by omega)]) (fun i a b => ci i (by omega)) (by rw [ci 69 (by omega)]) h64 (fun j hj => by rw [mi 0 (by omega)]) (mi 2 (by omega)) (mi 3 (by omega)) m10 (R.mono hT).2⟩
theorem rcR.len (R : Rel T c0 m0) (h : rcR (m0 1) c0 m0 l c m) : l.length ≤ zM (m0 1) := nd_len h.2.2.2.2.2.2 (fun x hx => (h.2.2.2.2.2.1 x hx).1)
theorem sim_visit (R : Rel T c0 m0) (h : rcR (m0 1) c0 m0 l c m) (hx : aHv (m0 1) x) : ∃ c' m', Dv (wX7_reach x c) c' ∧ Di (wX10_comes x (nI l.length) m) (nI (visit l x).length) m' ∧ rcR (m0 1) c0 m0 (visit l x) c' m' := by
  have hlen := h.len R
  obtain ⟨h1, h2, h3, h4, h5, h6, h7⟩ := id h
  have hM := R.made.2.1
  rcases hx with rfl | ⟨t, ht, rfl, hl⟩
  · have e : visit l (-1) = l := by unfold visit; rw [if_pos rfl]
    rw [e]
    refine ⟨c, m, fun Q hQ => ?_, fun Q hQ => ?_, h⟩
    · unfold wX7_reach
      rw [x_hasN]
      simp only [true_implies, not_true_eq_false, false_implies, and_true]; exact hQ
    · unfold wX10_comes
      simp only [true_implies, not_true_eq_false, false_implies, and_true]; exact hQ
  · have ne : ¬ nI t = -1 := nI_m1 (by omega)
    obtain ⟨f1, f2, f3, f4, f5, f6, f7, f8, f9, f10, f11, -⟩ := R.cF ht hl
    have d22 : c 2 2 = nI (zM (m0 1)) := by rw [h1 2 (by decide) (by decide) (by decide)]; exact R.made.2.2
    have d4 : c 4 t = nI (aPl (m0 1) t) := by rw [h1 4 (by decide) (by decide) (by decide)]; exact f11
    have hsz := (szN_ge (n := aMn (m0 1) t) f3).2
    have hsz2 : aSz (m0 1) t = szN (aKd (m0 1) t) (aMn (m0 1) t) := rfl
    have hhas : ∀ Q : Int32 → gMem → Prop, wX2_has (nI t) c Q = Q 1 c := fun Q => x_has1 d22 hM ht d4 (by omega)
    by_cases hm : t ∈ l
    · have e : visit l (nI t) = l := by unfold visit; rw [if_neg ne, nI_clamp (by omega), if_pos hm]
      rw [e]
      refine ⟨c, m, fun Q hQ => ?_, fun Q hQ => ?_, h⟩
      · unfold wX7_reach
        rw [hhas]
        simp only [i32_10, true_implies, not_false_eq_true, false_implies, true_and]
        rw [nI_clamp (by omega)]
        refine ⟨vp_in_nI (by omega) (by decide), ?_⟩
        simp only [forall_eq, (h5 t (by omega)).1, if_pos hm, i32_10, true_implies, not_false_eq_true, false_implies, true_and]; exact hQ
      · unfold wX10_comes
        simp only [ne, true_implies, not_false_eq_true, false_implies, true_and]
        rw [nI_clamp (by omega)]
        refine ⟨vp_in_nI (by omega) (by decide), ?_⟩
        simp only [forall_eq, (h5 t (by omega)).2, if_pos hm, i32_10, true_implies, not_false_eq_true, false_implies, true_and]; exact hQ
    · have e : visit l (nI t) = l ++ [t] := by unfold visit; rw [if_neg ne, nI_clamp (by omega), if_neg hm]
      rw [e]
      have hnd : (l ++ [t]).Nodup := by
        rw [List.nodup_append]
        exact ⟨h7, by simp, fun a ha b hb => by rw [List.mem_singleton.mp hb]; rintro rfl; exact hm ha⟩
      have hgl : glL (m0 1) (l ++ [t]) := by
        intro h hh
        rcases List.mem_append.mp hh with q | q
        · exact h6 h q
        · rw [List.mem_singleton.mp q]; exact ⟨ht, hl⟩
      have hl5 := nd_len hnd (fun x hx => (hgl x hx).1)
      rw [List.length_append, List.length_singleton] at hl5
      have gd : ∀ k, k < (l ++ [t]).length → (l ++ [t]).getD k 0 = if k = l.length then t else l.getD k 0 := by
        intro k hk
        rw [List.length_append, List.length_singleton] at hk
        by_cases q : k = l.length
        · subst q; rw [if_pos rfl, List.getD_eq_getElem?_getD, List.getElem?_append_right (Nat.le_refl _), Nat.sub_self]; rfl
        · rw [if_neg q, List.getD_eq_getElem?_getD, List.getD_eq_getElem?_getD, List.getElem?_append_left (by omega)]
      refine ⟨mp (mp (mp c 67 t 1) 68 l.length (nI t)) 65 8 (nI (l.length + 1)), mp (mp m 7 t 1) 6 l.length (nI t), fun Q hQ => ?_, fun Q hQ => ?_, fun i i1 i2 i3 => ?_, fun i i1 i2 => ?_, ?_, fun k hk => ?_, fun g hg => ?_, hgl, hnd⟩
      · unfold wX7_reach
        rw [hhas]
        simp only [i32_10, true_implies, not_false_eq_true, false_implies, true_and]
        rw [nI_clamp (by omega)]
        refine ⟨vp_in_nI (by omega) (by decide), ?_⟩
        simp only [forall_eq, (h5 t (by omega)).1, if_neg hm, true_implies, not_true_eq_false, false_implies, and_true, mp_n (show (65 : Nat) ≠ 67 by decide), mp_n (show (65 : Nat) ≠ 68 by decide), h3]
        rw [nI_clamp (by omega), nI_1]
        exact ⟨vp_in_nI (by omega) (by decide), vp_in_nI (by omega) (by decide), hQ⟩
      · unfold wX10_comes
        simp only [ne, true_implies, not_false_eq_true, false_implies, true_and]
        rw [nI_clamp (by omega)]
        refine ⟨vp_in_nI (by omega) (by decide), ?_⟩
        simp only [forall_eq, (h5 t (by omega)).2, if_neg hm, true_implies, not_true_eq_false, false_implies, and_true]
        rw [nI_clamp (by omega), nI_1]
        rw [List.length_append, List.length_singleton] at hQ
        exact ⟨vp_in_nI (by omega) (by decide), vp_in_nI (by omega) (by decide), hQ⟩
      · rw [mp_n i1, mp_n i3, mp_n i2]; exact h1 i i1 i2 i3
      · rw [mp_n i1, mp_n i2]; exact h2 i i1 i2
      · rw [mp_s, up_s, List.length_append]; rfl
      · rw [gd k hk, mp_n (by decide), mp_s, mp_s, mp_n (by decide), mp_n (by decide)]
        by_cases q : k = l.length
        · subst q; rw [if_pos rfl, up_s, up_s]; exact ⟨rfl, rfl⟩
        · rw [if_neg q, up_n q, up_n q]
          rw [List.length_append, List.length_singleton] at hk
          exact h4 k (by omega)
      · rw [mp_n (by decide), mp_n (by decide), mp_s, mp_n (by decide), mp_s]
        by_cases q : g = t
        · subst q; rw [up_s, up_s, if_pos (by simp)]; exact ⟨rfl, rfl⟩
        · rw [up_n q, up_n q]
          have : g ∈ l ++ [t] ↔ g ∈ l := by simp [q]
          simp only [this]; exact h5 g hg
theorem visit_get {k h : Nat} (hk : l[k]? = some h) : (visit l x)[k]? = some h := by
  unfold visit
  split
  · exact hk
  · split
    · exact hk
    · have := List.getElem?_eq_some_iff.mp hk
      obtain ⟨q, -⟩ := this
      rw [List.getElem?_append_left q]; exact hk
theorem visit_take {k : Nat} (hk : k ≤ l.length) : (visit l x).take k = l.take k := by
  unfold visit
  split
  · rfl
  · split
    · rfl
    · rw [List.take_append_of_le_length hk]
theorem visit_len : l.length ≤ (visit l x).length := by
  unfold visit
  split
  · exact Nat.le_refl _
  · split
    · exact Nat.le_refl _
    · rw [List.length_append]; omega
theorem re_inner {h at_ : Nat} {a1 : Int32} {y : Int32} (R : Rel T c0 m0) (hh : h < zM (m0 1)) (hl : aLv (m0 1) h) : ∀ (d i : Nat) (l : List Nat) (c m : gMem), i + d = aLk (m0 1) h → l[at_]? = some h → rcR (m0 1) c0 m0 l c m → ∃ l' c' m', (∀ (P44 : Int32 → Int32 → gMem → Prop) (Q : Int32 → gMem → Prop), wX7_reachedInts_p82 P44 a1 (nI at_) (nI h) (nI (aLk (m0 1) h)) (nI (aPl (m0 1) h + aLo (m0 1) h)) (nI (aLk (m0 1) h)) c' Q → wX7_reachedInts_p82 P44 a1 (nI at_) (nI h) (nI (aLk (m0 1) h)) (nI (aPl (m0 1) h + aLo (m0 1) h)) (nI i) c Q) ∧ (∀ (P57 : Int32 → Int32 → Int32 → gMem → Prop) (Q : Int32 → gMem → Prop), wX10_reached_p90 P57 (nI l'.length) y (nI at_) (nI h) (nI (aLk (m0 1) h)) (nI (aLk (m0 1) h)) m' Q → wX10_reached_p90 P57 (nI l.length) y (nI at_) (nI h) (nI (aLk (m0 1) h)) (nI i) m Q) ∧ rcR (m0 1) c0 m0 l' c' m' ∧ l'[at_]? = some h ∧ bit (m0 1) d (l, at_, i) = (l', at_, aLk (m0 1) h) ∧ l'.take at_ = l.take at_ := by
  intro d
  induction d with
  | zero =>
    intro i l c m hi hg hr
    have : i = aLk (m0 1) h := by omega
    subst this
    exact ⟨l, c, m, fun _ _ q => q, fun _ _ q => q, hr, hg, rfl, rfl⟩
  | succ d ih =>
    intro i l c m hi hg hr
    have hp := R.1.2.1.1
    have hM := R.made.2.1
    have hil : i < aLk (m0 1) h := by omega
    obtain ⟨f1, f2, f3, f4, f5, f6, f7, f8, f9, f10, f11, -⟩ := R.cF hh hl
    obtain ⟨n1, n2, n3⟩ := aLn_in hp.1 hp.2.1 hh hl hil
    have hlk : aLk (m0 1) h ≤ 600 := by
      have : lkN (aKd (m0 1) h) (aMn (m0 1) h) ≤ 600 := by
        unfold lkN
        repeat' split
        all_goals omega
      exact this
    obtain ⟨c1, m1, X1, M1, R1⟩ := sim_visit R hr ((hp.2.2.2.1 h hh hl).1 i hil)
    obtain ⟨l', c', m', X2, M2, R2, g2, b2, t2⟩ := ih (i + 1) (visit l (aLn (m0 1) h i)) c1 m1 (by omega) (visit_get hg) R1
    have hat : at_ < l.length := (List.getElem?_eq_some_iff.mp hg).1
    refine ⟨l', c', m', fun P44 Q hQ P hP => hP _ _ _ _ _ _ _ ?_, fun P57 Q hQ P hP => hP _ _ _ _ _ _ _ ?_, R2, g2, ?_, ?_⟩
    · unfold wX7_reachedInts_p82_b
      simp only [nI_ge hil (show aLk (m0 1) h < 2 ^ 31 by omega), true_implies, not_false_eq_true, false_implies, true_and, forall_eq]
      rw [nI_add, nI_clamp (by omega)]
      refine ⟨vp_in_nI (by omega) (by decide), ?_⟩
      have : c 3 (aPl (m0 1) h + aLo (m0 1) h + i) = aLn (m0 1) h i := by
        rw [hr.1 3 (by decide) (by decide) (by decide), R.1.1.2.1.1 _ n1]
        unfold aLn
        congr 1; omega
      rw [this]
      refine X1 _ ?_
      rw [nI_1]; exact X2 P44 Q hQ P hP
    · unfold wX10_reached_p90_b
      simp only [nI_ge hil (show aLk (m0 1) h < 2 ^ 31 by omega), true_implies, not_false_eq_true, false_implies, true_and]
      have em : m 1 = m0 1 := hr.2.1 1 (by decide) (by decide)
      rw [e_linkAt (by omega) (by rw [em]; exact f2) f3 (by rw [em]; exact f4)]
      have hlo : loN (aKd (m0 1) h) = aLo (m0 1) h := rfl
      rw [hlo, nI_clamp (by omega)]
      refine ⟨vp_in_nI (by omega) (by decide), ?_⟩
      simp only [forall_eq]
      have : m 1 (6100 + aPl (m0 1) h + aLo (m0 1) h + i) = aLn (m0 1) h i := by rw [em]; rfl
      rw [this]
      refine M1 _ ?_
      rw [nI_1]; exact M2 P57 Q hQ P hP
    · show bit (m0 1) d (bstep (m0 1) (l, at_, i)) = _
      have : bstep (m0 1) (l, at_, i) = (visit l (aLn (m0 1) h i), at_, i + 1) := by
        unfold bstep
        simp only [hg]
        rw [if_pos hil]
      rw [this]; exact b2
    · rw [t2]; exact visit_take (by omega)
theorem bit_one {s : gS} {q : List Nat × Nat × Nat} : bit s 1 q = bstep s q := rfl
theorem take_succ' {l : List Nat} {k h : Nat} (hk : l[k]? = some h) : l.take (k + 1) = l.take k ++ [h] := by
  rw [List.take_succ, hk]; rfl
theorem re_outer (R : Rel T c0 m0) : ∀ (d at_ : Nat) (l : List Nat) (c m : gMem), zM (m0 1) - at_ = d → at_ ≤ l.length → rcR (m0 1) c0 m0 l c m → ∃ l' c' m' k, Di (wX7_reachedInts_p44 (nI ((l.take at_).map (aSz (m0 1))).sum) (nI at_) c) (nI (l'.map (aSz (m0 1))).sum) c' ∧ Di (wX10_reached_p57 (nI l.length) (nI ((l.take at_).map (aSz (m0 1))).sum) (nI at_) m) (nI (l'.map (aSz (m0 1))).sum) m' ∧ rcR (m0 1) c0 m0 l' c' m' ∧ bit (m0 1) k (l, at_, 0) = (l', l'.length, 0) := by
  intro d
  induction d with
  | zero =>
    intro at_ l c m hd hat hr
    have hlen := hr.len R
    have e : at_ = l.length := by omega
    subst e
    rw [List.take_length]
    have hM := R.made.2.1
    refine ⟨l, c, m, 0, fun Q hQ P hP => hP _ _ _ ?_, fun Q hQ P hP => hP _ _ _ _ ?_, hr, rfl⟩
    · unfold wX7_reachedInts_p44_b
      simp only [forall_eq, hr.2.2.1, Int32.le_refl, true_implies, not_true_eq_false, false_implies, and_true]; exact hQ
    · unfold wX10_reached_p57_b
      simp only [Int32.le_refl, true_implies, not_true_eq_false, false_implies, and_true]; exact hQ
  | succ d ih =>
    intro at_ l c m hd hat hr
    have hlen := hr.len R
    have hM := R.made.2.1
    by_cases e : at_ = l.length
    · subst e
      rw [List.take_length]
      refine ⟨l, c, m, 0, fun Q hQ P hP => hP _ _ _ ?_, fun Q hQ P hP => hP _ _ _ _ ?_, hr, rfl⟩
      · unfold wX7_reachedInts_p44_b
        simp only [forall_eq, hr.2.2.1, Int32.le_refl, true_implies, not_true_eq_false, false_implies, and_true]; exact hQ
      · unfold wX10_reached_p57_b
        simp only [Int32.le_refl, true_implies, not_true_eq_false, false_implies, and_true]; exact hQ
    · have hlt : at_ < l.length := by omega
      obtain ⟨h, hg⟩ : ∃ h, l[at_]? = some h := ⟨l[at_], List.getElem?_eq_getElem hlt⟩
      have hgd : l.getD at_ 0 = h := by rw [List.getD_eq_getElem?_getD, hg]; rfl
      obtain ⟨hh, hl⟩ := hr.2.2.2.2.2.1 h (List.mem_of_getElem? hg)
      obtain ⟨f1, f2, f3, f4, f5, f6, f7, f8, f9, f10, f11, f12, f13, f14, f15, f16⟩ := R.cF hh hl
      have hp := R.1.2.1.1
      have em : m 1 = m0 1 := hr.2.1 1 (by decide) (by decide)
      have hsz2 := (szN_ge (n := aMn (m0 1) h) f3).2
      have hsze : aSz (m0 1) h = szN (aKd (m0 1) h) (aMn (m0 1) h) := rfl
      have d4 : ∀ c' : gMem, (∀ i, i ≠ 65 → i ≠ 67 → i ≠ 68 → c' i = c0 i) → c' 4 h = nI (aPl (m0 1) h) ∧ c' 3 (aPl (m0 1) h) = nI (8 * h + aKd (m0 1) h) ∧ (aMany (aKd (m0 1) h) → c' 3 (aPl (m0 1) h + 1) = nI (aMn (m0 1) h)) := fun c' hc => by
        rw [hc 4 (by decide) (by decide) (by decide), hc 3 (by decide) (by decide) (by decide)]
        refine ⟨f11, ?_, fun q => ?_⟩
        · rw [← f7]; exact R.1.1.2.1.1 _ (by omega)
        · rw [← f8 q]; exact R.1.1.2.1.1 _ (by omega)
      obtain ⟨p1, p2, p3⟩ := d4 c hr.1
      obtain ⟨l1, c1, m1, X1, M1, R1, g1, b1, t1⟩ := re_inner (at_ := at_) (a1 := nI ((l.take at_).map (aSz (m0 1))).sum) (y := nI (((l.take at_).map (aSz (m0 1))).sum + aSz (m0 1) h)) R hh hl (aLk (m0 1) h) 0 l c m (by omega) hg hr
      have hl1 : at_ < l1.length := (List.getElem?_eq_some_iff.mp g1).1
      obtain ⟨q1, q2, q3⟩ := d4 c1 R1.1
      have hsum : ((l1.take (at_ + 1)).map (aSz (m0 1))).sum = ((l.take at_).map (aSz (m0 1))).sum + aSz (m0 1) h := by
        rw [take_succ' g1, t1, List.map_append, List.sum_append]; simp
      obtain ⟨l', c', m', k, X2, M2, R2, b2⟩ := ih (at_ + 1) l1 c1 m1 (by omega) (by omega) R1
      rw [hsum] at X2 M2
      refine ⟨l', c', m', aLk (m0 1) h + (1 + k), fun Q hQ P hP => hP _ _ _ ?_, fun Q hQ P hP => hP _ _ _ _ ?_, R2, ?_⟩
      · unfold wX7_reachedInts_p44_b
        simp only [forall_eq, hr.2.2.1, nI_ge hlt (show l.length < 2 ^ 31 by omega), true_implies, not_false_eq_true, false_implies, true_and]
        rw [nI_clamp (by omega), (hr.2.2.2.1 at_ hlt).1, hgd]
        refine ⟨vp_in_nI (by omega) (by decide), ?_⟩
        rw [x_linksOf (by omega) p1 (by omega) p2 f3 (fun q => p3 (by unfold aMany; omega)), x_linkPlace (by omega) p1 (by omega) p2 f3]
        refine X1 P Q (fun P' hP' => hP' _ _ _ _ _ _ _ ?_)
        unfold wX7_reachedInts_p82_b
        simp only [Int32.le_refl, true_implies, not_true_eq_false, false_implies, and_true]
        rw [x_intsOf (by omega) q1 (by omega) q2 f3 q3 f6, nI_add, nI_1]
        exact X2 Q hQ P hP
      · unfold wX10_reached_p57_b
        simp only [forall_eq, nI_ge hlt (show l.length < 2 ^ 31 by omega), true_implies, not_false_eq_true, false_implies, true_and]
        rw [nI_clamp (by omega), (hr.2.2.2.1 at_ hlt).2, hgd]
        refine ⟨vp_in_nI (by omega) (by decide), ?_⟩
        rw [e_sizeAt (by omega) (by rw [em]; exact f2) f3 (by rw [em]; exact f5) f6, e_linksOf (by omega) (by rw [em]; exact f2) f3 (by rw [em]; exact f5), nI_add]
        refine M1 P Q (fun P' hP' => hP' _ _ _ _ _ _ _ ?_)
        unfold wX10_reached_p90_b
        simp only [Int32.le_refl, true_implies, not_true_eq_false, false_implies, and_true]
        rw [nI_1]
        exact M2 Q hQ P hP
      · rw [bit_add, b1, bit_add, bit_one]
        have : bstep (m0 1) (l1, at_, aLk (m0 1) h) = (l1, at_ + 1, 0) := by
          unfold bstep
          simp only [g1]
          rw [if_neg (by omega)]
        rw [this]; exact b2
theorem re_roots (R : Rel T c0 m0) : ∀ (d r : Nat) (l : List Nat) (c m : gMem), r + d = 24 → rcR (m0 1) c0 m0 l c m → ∃ c' m', (∀ Q, wX7_reachedInts_p44 0 0 c' Q → wX7_reachedInts_p15 (nI r) c Q) ∧ (∀ Q, wX10_reached_p57 (nI (rtV (m0 1) r d l).length) 0 0 m' Q → wX10_reached_p26 (nI l.length) (nI r) m Q) ∧ rcR (m0 1) c0 m0 (rtV (m0 1) r d l) c' m' := by
  intro d
  induction d with
  | zero =>
    intro r l c m hr h
    have : r = 24 := by omega
    subst this
    refine ⟨c, m, fun Q hQ P hP => hP _ _ ?_, fun Q hQ P hP => hP _ _ _ ?_, h⟩
    · unfold wX7_reachedInts_p15_b
      simp only [show (24 : Int32) ≤ nI 24 by decide, true_implies, not_true_eq_false, false_implies, and_true]; exact hQ
    · unfold wX10_reached_p26_b
      simp only [show (24 : Int32) ≤ nI 24 by decide, true_implies, not_true_eq_false, false_implies, and_true]; exact hQ
  | succ d ih =>
    intro r l c m hr h
    have hx := R.1.2.1.1.2.2.2.2.1 r (by omega)
    obtain ⟨c1, m1, X1, M1, R1⟩ := sim_visit R h hx
    obtain ⟨c2, m2, X2, M2, R2⟩ := ih (r + 1) _ c1 m1 (by omega) R1
    refine ⟨c2, m2, fun Q hQ P hP => hP _ _ ?_, fun Q hQ P hP => hP _ _ _ ?_, R2⟩
    · unfold wX7_reachedInts_p15_b
      simp only [show ¬ (24 : Int32) ≤ nI r from nI_ge (b := 24) (by omega) (by decide), true_implies, not_false_eq_true, false_implies, true_and, forall_eq]
      rw [nI_clamp (by omega)]
      refine ⟨vp_in_nI (by omega) (by decide), ?_⟩
      have : c 20 r = m0 1 (20 + r) := by rw [h.1 20 (by decide) (by decide) (by decide)]; exact R.1.1.2.2.2.2.2.2.2.2.2.1 r (by omega)
      rw [this]
      refine X1 _ ?_
      rw [nI_1]; exact X2 Q hQ P hP
    · unfold wX10_reached_p26_b
      simp only [show ¬ (24 : Int32) ≤ nI r from nI_ge (b := 24) (by omega) (by decide), true_implies, not_false_eq_true, false_implies, true_and, forall_eq]
      rw [show (20 : Int32) + nI r = nI (20 + r) from nI_add 20 _, nI_clamp (by omega)]
      refine ⟨vp_in_nI (by omega) (by decide), ?_⟩
      rw [h.2.1 1 (by decide) (by decide)]
      refine M1 _ ?_
      rw [nI_1]; exact M2 Q hQ P hP
theorem e_clear7 : ∀ (d k : Nat) (m : gMem), k + d = 500 → ∃ m', (∀ Q, wX10_reached_p26 0 0 m' Q → wX10_reached_p2 (nI k) m Q) ∧ (∀ i, i ≠ 7 → m' i = m i) ∧ ∀ h, m' 7 h = if k ≤ h ∧ h < 500 then 0 else m 7 h := by
  intro d
  induction d with
  | zero =>
    intro k m hk
    have : k = 500 := by omega
    subst this
    refine ⟨m, fun Q hQ P hP => hP _ _ ?_, fun _ _ => rfl, fun h => by rw [if_neg (by omega)]⟩
    unfold wX10_reached_p2_b
    simp only [show (500 : Int32) ≤ nI 500 by decide, true_implies, not_true_eq_false, false_implies, and_true]; exact hQ
  | succ d ih =>
    intro k m hk
    obtain ⟨m', M, h1, h2⟩ := ih (k + 1) (mp m 7 k 0) (by omega)
    refine ⟨m', fun Q hQ P hP => hP _ _ ?_, fun i hi => by rw [h1 i hi, mp_n hi], fun h => ?_⟩
    · unfold wX10_reached_p2_b
      simp only [show ¬ (500 : Int32) ≤ nI k from nI_ge (b := 500) (by omega) (by decide), true_implies, not_false_eq_true, false_implies, true_and, forall_eq]
      rw [nI_clamp (by omega), nI_1]
      exact ⟨vp_in_nI (by omega) (by decide), M Q hQ P hP⟩
    · rw [h2, mp_s]
      by_cases e : k + 1 ≤ h ∧ h < 500
      · rw [if_pos e, if_pos (show k ≤ h ∧ h < 500 by omega)]
      · rw [if_neg e]
        by_cases e2 : h = k
        · subst e2; rw [up_s, if_pos (by omega)]
        · rw [up_n e2, if_neg (by omega)]
theorem sum_le {s : gS} (hp : aHp s) {l : List Nat} (hg : glL s l) (hn : l.Nodup) : (l.map (aSz s)).sum ≤ zU s := by
  have h2 := sumN_list (f := aSz s) (n := zM s) l hn (fun x hx => (hg x hx).1)
  rw [← h2, hp.1.2.2.2.2.2.2.1, aPs_sum]
  refine sumN_le _ (fun h hh => ?_)
  by_cases q : h ∈ l
  · rw [if_pos q, if_pos (hg h q).2]; exact Nat.le_refl _
  · rw [if_neg q]; exact Nat.zero_le _
/-- what a whole cycle begun now would keep: its ints -/
theorem sim_reached (R : Rel T c0 m0) : ∃ c' m' l k, Di (wX7_reachedInts c0) (nI (l.map (aSz (m0 1))).sum) c' ∧ Di (wX10_reached m0) (nI (l.map (aSz (m0 1))).sum) m' ∧ Rel T c' m' ∧ m' 1 = m0 1 ∧ m' 0 = m0 0 ∧ bit (m0 1) k (rtV (m0 1) 0 24 [], 0, 0) = (l, l.length, 0) ∧ glL (m0 1) l ∧ l.Nodup := by
  obtain ⟨mz, MZ, z1, z2⟩ := e_clear7 500 0 m0 (by omega)
  have R0 : rcR (m0 1) c0 m0 [] (mp (mr c0 67 (fun _ => 0)) 65 8 0) mz := by
    refine ⟨fun i i1 i2 i3 => by rw [mp_n i1, mr_n i2], fun i i1 i2 => z1 i i2, by rw [mp_s, up_s]; rfl, fun k hk => absurd hk (Nat.not_lt_zero _), fun h hh => ?_, fun h hh => absurd hh List.not_mem_nil, List.nodup_nil⟩
    rw [mp_n (by decide), mr_s, z2, if_pos (show 0 ≤ h ∧ h < 500 by omega), if_neg List.not_mem_nil]; exact ⟨rfl, rfl⟩
  obtain ⟨c1, m1, X1, M1, R1⟩ := re_roots R 24 0 [] _ _ (by omega) R0
  obtain ⟨l, c2, m2, k, X2, M2, R2, b2⟩ := re_outer R _ 0 (rtV (m0 1) 0 24 []) c1 m1 rfl (Nat.zero_le _) R1
  obtain ⟨h1, h2, h3, h4, h5, h6, h7⟩ := id R2
  refine ⟨c2, m2, l, k, fun Q hQ => ?_, fun Q hQ => ?_, ?_, h2 1 (by decide) (by decide), h2 0 (by decide) (by decide), b2, h6, h7⟩
  · unfold wX7_reachedInts
    simp only [forall_eq]
    exact X1 Q (X2 Q hQ)
  · unfold wX10_reached
    exact MZ Q (M1 Q (M2 Q hQ))
  · exact R.ends2 (Nat.le_refl _) (by rw [h2 1 (by decide) (by decide)]; exact aSR_cong (fun i a b => h1 i (by omega) (by omega) (by omega)) R.1.1) (by rw [h2 1 (by decide) (by decide)]; exact R.1.2) (fun b hb => by rw [h1 64 (by decide) (by decide) (by decide), h2 4 (by decide) (by decide)]; exact R.2.2.2.2.1 b hb) (by rw [h2 1 (by decide) (by decide)]) (fun i hi => h2 i (by omega) (by omega)) (fun i hi => h1 i (by omega) (by omega) (by omega))
end RE

/-! the relation between the two memories, and what a live cell shows in both -/
def aCI (b : Nat) (c : gMem) : Prop := ∃ t : Nat, t ≤ 4000 ∧ c (b + 1) 1 = nI t ∧ ∀ k, t ≤ k → k < 4000 → c (b + 2) k = 0
def aNw (T : Nat) (c : gMem) (s : gS) : Prop := aSR 1 c s ∧ aSI T s
def aIm (T b : Nat) (x : Int32) (c : gMem) (y : Int32) (s : gS) (a : Int32) : Prop := x = y ∧ aCI b c ∧ (y = 0 ∨ y = 1 ∧ aSR b c s ∧ aSI T s ∧ s 0 = a)
def aEx (T : Nat) (c m : gMem) : Prop := c 0 5 = m 0 5 ∧ c 0 6 = m 0 7 ∧ c 69 3 = m 0 6 ∧ (∀ b, b < 14 → c 64 b = m 4 b) ∧ aIm T 22 (c 0 8) c (m 0 3) (m 2) (m 1 0) ∧ aIm T 43 (c 0 10) c (m 0 4) (m 3) (m 1 0)
def Rel (T : Nat) (c m : gMem) : Prop := aNw T c (m 1) ∧ aEx T c m
/-- both sides end, with one answer, and stand in R -/
def Sim (wx wm : (Int32 → gMem → Prop) → Prop) (R : gMem → gMem → Prop) : Prop := ∃ r c' m', Di wx r c' ∧ Di wm r m' ∧ R c' m'
theorem aSR_cong {b : Nat} {c c' : gMem} {s : gS} (h : ∀ i, b < i → i ≤ b + 20 → c' i = c i) (hr : aSR b c s) : aSR b c' s := by
  unfold aSR rH rW rC rM rO rK rT rP rG rR at *
  simp only [h (b + 1) (by omega) (by omega), h (b + 2) (by omega) (by omega), h (b + 3) (by omega) (by omega), h (b + 4) (by omega) (by omega), h (b + 5) (by omega) (by omega), h (b + 6) (by omega) (by omega), h (b + 7) (by omega) (by omega), h (b + 8) (by omega) (by omega), h (b + 9) (by omega) (by omega), h (b + 10) (by omega) (by omega), h (b + 11) (by omega) (by omega), h (b + 12) (by omega) (by omega), h (b + 13) (by omega) (by omega), h (b + 14) (by omega) (by omega), h (b + 15) (by omega) (by omega), h (b + 16) (by omega) (by omega), h (b + 17) (by omega) (by omega), h (b + 18) (by omega) (by omega), h (b + 19) (by omega) (by omega), h (b + 20) (by omega) (by omega)]
  exact hr
theorem aCI_cong {b : Nat} {c c' : gMem} (h : ∀ i, b < i → i ≤ b + 20 → c' i = c i) (hr : aCI b c) : aCI b c' := by
  unfold aCI at *
  rw [h (b + 1) (by omega) (by omega), h (b + 2) (by omega) (by omega)]
  exact hr
theorem aIm_cong {T b : Nat} {x x' y y' a a' : Int32} {c c' : gMem} {s s' : gS} (h : ∀ i, b < i → i ≤ b + 20 → c' i = c i) (hx : x' = x) (hy : y' = y) (hs : s' = s) (ha : a' = a) (hr : aIm T b x c y s a) : aIm T b x' c' y' s' a' := by
  subst hx; subst hy; subst hs; subst ha
  exact ⟨hr.1, aCI_cong h hr.2.1, hr.2.2.imp id (fun q => ⟨q.1, aSR_cong h q.2.1, q.2.2⟩)⟩
/-- the rest of the relation, when only the parts of now have changed -/
theorem aEx_cong {T : Nat} {c c' m m' : gMem} (h0 : ∀ j, c' 0 j = c 0 j) (hc : ∀ i, 22 ≤ i → i ≤ 63 → c' i = c i) (h69 : c' 69 3 = c 69 3) (h64 : ∀ b, b < 14 → c' 64 b = m' 4 b) (m0 : ∀ j, j < 8 → m' 0 j = m 0 j) (m2 : m' 2 = m 2) (m3 : m' 3 = m 3) (mA : m' 1 0 = m 1 0) (hr : aEx T c m) : aEx T c' m' := by
  obtain ⟨h1, h2, h3, h4, h5, h6⟩ := hr
  refine ⟨by rw [h0, m0 5 (by decide), h1], by rw [h0, m0 7 (by decide), h2], by rw [h69, m0 6 (by decide), h3], h64, ?_, ?_⟩
  · exact aIm_cong (fun i a b => hc i (by omega) (by omega)) (h0 8) (m0 3 (by decide)) m2 mA h5
  · exact aIm_cong (fun i a b => hc i (by omega) (by omega)) (h0 10) (m0 4 (by decide)) m3 mA h6
theorem Rel.set5 {T : Nat} {c m : gMem} (x : Int32) (h : Rel T c m) : Rel T (mp c 0 5 x) (mp m 0 5 x) := by
  obtain ⟨⟨hr, hi⟩, h1, h2, h3, h4, h5, h6⟩ := h
  have e1 : mp m 0 5 x 1 = m 1 := mp_n (by decide)
  refine ⟨⟨?_, by rw [e1]; exact hi⟩, ?_, ?_, ?_, ?_, ?_, ?_⟩
  · rw [e1]; exact aSR_cong (fun i a b => mp_n (by omega)) hr
  · rw [mp_s, mp_s, up_s, up_s]
  · rw [mp_s, mp_s, up_n (by decide), up_n (by decide), h2]
  · rw [mp_n (by decide), mp_s, up_n (by decide), h3]
  · intro b hb; rw [mp_n (by decide), mp_n (by decide), h4 b hb]
  · exact aIm_cong (fun i a b => mp_n (by omega)) (by rw [mp_s, up_n (by decide)]) (by rw [mp_s, up_n (by decide)]) (mp_n (by decide)) (by rw [e1]) h5
  · exact aIm_cong (fun i a b => mp_n (by omega)) (by rw [mp_s, up_n (by decide)]) (by rw [mp_s, up_n (by decide)]) (mp_n (by decide)) (by rw [e1]) h6
/-- 'got' is nobody's but the reference's -/
theorem Rel.set12 {T : Nat} {c m : gMem} (x : Int32) (h : Rel T c m) : Rel T c (mp m 0 12 x) := by
  obtain ⟨⟨hr, hi⟩, hE⟩ := h
  have e1 : mp m 0 12 x 1 = m 1 := mp_n (by decide)
  refine ⟨⟨by rw [e1]; exact hr, by rw [e1]; exact hi⟩, aEx_cong (fun _ => rfl) (fun _ _ _ => rfl) rfl ?_ ?_ (mp_n (by decide)) (mp_n (by decide)) (by rw [e1]) hE⟩
  · intro b hb; rw [mp_n (by decide)]; exact hE.2.2.2.1 b hb
  · intro j hj; rw [mp_s, up_n (by omega)]
theorem Rel.set64 {T : Nat} {c m : gMem} {b : Nat} {x : Int32} (hb : b < 14) (h : Rel T c m) : Rel T (mp c 64 b x) (mp m 4 b x) := by
  obtain ⟨⟨hr, hi⟩, hE⟩ := h
  have e1 : mp m 4 b x 1 = m 1 := mp_n (by decide)
  refine ⟨⟨by rw [e1]; exact aSR_cong (fun i a b => mp_n (by omega)) hr, by rw [e1]; exact hi⟩, aEx_cong (fun j => by rw [mp_n (by decide)]) (fun i _ _ => mp_n (by omega)) (by rw [mp_n (by decide)]) ?_ ?_ (mp_n (by decide)) (mp_n (by decide)) (by rw [e1]) hE⟩
  · intro a ha
    rw [mp_s, mp_s]
    by_cases hab : a = b
    · subst hab; rw [up_s, up_s]
    · rw [up_n hab, up_n hab]; exact hE.2.2.2.1 a ha
  · intro j hj; rw [mp_n (by decide)]
/-- what a live cell shows in both -/
def cF (c : gMem) (s : gS) (h : Nat) : Prop := h < 500 ∧ s (1101 + 10 * h) = nI (aKd s h) ∧ aKd s h ≤ 5 ∧ s (1102 + 10 * h) = nI (aPl s h) ∧ s (1103 + 10 * h) = nI (aMn s h) ∧ aMn s h ≤ 300 ∧ s (6100 + aPl s h) = nI (8 * h + aKd s h) ∧ (aMany (aKd s h) → s (6100 + aPl s h + 1) = nI (aMn s h)) ∧ aPl s h + aSz s h ≤ zU s ∧ zU s ≤ 4000 ∧ c 4 h = nI (aPl s h) ∧ c 3 (aPl s h) = nI (8 * h + aKd s h) ∧ (aMany (aKd s h) → c 3 (aPl s h + 1) = nI (aMn s h)) ∧ aPl s h = aPs s h ∧ aLk s h + aLo s h ≤ aSz s h ∧ 2 ≤ aSz s h
theorem cF.of {c : gMem} {s : gS} {h : Nat} (ia : iA s) (ic : iC s) (rw_ : rW 1 c s) (rc : rC 1 c s) (hh : h < zM s) (hl : aLv s h) : cF c s h := by
  obtain ⟨a1, a2, a3, a4, a5, a6, a7, a8, a9⟩ := ia
  rcases ic h hh with q | ⟨q0, q1, q2, q3, q4, q5, q6, q7, q8⟩
  · rw [hl] at q; exact absurd q (by decide)
  have hf : aPl s h + aSz s h ≤ zU s := by rw [a7, q4]; exact aPs_fit hl hh
  have hg := szN_ge (n := aMn s h) q2
  have hsz : 2 ≤ aSz s h := hg.2
  refine ⟨by omega, q1, q2, q3, q5, q6, q7, q8, hf, by omega, ?_, ?_, ?_, q4, hg.1, hsz⟩
  · rw [← q3]; exact ((rc h hh).1 hl).1
  · rw [← q7]; exact rw_.1 _ (by omega)
  · intro hm
    rw [← q8 hm, Nat.add_assoc]; exact rw_.1 _ (by omega)
theorem cF.word {c : gMem} {s : gS} {h j : Nat} (f : cF c s h) (rw_ : rW 1 c s) (hj : j < aSz s h) : c 3 (aPl s h + j) = s (6100 + aPl s h + j) := by
  obtain ⟨f1, f2, f3, f4, f5, f6, f7, f8, f9, f10, f11, f12, f13, f14, f15, f16⟩ := f
  rw [Nat.add_assoc]; exact rw_.1 _ (by omega)
theorem Rel.cF {T : Nat} {c m : gMem} {h : Nat} (R : Rel T c m) (hh : h < zM (m 1)) (hl : aLv (m 1) h) : cF c (m 1) h := cF.of R.1.2.1.1.1 R.1.2.1.1.2.1 R.1.1.2.1 R.1.1.2.2.1 hh hl
theorem Rel.made {T : Nat} {c m : gMem} (R : Rel T c m) : m 1 1 = nI (zM (m 1)) ∧ zM (m 1) ≤ 500 ∧ c 2 2 = nI (zM (m 1)) := by
  obtain ⟨a1, a2, a3, a4, a5, a6, a7, a8, a9⟩ := R.1.2.1.1.1
  exact ⟨a4, a5, by rw [← a4]; exact R.1.1.1.2.2.1⟩
theorem Rel.dead {T : Nat} {c m : gMem} {h : Nat} (R : Rel T c m) (hh : h < zM (m 1)) (hl : ¬ aLv (m 1) h) : m 1 (1100 + 10 * h) = 0 ∧ c 4 h = -1 := by
  refine ⟨?_, (R.1.1.2.2.1 h hh).2 hl⟩
  rcases R.1.2.1.1.2.1 h hh with q | q
  · exact q
  · exact absurd q.1 hl

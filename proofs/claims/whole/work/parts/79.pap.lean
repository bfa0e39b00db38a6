/-! what a paper bears, as a list; the places of what is kept -/
def pM (L : List Int32) (m : gMem) : Prop := m 1 15 = nI L.length ∧ ∀ k, k < L.length → m 1 (10100 + k) = L.getD k 0 ∧ m 1 (18100 + k) = L.getD k 0
def pX (L : List Int32) (c : gMem) : Prop := c 14 0 = nI L.length ∧ ∀ k, k < L.length → c 15 k = L.getD k 0 ∧ c 16 k = L.getD k 0
def fM (m m' : gMem) : Prop := (∀ k, k ≠ 15 → k < 10100 → m' 1 k = m 1 k) ∧ ∀ i, i ≠ 1 → m' i = m i
def fX (c c' : gMem) : Prop := ∀ i, i ≠ 14 → i ≠ 15 → i ≠ 16 → c' i = c i
theorem fM.rf {m : gMem} : fM m m := ⟨fun _ _ _ => rfl, fun _ _ => rfl⟩
theorem fX.rf {c : gMem} : fX c c := fun _ _ _ _ => rfl
theorem fM.tr {a b d : gMem} (h : fM a b) (g : fM b d) : fM a d := ⟨fun k h1 h2 => (g.1 k h1 h2).trans (h.1 k h1 h2), fun i hi => (g.2 i hi).trans (h.2 i hi)⟩
theorem fX.tr {a b d : gMem} (h : fX a b) (g : fX b d) : fX a d := fun i a b c => (g i a b c).trans (h i a b c)
theorem getD_app {L : List Int32} {x : Int32} {k : Nat} (h : k < L.length) : (L ++ [x]).getD k 0 = L.getD k 0 := by
  rw [List.getD_eq_getElem?_getD, List.getD_eq_getElem?_getD, List.getElem?_append_left h]
theorem getD_last {L : List Int32} {x : Int32} : (L ++ [x]).getD L.length 0 = x := by
  rw [List.getD_eq_getElem?_getD, List.getElem?_append_right (Nat.le_refl _), Nat.sub_self]; rfl
theorem e_write {L : List Int32} {m : gMem} {x : Int32} (h : pM L m) (hL : L.length < 8000) : ∃ m', Dv (wX10_write x m) m' ∧ pM (L ++ [x]) m' ∧ fM m m' := by
  refine ⟨mp (mp (mp m 1 (10100 + L.length) x) 1 (18100 + L.length) x) 1 15 (nI (L.length + 1)), fun Q hQ => ?_, ⟨?_, fun k hk => ?_⟩, fun k h1 h2 => ?_, fun i hi => ?_⟩
  · unfold wX10_write
    simp only [forall_eq, h.1]
    rw [show (10100 : Int32) + nI L.length = nI (10100 + L.length) from nI_add 10100 _, nI_clamp (by omega)]
    simp only [mp_s, up_n (show (15 : Nat) ≠ 10100 + L.length by omega), h.1]
    rw [show (18100 : Int32) + nI L.length = nI (18100 + L.length) from nI_add 18100 _, nI_clamp (by omega), up_n (by omega), up_n (by omega), h.1, nI_1]
    exact ⟨vp_in_nI (by omega) (by decide), vp_in_nI (by omega) (by decide), hQ⟩
  · rw [mp_s, up_s, List.length_append]; rfl
  · rw [mp_s, up_n (by omega), up_n (by omega), mp_s, mp_s]
    rw [List.length_append] at hk
    by_cases e : k = L.length
    · subst e; rw [getD_last, up_s, up_n (by omega), up_s]; exact ⟨rfl, rfl⟩
    · have hk' : k < L.length := by simp only [List.length_singleton] at hk; omega
      rw [getD_app hk', up_n (by omega), up_n (by omega), up_n (by omega), up_n (by omega)]
      exact h.2 k hk'
  · rw [mp_s, up_n h1, mp_s, up_n (by omega), mp_s, up_n (by omega)]
  · rw [mp_n hi, mp_n hi, mp_n hi]
theorem x_add {L : List Int32} {c : gMem} {x : Int32} (h : pX L c) (hL : L.length < 6527) : ∃ c', Dv (wX4_add x c) c' ∧ pX (L ++ [x]) c' ∧ fX c c' := by
  refine ⟨mp (mp (mp c 15 L.length x) 16 L.length x) 14 0 (nI (L.length + 1)), fun Q hQ => ?_, ⟨?_, fun k hk => ?_⟩, fun i i1 i2 i3 => ?_⟩
  · unfold wX4_add
    simp only [forall_eq, h.1, show ¬ (6527 : Int32) ≤ nI L.length from nI_ge (b := 6527) hL (by decide), true_implies, not_false_eq_true, false_implies, true_and, mp_n (show (14 : Nat) ≠ 15 by decide), mp_n (show (14 : Nat) ≠ 16 by decide)]
    rw [nI_clamp (by omega), nI_1]
    exact ⟨vp_in_nI (by omega) (by decide), vp_in_nI (by omega) (by decide), hQ⟩
  · rw [mp_s, up_s, List.length_append]; rfl
  · have e15 : mp (mp (mp c 15 L.length x) 16 L.length x) 14 0 (nI (L.length + 1)) 15 = upd (c 15) L.length x := by rw [mp_n (by decide), mp_n (by decide), mp_s]
    have e16 : mp (mp (mp c 15 L.length x) 16 L.length x) 14 0 (nI (L.length + 1)) 16 = upd (c 16) L.length x := by rw [mp_n (by decide), mp_s, mp_n (by decide)]
    rw [e15, e16]
    rw [List.length_append] at hk
    by_cases e : k = L.length
    · subst e; rw [getD_last, up_s, up_s]; exact ⟨rfl, rfl⟩
    · have hk' : k < L.length := by simp only [List.length_singleton] at hk; omega
      rw [getD_app hk', up_n e, up_n e]
      exact h.2 k hk'
  · rw [mp_n i1, mp_n i3, mp_n i2]
/-! the sum at the end -/
def smN (f : Nat → Int32) : Nat → Int32
  | 0 => 1
  | n + 1 => 31 * smN f n + f n
theorem smN_cong {f g : Nat → Int32} : ∀ n, (∀ k, k < n → f k = g k) → smN f n = smN g n := by
  intro n
  induction n with
  | zero => intro _; rfl
  | succ n ih => intro h; show 31 * smN f n + f n = 31 * smN g n + g n; rw [ih (fun k hk => h k (by omega)), h n (by omega)]
theorem e_sum {m : gMem} {n : Nat} (h : m 1 15 = nI n) (hn : n ≤ 8000) : ∀ (d k : Nat), k + d = n → Di (wX10_sum_p4 (smN (fun k => m 1 (10100 + k)) k) (nI k) m) (smN (fun k => m 1 (10100 + k)) n) m := by
  intro d
  induction d with
  | zero =>
    intro k hk Q hQ P hP
    have : k = n := by omega
    subst this
    refine hP _ _ _ ?_
    unfold wX10_sum_p4_b
    simp only [forall_eq, h, Int32.le_refl, true_implies, not_true_eq_false, false_implies, and_true]
    exact hQ
  | succ d ih =>
    intro k hk Q hQ P hP
    refine hP _ _ _ ?_
    unfold wX10_sum_p4_b
    simp only [forall_eq, h, nI_ge (show k < n by omega) (show n < 2 ^ 31 by omega), true_implies, not_false_eq_true, false_implies, true_and]
    rw [show (10100 : Int32) + nI k = nI (10100 + k) from nI_add 10100 _, nI_clamp (by omega), nI_1]
    exact ⟨vp_in_nI (by omega) (by decide), ih (k + 1) (by omega) Q hQ P hP⟩
theorem x_sum {c : gMem} {n : Nat} (hn : n ≤ 6527) : ∀ (d k : Nat), k + d = n → Di (wX4_sumOf_p4 (nI n) (smN (c 15) k) (nI k) c) (smN (c 15) n) c := by
  intro d
  induction d with
  | zero =>
    intro k hk Q hQ P hP
    have : k = n := by omega
    subst this
    refine hP _ _ _ _ ?_
    unfold wX4_sumOf_p4_b
    simp only [forall_eq, Int32.le_refl, true_implies, not_true_eq_false, false_implies, and_true]
    exact hQ
  | succ d ih =>
    intro k hk Q hQ P hP
    refine hP _ _ _ _ ?_
    unfold wX4_sumOf_p4_b
    simp only [forall_eq, nI_ge (show k < n by omega) (show n < 2 ^ 31 by omega), true_implies, not_false_eq_true, false_implies, true_and]
    rw [nI_clamp (by omega), nI_1]
    exact ⟨vp_in_nI (by omega) (by decide), ih (k + 1) (by omega) Q hQ P hP⟩
/-! a row of the paper -/
def lkL (f : Nat → Int32) : Nat → List Int32
  | 0 => []
  | n + 1 => lkL f n ++ [f n]
theorem lkL_len {f : Nat → Int32} : ∀ n, (lkL f n).length = n := by
  intro n
  induction n with
  | zero => rfl
  | succ n ih => show (lkL f n ++ [f n]).length = n + 1; rw [List.length_append, ih]; rfl
theorem lkL_cong {f g : Nat → Int32} : ∀ n, (∀ k, k < n → f k = g k) → lkL f n = lkL g n := by
  intro n
  induction n with
  | zero => intro _; rfl
  | succ n ih => intro h; show lkL f n ++ [f n] = lkL g n ++ [g n]; rw [ih (fun k hk => h k (by omega)), h n (by omega)]
theorem e_writeLinks {h n k p : Nat} {L : List Int32} (hh : h < 500) (hk : k ≤ 5) (hL : L.length + n < 8000) (f : Nat → Int32) (hp : p + loN k + n ≤ 4000) : ∀ (d i : Nat) (m : gMem), i + d = n → m 1 (1101 + 10 * h) = nI k → m 1 (1102 + 10 * h) = nI p → (∀ i, i < n → m 1 (6100 + p + loN k + i) = f i) → pM (L ++ lkL f i) m → ∃ m', Dv (wX10_writeCell_p61 (nI h) (nI n) (nI i) m) m' ∧ pM (L ++ lkL f n) m' ∧ fM m m' := by
  intro d
  induction d with
  | zero =>
    intro i m hi h1 h2 hf hq
    have : i = n := by omega
    subst this
    refine ⟨m, fun Q hQ P hP => hP _ _ _ _ ?_, hq, fM.rf⟩
    unfold wX10_writeCell_p61_b
    simp only [Int32.le_refl, true_implies, not_true_eq_false, false_implies, and_true]
    exact hQ
  | succ d ih =>
    intro i m hi h1 h2 hf hpp
    obtain ⟨m1, W, p1, f1⟩ := e_write (x := f i) hpp (by rw [List.length_append, lkL_len]; omega)
    obtain ⟨m2, W2, p2, f2⟩ := ih (i + 1) m1 (by omega) (by rw [f1.1 _ (by omega) (by omega)]; exact h1) (by rw [f1.1 _ (by omega) (by omega)]; exact h2) (fun q hq => by rw [f1.1 _ (by omega) (by omega)]; exact hf q hq) (by rw [List.append_assoc] at p1; exact p1)
    refine ⟨m2, fun Q hQ P hP => hP _ _ _ _ ?_, p2, f1.tr f2⟩
    unfold wX10_writeCell_p61_b
    simp only [nI_ge (show i < n by omega) (show n < 2 ^ 31 by omega), true_implies, not_false_eq_true, false_implies, true_and]
    rw [e_linkAt hh h1 hk h2, nI_clamp (by omega)]
    refine ⟨vp_in_nI (by omega) (by decide), ?_⟩
    simp only [forall_eq]
    rw [hf i (by omega)]
    refine W _ ?_
    rw [nI_1]; exact W2 Q hQ P hP
theorem x_writeLinks {n p : Nat} {L : List Int32} (hL : L.length + n ≤ 6527) (f : Nat → Int32) (hp : p + n ≤ 4000) : ∀ (d i : Nat) (c : gMem), i + d = n → (∀ i, i < n → c 3 (p + i) = f i) → pX (L ++ lkL f i) c → ∃ c', Dv (wX7_writeKept_p92 (nI n) (nI p) (nI i) c) c' ∧ pX (L ++ lkL f n) c' ∧ fX c c' := by
  intro d
  induction d with
  | zero =>
    intro i c hi hf hq
    have : i = n := by omega
    subst this
    refine ⟨c, fun Q hQ P hP => hP _ _ _ _ ?_, hq, fX.rf⟩
    unfold wX7_writeKept_p92_b
    simp only [Int32.le_refl, true_implies, not_true_eq_false, false_implies, and_true]
    exact hQ
  | succ d ih =>
    intro i c hi hf hpp
    obtain ⟨c1, W, p1, f1⟩ := x_add (x := f i) hpp (by rw [List.length_append, lkL_len]; omega)
    obtain ⟨c2, W2, p2, f2⟩ := ih (i + 1) c1 (by omega) (fun q hq => by rw [f1 3 (by decide) (by decide) (by decide)]; exact hf q hq) (by rw [List.append_assoc] at p1; exact p1)
    refine ⟨c2, fun Q hQ P hP => hP _ _ _ _ ?_, p2, f1.tr f2⟩
    unfold wX7_writeKept_p92_b
    simp only [nI_ge (show i < n by omega) (show n < 2 ^ 31 by omega), true_implies, not_false_eq_true, false_implies, true_and]
    rw [nI_add, nI_clamp (by omega)]
    refine ⟨vp_in_nI (by omega) (by decide), ?_⟩
    simp only [forall_eq]
    rw [hf i (by omega)]
    refine W _ ?_
    rw [nI_1]; exact W2 Q hQ P hP
def rowL (h : Nat) (a b c d : Int32) (n : Nat) (f : Nat → Int32) : List Int32 := [nI h] ++ [a] ++ [b] ++ [c] ++ [d] ++ [nI n] ++ lkL f n
theorem e_writeCell {h k n p : Nat} {L : List Int32} {m : gMem} {a b c d : Int32} {f : Nat → Int32} (hh : h < 500) (hk : k ≤ 5) (hL : L.length + 6 + lkN k n < 8000) (hp : p + loN k + lkN k n ≤ 4000) (h1 : m 1 (1101 + 10 * h) = nI k) (h2 : m 1 (1102 + 10 * h) = nI p) (h3 : m 1 (1103 + 10 * h) = nI n) (ha : m 1 (1106 + 10 * h) = a) (hb : m 1 (1107 + 10 * h) = b) (hc : m 1 (1108 + 10 * h) = c) (hd : m 1 (1105 + 10 * h) = d) (hf : ∀ i, i < lkN k n → m 1 (6100 + p + loN k + i) = f i) (hpm : pM L m) : ∃ m', Dv (wX10_writeCell (nI h) m) m' ∧ pM (L ++ rowL h a b c d (lkN k n) f) m' ∧ fM m m' := by
  obtain ⟨m1, W1, p1, f1⟩ := e_write (x := nI h) hpm (by omega)
  obtain ⟨m2, W2, p2, f2⟩ := e_write (x := a) p1 (by simp only [List.length_append, List.length_singleton]; omega)
  obtain ⟨m3, W3, p3, f3⟩ := e_write (x := b) p2 (by simp only [List.length_append, List.length_singleton]; omega)
  obtain ⟨m4, W4, p4, f4⟩ := e_write (x := c) p3 (by simp only [List.length_append, List.length_singleton]; omega)
  obtain ⟨m5, W5, p5, f5⟩ := e_write (x := d) p4 (by simp only [List.length_append, List.length_singleton]; omega)
  obtain ⟨m6, W6, p6, f6⟩ := e_write (x := nI (lkN k n)) p5 (by simp only [List.length_append, List.length_singleton]; omega)
  have g2 := f1.tr f2
  have g3 := g2.tr f3
  have g4 := g3.tr f4
  have g5 := g4.tr f5
  have g6 := g5.tr f6
  obtain ⟨m7, W7, p7, f7⟩ := e_writeLinks (h := h) (L := L ++ [nI h] ++ [a] ++ [b] ++ [c] ++ [d] ++ [nI (lkN k n)]) hh hk (by simp only [List.length_append, List.length_singleton]; omega) f hp (lkN k n) 0 m6 (by omega) (by rw [g6.1 _ (by omega) (by omega)]; exact h1) (by rw [g6.1 _ (by omega) (by omega)]; exact h2) (fun i hi => by rw [g6.1 _ (by omega) (by omega)]; exact hf i hi) (by show pM (_ ++ []) m6; rw [List.append_nil]; exact p6)
  refine ⟨m7, fun Q hQ => ?_, ?_, g6.tr f7⟩
  · unfold wX10_writeCell
    refine W1 _ ?_
    rw [e_of6 hh, f1.1 _ (by omega) (by omega), ha]
    refine W2 _ ?_
    rw [e_of7 hh, g2.1 _ (by omega) (by omega), hb]
    refine W3 _ ?_
    rw [e_of8 hh, g3.1 _ (by omega) (by omega), hc]
    refine W4 _ ?_
    rw [e_of5 hh, g4.1 _ (by omega) (by omega), hd]
    refine W5 _ ?_
    rw [e_linksOf hh (by rw [g5.1 _ (by omega) (by omega)]; exact h1) hk (by rw [g5.1 _ (by omega) (by omega)]; exact h3)]
    refine W6 _ ?_
    exact W7 Q hQ
  · unfold rowL
    simp only [List.append_assoc] at p7 ⊢
    exact p7
theorem x_writeKept {h k n p : Nat} {L : List Int32} {m : gMem} {a b c d : Int32} {f : Nat → Int32} (hh : h < 500) (hk : k ≤ 5) (hL : L.length + 6 + lkN k n ≤ 6527) (hp : p + loN k + lkN k n ≤ 4000) (hp2 : p + 1 < 4000) (h4 : m 4 h = nI p) (h3 : m 3 p = nI (8 * h + k)) (hn : k = 1 ∨ k = 5 → m 3 (p + 1) = nI n) (ha : m 9 h = a) (hb : m 10 h = b) (hc : m 11 h = c) (hd : m 8 h = d) (hf : ∀ i, i < lkN k n → m 3 (p + loN k + i) = f i) (hpm : pX L m) : ∃ m', Dv (wX7_writeKept (nI h) m) m' ∧ pX (L ++ rowL h a b c d (lkN k n) f) m' ∧ fX m m' := by
  obtain ⟨m1, W1, p1, f1⟩ := x_add (x := nI h) hpm (by omega)
  obtain ⟨m2, W2, p2, f2⟩ := x_add (x := a) p1 (by simp only [List.length_append, List.length_singleton]; omega)
  obtain ⟨m3, W3, p3, f3⟩ := x_add (x := b) p2 (by simp only [List.length_append, List.length_singleton]; omega)
  obtain ⟨m4, W4, p4, f4⟩ := x_add (x := c) p3 (by simp only [List.length_append, List.length_singleton]; omega)
  obtain ⟨m5, W5, p5, f5⟩ := x_add (x := d) p4 (by simp only [List.length_append, List.length_singleton]; omega)
  obtain ⟨m6, W6, p6, f6⟩ := x_add (x := nI (lkN k n)) p5 (by simp only [List.length_append, List.length_singleton]; omega)
  have g2 := f1.tr f2
  have g3 := g2.tr f3
  have g4 := g3.tr f4
  have g5 := g4.tr f5
  have g6 := g5.tr f6
  obtain ⟨m7, W7, p7, f7⟩ := x_writeLinks (p := p + loN k) (n := lkN k n) (L := L ++ [nI h] ++ [a] ++ [b] ++ [c] ++ [d] ++ [nI (lkN k n)]) (by simp only [List.length_append, List.length_singleton]; omega) f hp (lkN k n) 0 m6 (by omega) (fun i hi => by rw [g6 3 (by decide) (by decide) (by decide)]; exact hf i hi) (by show pX (_ ++ []) m6; rw [List.append_nil]; exact p6)
  refine ⟨m7, fun Q hQ => ?_, ?_, g6.tr f7⟩
  · unfold wX7_writeKept
    refine W1 _ ?_
    rw [nI_clamp (by omega)]
    refine ⟨vp_in_nI hh (by decide), ?_⟩
    simp only [forall_eq]
    rw [f1 9 (by decide) (by decide) (by decide), ha]
    refine W2 _ ⟨vp_in_nI hh (by decide), ?_⟩
    rw [g2 10 (by decide) (by decide) (by decide), hb]
    refine W3 _ ⟨vp_in_nI hh (by decide), ?_⟩
    rw [g3 11 (by decide) (by decide) (by decide), hc]
    refine W4 _ ⟨vp_in_nI hh (by decide), ?_⟩
    rw [g4 8 (by decide) (by decide) (by decide), hd]
    refine W5 _ ?_
    have e4 : m5 4 h = nI p := by rw [g5 4 (by decide) (by decide) (by decide)]; exact h4
    have e3 : m5 3 p = nI (8 * h + k) := by rw [g5 3 (by decide) (by decide) (by decide)]; exact h3
    rw [x_linksOf hh e4 hp2 e3 hk (fun q => by rw [g5 3 (by decide) (by decide) (by decide)]; exact hn q), x_linkPlace hh e4 (by omega) e3 hk]
    refine W6 _ ?_
    exact W7 Q hQ
  · unfold rowL
    simp only [List.append_assoc] at p7 ⊢
    exact p7

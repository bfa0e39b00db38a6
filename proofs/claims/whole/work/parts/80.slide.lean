/-! sliding: where what is kept comes to lie -/
def psK (s : gS) : Nat → Nat
  | 0 => 0
  | j + 1 => psK s j + (if kpB s j then aSz s j else 0)
def ckN (s : gS) : Nat → Nat
  | 0 => 0
  | j + 1 => ckN s j + (if kpB s j then 1 else 0)
def mv1 (s : gS) (j : Nat) : Nat := if psK s j < aPs s j then 1 else 0
def mvN (s : gS) : Nat → Nat
  | 0 => 0
  | j + 1 => mvN s j + (if kpB s j then mv1 s j else 0)
def wdS (s : gS) (w : Nat → Int32) : Nat → Nat → Int32
  | 0 => w
  | j + 1 => if kpB s j then va_cpy (wdS s w j) (wdS s w j) (aPs s j) (psK s j) (aSz s j) else wdS s w j
def plL (s : gS) (w : Nat → Int32) : Nat → List Int32
  | 0 => []
  | j + 1 => plL s w j ++ (if kpB s j then rowL j (s (1106 + 10 * j)) (s (1107 + 10 * j)) (s (1108 + 10 * j)) (s (1105 + 10 * j)) (aLk s j) (fun i => w (aPs s j + aLo s j + i)) else [])
section SL
variable {s : gS} {w : Nat → Int32} {j : Nat}
theorem psK_s (h : kpB s j = true) : psK s (j + 1) = psK s j + aSz s j := by
  show psK s j + (if kpB s j then aSz s j else 0) = _
  rw [if_pos h]
theorem psK_o (h : ¬ kpB s j = true) : psK s (j + 1) = psK s j := by
  show psK s j + (if kpB s j then aSz s j else 0) = _
  rw [if_neg h, Nat.add_zero]
theorem ckN_s (h : kpB s j = true) : ckN s (j + 1) = ckN s j + 1 := by
  show ckN s j + (if kpB s j then 1 else 0) = _
  rw [if_pos h]
theorem ckN_o (h : ¬ kpB s j = true) : ckN s (j + 1) = ckN s j := by
  show ckN s j + (if kpB s j then 1 else 0) = _
  rw [if_neg h, Nat.add_zero]
theorem mvN_s (h : kpB s j = true) : mvN s (j + 1) = mvN s j + mv1 s j := by
  show mvN s j + (if kpB s j then mv1 s j else 0) = _
  rw [if_pos h]
theorem mvN_o (h : ¬ kpB s j = true) : mvN s (j + 1) = mvN s j := by
  show mvN s j + (if kpB s j then mv1 s j else 0) = _
  rw [if_neg h, Nat.add_zero]
theorem wdS_s (h : kpB s j = true) : wdS s w (j + 1) = va_cpy (wdS s w j) (wdS s w j) (aPs s j) (psK s j) (aSz s j) := by
  show (if kpB s j then _ else _) = _
  rw [if_pos h]
theorem wdS_o (h : ¬ kpB s j = true) : wdS s w (j + 1) = wdS s w j := by
  show (if kpB s j then _ else _) = _
  rw [if_neg h]
theorem plL_s (h : kpB s j = true) : plL s w (j + 1) = plL s w j ++ rowL j (s (1106 + 10 * j)) (s (1107 + 10 * j)) (s (1108 + 10 * j)) (s (1105 + 10 * j)) (aLk s j) (fun i => w (aPs s j + aLo s j + i)) := by
  show _ ++ (if kpB s j then _ else _) = _
  rw [if_pos h]
theorem plL_o (h : ¬ kpB s j = true) : plL s w (j + 1) = plL s w j := by
  show _ ++ (if kpB s j then _ else _) = _
  rw [if_neg h, List.append_nil]
theorem psK_le : ∀ j, psK s j ≤ aPs s j := by
  intro j
  induction j with
  | zero => exact Nat.le_refl _
  | succ j ih =>
    by_cases h : kpB s j = true
    · rw [psK_s h, aPs_lv (kpB_t.mp h).1]; omega
    · rw [psK_o h]; exact Nat.le_trans ih (aPs_le (Nat.le_succ j))
theorem psK_mono : ∀ {i j : Nat}, i ≤ j → psK s i ≤ psK s j := by
  intro i j h
  induction h with
  | refl => exact Nat.le_refl _
  | step _ ih => exact Nat.le_trans ih (Nat.le_add_right _ _)
theorem wd_hi : ∀ j k, aPs s j ≤ k → wdS s w j k = w k := by
  intro j
  induction j with
  | zero => intro k _; rfl
  | succ j ih =>
    intro k hk
    by_cases h : kpB s j = true
    · rw [aPs_lv (kpB_t.mp h).1] at hk
      have := psK_le (s := s) j
      rw [wdS_s h]; unfold va_cpy
      rw [if_neg (by omega)]; exact ih k (by omega)
    · rw [wdS_o h]; exact ih k (Nat.le_trans (aPs_le (Nat.le_succ j)) hk)
theorem wd_cell {g i : Nat} (hg : kpB s g = true) (hi : i < aSz s g) : ∀ j, g < j → wdS s w j (psK s g + i) = w (aPs s g + i) := by
  intro j
  induction j with
  | zero => intro h; omega
  | succ j ih =>
    intro hj
    by_cases e : g = j
    · subst e
      rw [wdS_s hg]; unfold va_cpy
      rw [if_pos ⟨by omega, by omega⟩, wd_hi g _ (by omega)]
      congr 1; omega
    · by_cases h : kpB s j = true
      · have := psK_mono (s := s) (show g + 1 ≤ j by omega)
        rw [psK_s hg] at this
        rw [wdS_s h]; unfold va_cpy
        rw [if_neg (by omega)]; exact ih (by omega)
      · rw [wdS_o h]; exact ih (by omega)
theorem wd_cong {w' : Nat → Int32} {U n : Nat} (hU : aPs s n ≤ U) (hw : ∀ k, k < U → w k = w' k) : ∀ j, j ≤ n → ∀ k, k < U → wdS s w j k = wdS s w' j k := by
  intro j
  induction j with
  | zero => intro _ k hk; exact hw k hk
  | succ j ih =>
    intro hj k hk
    by_cases h : kpB s j = true
    · have h1 := aPs_le (s := s) hj
      rw [aPs_lv (kpB_t.mp h).1] at h1
      rw [wdS_s h, wdS_s h]; unfold va_cpy
      split
      · exact ih (by omega) _ (by omega)
      · exact ih (by omega) k hk
    · rw [wdS_o h, wdS_o h]; exact ih (by omega) k hk
theorem row_len {h n : Nat} {a b c d : Int32} {f : Nat → Int32} : (rowL h a b c d n f).length = n + 6 := by
  unfold rowL
  simp only [List.length_append, List.length_singleton, lkL_len]; omega
theorem pl_len (hp : aHp s) : ∀ j, j ≤ zM s → (plL s w j).length ≤ 5 * ckN s j + psK s j := by
  intro j
  induction j with
  | zero => intro _; exact Nat.le_refl _
  | succ j ih =>
    intro hj
    by_cases h : kpB s j = true
    · obtain ⟨-, k2, -, -, -, -, -, -, -, -, -⟩ := hp_cell hp (show j < zM s by omega) (kpB_t.mp h).1
      have h1 := (szN_ge (n := aMn s j) k2).1
      have h2 : 1 ≤ loN (aKd s j) := by unfold loN; split <;> omega
      have e1 : aSz s j = szN (aKd s j) (aMn s j) := rfl
      have e2 : aLk s j = lkN (aKd s j) (aMn s j) := rfl
      rw [plL_s h, ckN_s h, psK_s h, List.length_append, row_len]
      have := ih (by omega)
      omega
    · rw [plL_o h, ckN_o h, psK_o h]; exact ih (by omega)
theorem pl_cong {w' : Nat → Int32} {U n : Nat} (hp : aHp s) (hn : n ≤ zM s) (hU : aPs s n ≤ U) (hw : ∀ k, k < U → w k = w' k) : ∀ j, j ≤ n → plL s w j = plL s w' j := by
  intro j
  induction j with
  | zero => intro _; rfl
  | succ j ih =>
    intro hj
    by_cases h : kpB s j = true
    · obtain ⟨-, k2, -, -, -, -, -, -, -, -, -⟩ := hp_cell hp (show j < zM s by omega) (kpB_t.mp h).1
      have h1 := (szN_ge (n := aMn s j) k2).1
      have h3 := aPs_le (s := s) hj
      rw [aPs_lv (kpB_t.mp h).1] at h3
      have e1 : aSz s j = szN (aKd s j) (aMn s j) := rfl
      have e2 : aLk s j = lkN (aKd s j) (aMn s j) := rfl
      have e3 : aLo s j = loN (aKd s j) := rfl
      rw [plL_s h, plL_s h, ih (by omega)]
      unfold rowL
      rw [lkL_cong (f := fun i => w (aPs s j + aLo s j + i)) (g := fun i => w' (aPs s j + aLo s j + i)) _ (fun k hk => hw _ (by omega))]
    · rw [plL_o h, plL_o h]; exact ih (by omega)
theorem mv_le : ∀ j, mvN s j ≤ j := by
  intro j
  induction j with
  | zero => exact Nat.le_refl _
  | succ j ih =>
    show mvN s j + (if kpB s j then mv1 s j else 0) ≤ j + 1
    unfold mv1
    repeat' split
    all_goals omega
/-! the reference copies a cell, word by word -/
theorem e_copyLoop {a b n : Nat} (hab : b ≤ a) (han : a + n ≤ 4000) {P50 : Int32 → Int32 → gMem → Prop} {x : Int32} : ∀ (d i : Nat) (m : gMem), i + d = n → ∃ m', (∀ Q, wX10_slide_p150 P50 (nI b) (nI a) x (nI n) (nI n) m' Q → wX10_slide_p150 P50 (nI b) (nI a) x (nI n) (nI i) m Q) ∧ (∀ k, m' 1 (6100 + k) = if b + i ≤ k ∧ k < b + n then m 1 (6100 + (a + (k - b))) else m 1 (6100 + k)) ∧ (∀ k, k < 6100 ∨ 10100 ≤ k → m' 1 k = m 1 k) ∧ ∀ i, i ≠ 1 → m' i = m i := by
  intro d
  induction d with
  | zero =>
    intro i m hi
    have : i = n := by omega
    subst this
    exact ⟨m, fun Q h => h, fun k => by rw [if_neg (by omega)], fun _ _ => rfl, fun _ _ => rfl⟩
  | succ d ih =>
    intro i m hi
    obtain ⟨m', M, h1, h2, h3⟩ := ih (i + 1) (mp m 1 (6100 + (b + i)) (m 1 (6100 + (a + i)))) (by omega)
    refine ⟨m', fun Q hQ P hP => hP _ _ _ _ _ _ ?_, fun k => ?_, fun k hk => ?_, fun q hq => ?_⟩
    · unfold wX10_slide_p150_b
      simp only [nI_ge (show i < n by omega) (show n < 2 ^ 31 by omega), true_implies, not_false_eq_true, false_implies, true_and, forall_eq]
      rw [show ((6100 : Int32) + nI a) + nI i = nI (6100 + (a + i)) by rw [show (6100 : Int32) = nI 6100 from rfl, nI_add, nI_add]; congr 1; omega, show ((6100 : Int32) + nI b) + nI i = nI (6100 + (b + i)) by rw [show (6100 : Int32) = nI 6100 from rfl, nI_add, nI_add]; congr 1; omega, nI_clamp (by omega), nI_clamp (by omega), nI_1]
      exact ⟨vp_in_nI (by omega) (by decide), vp_in_nI (by omega) (by decide), M Q hQ P hP⟩
    · rw [h1]
      by_cases h : b + (i + 1) ≤ k ∧ k < b + n
      · rw [if_pos h, if_pos (by omega), mp_s, up_n (by omega)]
      · rw [if_neg h, mp_s]
        by_cases e : k = b + i
        · subst e
          rw [up_s, if_pos (by omega)]
          congr 2; omega
        · rw [up_n (by omega), if_neg (by omega)]
    · rw [h2 k hk, mp_s, up_n (by omega)]
    · rw [h3 q hq, mp_n hq]
end SL

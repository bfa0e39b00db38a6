/-! cells that are given back -/
def ddB (s : gS) (h : Nat) : Bool := decide (s (1100 + 10 * h) = 1) && decide (s (1105 + 10 * h) = 0)
theorem ddB_t {s : gS} {h : Nat} : ddB s h = true ↔ s (1100 + 10 * h) = 1 ∧ s (1105 + 10 * h) = 0 := by unfold ddB; simp
def ndN (s : gS) (j : Nat) : Nat := sumN (fun h => if ddB s h then 1 else 0) j
theorem ndN_le {s : gS} : ∀ j, ndN s j ≤ j := by
  intro j
  induction j with
  | zero => exact Nat.le_refl _
  | succ j ih =>
    show ndN s j + (if ddB s j then 1 else 0) ≤ j + 1
    split <;> omega
def shC (h : Nat) (s : gS) : gS := fun k => if 44 ≤ k ∧ k < 76 then (if s k = nI h then -1 else s k) else s k
def gvS (s : gS) : Nat → gS
  | 0 => s
  | j + 1 => if ddB s j then shC j (upd (upd (upd (gvS s j) (1100 + 10 * j) 0) 2 (gvS s j 2 - 1)) 7 (gvS s j 7 + 1)) else gvS s j
theorem gv_o {s : gS} {k : Nat} (h2 : k ≠ 2) (h7 : k ≠ 7) (h4 : ¬ (44 ≤ k ∧ k < 76)) : ∀ j, (∀ h, h < j → k ≠ 1100 + 10 * h) → gvS s j k = s k := by
  intro j
  induction j with
  | zero => intro _; rfl
  | succ j ih =>
    intro hk
    show (if ddB s j then shC j (upd (upd (upd (gvS s j) (1100 + 10 * j) 0) 2 (gvS s j 2 - 1)) 7 (gvS s j 7 + 1)) else gvS s j) k = s k
    split
    · unfold shC
      rw [if_neg h4, up_n h7, up_n h2, up_n (hk j (by omega)), ih (fun h hh => hk h (by omega))]
    · exact ih (fun h hh => hk h (by omega))
theorem gv_7 {s : gS} (h7 : s 7 = 0) : ∀ j, gvS s j 7 = nI (ndN s j) := by
  intro j
  induction j with
  | zero => exact h7
  | succ j ih =>
    show (if ddB s j then shC j (upd (upd (upd (gvS s j) (1100 + 10 * j) 0) 2 (gvS s j 2 - 1)) 7 (gvS s j 7 + 1)) else gvS s j) 7 = nI (ndN s j + (if ddB s j then 1 else 0))
    by_cases hd : ddB s j = true
    · rw [if_pos hd, if_pos hd]
      unfold shC
      rw [if_neg (by decide), up_s, ih, nI_1]
    · rw [if_neg hd, if_neg hd, ih, Nat.add_zero]
theorem gv_2 {s : gS} {n : Nat} (h2 : s 2 = nI n) : ∀ j, ndN s j ≤ n → gvS s j 2 = nI (n - ndN s j) := by
  intro j
  induction j with
  | zero => intro _; exact h2
  | succ j ih =>
    intro hn
    have hn' : ndN s j + (if ddB s j then 1 else 0) ≤ n := hn
    show (if ddB s j then shC j (upd (upd (upd (gvS s j) (1100 + 10 * j) 0) 2 (gvS s j 2 - 1)) 7 (gvS s j 7 + 1)) else gvS s j) 2 = nI (n - (ndN s j + (if ddB s j then 1 else 0)))
    by_cases hd : ddB s j = true
    · rw [if_pos hd] at hn' ⊢
      rw [if_pos hd]
      unfold shC
      rw [if_neg (by decide), up_n (by decide), up_s, ih (by omega), show n - ndN s j = (n - (ndN s j + 1)) + 1 by omega, nI_pred]
    · rw [if_neg hd] at hn' ⊢
      rw [if_neg hd, ih (by omega), Nat.add_zero]
theorem gv_is {s : gS} {h : Nat} : ∀ j, gvS s j (1100 + 10 * h) = if h < j ∧ ddB s h = true then 0 else s (1100 + 10 * h) := by
  intro j
  induction j with
  | zero => rw [if_neg (by omega)]; rfl
  | succ j ih =>
    show (if ddB s j then shC j (upd (upd (upd (gvS s j) (1100 + 10 * j) 0) 2 (gvS s j 2 - 1)) 7 (gvS s j 7 + 1)) else gvS s j) (1100 + 10 * h) = _
    by_cases hd : ddB s j = true
    · rw [if_pos hd]
      unfold shC
      rw [if_neg (by omega), up_n (by omega), up_n (by omega)]
      by_cases hhj : h = j
      · subst hhj; rw [up_s, if_pos ⟨by omega, hd⟩]
      · rw [up_n (by omega), ih]
        by_cases hlt : h < j ∧ ddB s h = true
        · rw [if_pos hlt, if_pos ⟨by omega, hlt.2⟩]
        · rw [if_neg hlt, if_neg (fun q => hlt ⟨by omega, q.2⟩)]
    · rw [if_neg hd, ih]
      by_cases hlt : h < j ∧ ddB s h = true
      · rw [if_pos hlt, if_pos ⟨by omega, hlt.2⟩]
      · rw [if_neg hlt, if_neg]
        intro q
        by_cases hhj : h = j
        · subst hhj; exact hd q.2
        · exact hlt ⟨by omega, q.2⟩
theorem gvs_sh {s : gS} {k : Nat} (hk : 44 ≤ k ∧ k < 76) : ∀ j, ((∃ h, h < j ∧ ddB s h = true ∧ s k = nI h) → gvS s j k = -1) ∧ ((∀ h, h < j → ddB s h = true → s k ≠ nI h) → gvS s j k = s k) := by
  intro j
  induction j with
  | zero => exact ⟨fun ⟨h, hh, _⟩ => by omega, fun _ => rfl⟩
  | succ j ih =>
    have hgv : gvS s (j + 1) k = if ddB s j then shC j (upd (upd (upd (gvS s j) (1100 + 10 * j) 0) 2 (gvS s j 2 - 1)) 7 (gvS s j 7 + 1)) k else gvS s j k := by
      show (if ddB s j then shC j (upd (upd (upd (gvS s j) (1100 + 10 * j) 0) 2 (gvS s j 2 - 1)) 7 (gvS s j 7 + 1)) else gvS s j) k = _
      split <;> rfl
    have hsc : ∀ g : gS, shC j (upd (upd (upd g (1100 + 10 * j) 0) 2 (g 2 - 1)) 7 (g 7 + 1)) k = if g k = nI j then -1 else g k := by
      intro g
      unfold shC
      rw [if_pos hk, up_n (by omega), up_n (by omega), up_n (by omega)]
    refine ⟨fun ⟨h, hh, hd, e⟩ => ?_, fun hn => ?_⟩
    · rw [hgv]
      by_cases hlt : h < j
      · rw [ih.1 ⟨h, hlt, hd, e⟩, hsc, ih.1 ⟨h, hlt, hd, e⟩]
        split
        · split <;> rfl
        · rfl
      · have : h = j := by omega
        subst this
        rw [if_pos hd, hsc]
        by_cases hx : ∃ g, g < h ∧ ddB s g = true ∧ s k = nI g
        · rw [ih.1 hx]; split <;> rfl
        · have hn : ∀ g, g < h → ddB s g = true → s k ≠ nI g := fun g g1 g2 g3 => hx ⟨g, g1, g2, g3⟩
          rw [ih.2 hn, if_pos e]
    · rw [hgv]
      have h1 := ih.2 (fun h hh => hn h (by omega))
      by_cases hd : ddB s j = true
      · rw [if_pos hd, hsc, h1, if_neg (hn j (by omega) hd)]
      · rw [if_neg hd, h1]
section GB
variable {T : Nat}
/-- the reference's shelves are cleared of h -/
theorem e_shelfC {h : Nat} {P2 : Int32 → gMem → Prop} (hh : h < 500) : ∀ (d k : Nat) (m : gMem), k + d = 76 → 44 ≤ k → ∀ Q : gMem → Prop, P2 (nI h + 1) (mr m 1 (fun j => if k ≤ j ∧ j < 76 then (if m 1 j = nI h then -1 else m 1 j) else m 1 j)) → wX10_giveBack_p111 P2 (nI h) (nI k) m Q := by
  intro d
  induction d with
  | zero =>
    intro k m hk h4 Q hQ P hP
    refine hP _ _ _ ?_
    unfold wX10_giveBack_p111_b wX10_giveBack_p149
    have hk76 : k = 76 := by omega
    subst hk76
    simp only [show (76 : Int32) ≤ nI 76 by decide, true_implies, not_true_eq_false, false_implies, and_true]
    have : (fun j => if 76 ≤ j ∧ j < 76 then (if m 1 j = nI h then (-1 : Int32) else m 1 j) else m 1 j) = m 1 := by funext j; rw [if_neg (by omega)]
    rw [this, mr_self] at hQ; exact hQ
  | succ d ih =>
    intro k m hk h4 Q hQ P hP
    refine hP _ _ _ ?_
    unfold wX10_giveBack_p111_b wX10_giveBack_p142
    rw [nI_clamp (by omega)]
    simp only [show ¬ (76 : Int32) ≤ nI k from nI_ge (b := 76) (by omega) (by decide), vp_in_nI (show k < 26100 by omega) (show 26100 < 2 ^ 31 by decide), forall_eq, nI_1, true_implies, not_false_eq_true, false_implies, true_and]
    have go : ∀ v : Int32, v = (if m 1 k = nI h then -1 else m 1 k) → P (nI h) (nI (k + 1)) (mp m 1 k v) := by
      intro v hv
      refine ih (k + 1) (mp m 1 k v) (by omega) (by omega) Q ?_ P hP
      have : mr (mp m 1 k v) 1 (fun j => if k + 1 ≤ j ∧ j < 76 then (if mp m 1 k v 1 j = nI h then (-1 : Int32) else mp m 1 k v 1 j) else mp m 1 k v 1 j) = mr m 1 (fun j => if k ≤ j ∧ j < 76 then (if m 1 j = nI h then -1 else m 1 j) else m 1 j) := by
        unfold mp; rw [mr_mr]; congr 1; funext j
        rw [mr_s]
        by_cases hj : j = k
        · subst hj; rw [if_neg (by omega), if_pos (by omega), up_s, hv]
        · rw [up_n hj]
          by_cases hj2 : k + 1 ≤ j ∧ j < 76
          · rw [if_pos hj2, if_pos (show k ≤ j ∧ j < 76 by omega)]
          · rw [if_neg hj2, if_neg (by omega)]
      rw [this]; exact hQ
    refine ⟨fun q => go _ ?_, fun q => go _ ?_⟩
    · rw [if_pos q]
    · rw [if_neg q]
/-- the class's shelves are cleared of what is not there -/
theorem x_clear {f : Nat → Int32} (c0 : gMem) (hx : ∀ (c : gMem) (k : Nat), k < 32 → (∀ i, i ≠ 21 → c i = c0 i) → ∀ Q : Int32 → gMem → Prop, wX2_has (c0 21 k) c Q = Q (if f k = c0 21 k ∧ ¬ f k = -1 then 1 else 0) c) (hf : ∀ k, k < 32 → f k = c0 21 k ∨ f k = -1) : ∀ (d k : Nat) (c : gMem), k + d = 32 → (∀ i, i ≠ 21 → c i = c0 i) → (∀ q, q < 32 → c 21 q = if q < k then f q else c0 21 q) → ∃ c', Dv (wX7_clearShelves_p10 (nI k) c) c' ∧ (∀ i, i ≠ 21 → c' i = c0 i) ∧ ∀ q, q < 32 → c' 21 q = f q := by
  intro d
  induction d with
  | zero =>
    intro k c hk h1 h2
    have hk32 : k = 32 := by omega
    subst hk32
    refine ⟨c, fun Q hQ P hP => ?_, h1, fun q hq => by rw [h2 q hq, if_pos hq]⟩
    refine hP _ _ ?_
    unfold wX7_clearShelves_p10_b
    simp only [show (32 : Int32) ≤ nI 32 by decide, true_implies, not_true_eq_false, false_implies, and_true]; exact hQ
  | succ d ih =>
    intro k c hk h1 h2
    have hk32 : k < 32 := by omega
    have ck : c 21 k = c0 21 k := by rw [h2 k hk32, if_neg (by omega)]
    by_cases hfk : f k = c0 21 k ∧ ¬ f k = -1
    · obtain ⟨c', X, r⟩ := ih (k + 1) c (by omega) h1 (fun q hq => by
        rw [h2 q hq]
        by_cases hqk : q = k
        · subst hqk; rw [if_neg (by omega), if_pos (by omega), hfk.1]
        · by_cases hlt : q < k
          · rw [if_pos hlt, if_pos (by omega)]
          · rw [if_neg hlt, if_neg (by omega)])
      refine ⟨c', fun Q hQ P hP => ?_, r⟩
      refine hP _ _ ?_
      unfold wX7_clearShelves_p10_b wX7_clearShelves_p33
      rw [nI_clamp (by omega)]
      simp only [show ¬ (32 : Int32) ≤ nI k from nI_ge (b := 32) hk32 (by decide), vp_in_nI hk32 (show 32 < 2 ^ 31 by decide), forall_eq, ck, nI_1, true_implies, not_false_eq_true, false_implies, true_and]
      rw [hx c k hk32 h1, if_pos hfk]
      simp only [i32_10, true_implies, not_false_eq_true, false_implies, true_and]
      exact X Q hQ P hP
    · have hfm : f k = -1 := by
        rcases hf k hk32 with q | q
        · exact Decidable.byContradiction (fun z => hfk ⟨q, z⟩)
        · exact q
      obtain ⟨c', X, r⟩ := ih (k + 1) (mp c 21 k (-1)) (by omega) (fun i hi => by rw [mp_n hi]; exact h1 i hi) (fun q hq => by
        rw [mp_s]
        by_cases hqk : q = k
        · subst hqk; rw [up_s, if_pos (by omega), hfm]
        · rw [up_n hqk, h2 q hq]
          by_cases hlt : q < k
          · rw [if_pos hlt, if_pos (by omega)]
          · rw [if_neg hlt, if_neg (by omega)])
      refine ⟨c', fun Q hQ P hP => ?_, r⟩
      refine hP _ _ ?_
      unfold wX7_clearShelves_p10_b wX7_clearShelves_p33
      rw [nI_clamp (by omega)]
      simp only [show ¬ (32 : Int32) ≤ nI k from nI_ge (b := 32) hk32 (by decide), vp_in_nI hk32 (show 32 < 2 ^ 31 by decide), forall_eq, ck, nI_1, true_implies, not_false_eq_true, false_implies, true_and]
      rw [hx c k hk32 h1, if_neg hfk]
      simp only [true_implies, not_true_eq_false, false_implies, and_true]
      exact X Q hQ P hP
end GB

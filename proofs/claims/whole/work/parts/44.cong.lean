/-! parts of s that agree: what stays true -/
/-- sizes, and the cells' first five numbers -/
def hqE (s s' : gS) : Prop := (∀ j, j = 0 ∨ j = 1 ∨ j = 2 ∨ j = 16 → s' j = s j) ∧ ∀ h w, h < 500 → w < 5 → s' (1100 + w + 10 * h) = s (1100 + w + 10 * h)
/-- and the words -/
def hwE (s s' : gS) : Prop := hqE s s' ∧ ∀ j, 6100 ≤ j → j < 10100 → s' j = s j
/-- and roots, shelves, registers, the words -/
def hpE (s s' : gS) : Prop := hqE s s' ∧ (∀ j, 20 ≤ j → j < 84 → s' j = s j) ∧ ∀ j, 6100 ≤ j → j < 10100 → s' j = s j
/-- the marks' part -/
def mkE (s s' : gS) : Prop := (∀ j, j = 3 ∨ j = 4 ∨ j = 17 → s' j = s j) ∧ (∀ j, 600 ≤ j → j < 1100 → s' j = s j) ∧ ∀ h w, h < 500 → 5 ≤ w → w < 10 → s' (1100 + w + 10 * h) = s (1100 + w + 10 * h)
section HP
variable {s s' : gS}
theorem nn_cong {k : Nat} (h : s' k = s k) : nn s' k = nn s k := by unfold nn; rw [h]
theorem hqE.a (e : hqE s s') : zA s' = zA s := nn_cong (e.1 0 (by simp))
theorem hqE.m (e : hqE s s') : zM s' = zM s := nn_cong (e.1 1 (by simp))
theorem hqE.u (e : hqE s s') : zU s' = zU s := nn_cong (e.1 16 (by simp))
theorem hqE.lv (e : hqE s s') {h : Nat} (hh : h < 500) : aLv s' h ↔ aLv s h := by
  have := e.2 h 0 hh (by decide)
  simp only [Nat.add_zero] at this
  unfold aLv; rw [this]
theorem hqE.kd (e : hqE s s') {h : Nat} (hh : h < 500) : aKd s' h = aKd s h := nn_cong (e.2 h 1 hh (by decide))
theorem hqE.pl (e : hqE s s') {h : Nat} (hh : h < 500) : aPl s' h = aPl s h := nn_cong (e.2 h 2 hh (by decide))
theorem hqE.mn (e : hqE s s') {h : Nat} (hh : h < 500) : aMn s' h = aMn s h := nn_cong (e.2 h 3 hh (by decide))
theorem hqE.sz (e : hqE s s') {h : Nat} (hh : h < 500) : aSz s' h = aSz s h := by unfold aSz; rw [e.kd hh, e.mn hh]
theorem hqE.lk (e : hqE s s') {h : Nat} (hh : h < 500) : aLk s' h = aLk s h := by unfold aLk; rw [e.kd hh, e.mn hh]
theorem hqE.lo (e : hqE s s') {h : Nat} (hh : h < 500) : aLo s' h = aLo s h := by unfold aLo; rw [e.kd hh]
theorem hqE.ps (e : hqE s s') {j : Nat} (hj : j ≤ 500) : aPs s' j = aPs s j := by
  induction j with
  | zero => rfl
  | succ j ih =>
    have := e.2 j 0 (by omega) (by decide)
    simp only [Nat.add_zero] at this
    show aPs s' j + (if s' (1100 + 10 * j) = 1 then aSz s' j else 0) = aPs s j + (if s (1100 + 10 * j) = 1 then aSz s j else 0)
    rw [ih (by omega), this, e.sz (by omega)]
theorem hqE.cn (e : hqE s s') {j : Nat} (hj : j ≤ 500) : aCn s' j = aCn s j := by
  induction j with
  | zero => rfl
  | succ j ih =>
    have := e.2 j 0 (by omega) (by decide)
    simp only [Nat.add_zero] at this
    show aCn s' j + (if s' (1100 + 10 * j) = 1 then 1 else 0) = aCn s j + (if s (1100 + 10 * j) = 1 then 1 else 0)
    rw [ih (by omega), this]
theorem hqE.hv (e : hqE s s') (hM : zM s ≤ 500) {x : Int32} (h : aHv s x) : aHv s' x := by
  rcases h with h | ⟨t, ht, hx, hl⟩
  · exact Or.inl h
  · exact Or.inr ⟨t, by rw [e.m]; exact ht, hx, (e.lv (by omega)).mpr hl⟩
theorem hpE.hw (e : hpE s s') : hwE s s' := ⟨e.1, e.2.2⟩
theorem hwE.jA (e : hwE s s') (h : iA s) : iA s' := by
  obtain ⟨a1, a2, a3, a4, a5, a6, a7, a8, a9⟩ := h
  unfold iA
  rw [e.1.a, e.1.m, e.1.u, e.1.1 0 (by simp), e.1.1 1 (by simp), e.1.1 16 (by simp), e.1.1 2 (by simp), e.1.ps a5, e.1.cn a5]
  exact ⟨a1, a2, a3, a4, a5, a6, a7, a8, a9⟩
theorem hwE.w (e : hwE s s') {k : Nat} (hk : k < 4000) : s' (6100 + k) = s (6100 + k) := e.2 _ (by omega) (by omega)
theorem hwE.jC (e : hwE s s') (ha : iA s) (h : iC s) : iC s' := by
  obtain ⟨a1, a2, a3, a4, a5, a6, a7, a8, a9⟩ := ha
  intro q hq
  rw [e.1.m] at hq
  have q5 : q < 500 := by omega
  have e0 := e.1.2 q 0 q5 (by decide)
  have e1 := e.1.2 q 1 q5 (by decide)
  have e2 := e.1.2 q 2 q5 (by decide)
  have e3 := e.1.2 q 3 q5 (by decide)
  simp only [Nat.add_zero, Nat.reduceAdd] at e0 e1 e2 e3
  rw [e0, e1, e2, e3, e.1.kd q5, e.1.pl q5, e.1.mn q5, e.1.ps (by omega)]
  rcases h q hq with g | ⟨g0, g1, g2, g3, g4, g5, g6, g7, g8⟩
  · exact Or.inl g
  · have hf : aPs s q + aSz s q ≤ aPs s (zM s) := aPs_fit g0 hq
    have hz := (szN_ge (n := aMn s q) g2).2
    have hz2 : 2 ≤ aSz s q := hz
    refine Or.inr ⟨g0, g1, g2, g3, g4, g5, g6, ?_, fun hm => ?_⟩
    · rw [e.w (by omega)]; exact g7
    · rw [Nat.add_assoc, e.w (by omega), ← Nat.add_assoc]; exact g8 hm
theorem hwE.jZ (e : hwE s s') (ha : iA s) (h : iZ s) : iZ s' := by
  intro k h1 h2
  rw [e.1.u] at h1
  rw [e.1.a] at h2
  have := ha.2.2.1
  rw [e.w (by omega)]
  exact h k h1 h2
theorem aLn_in {s : gS} {h i : Nat} (ha : iA s) (hc : iC s) (hh : h < zM s) (hl : aLv s h) (hi : i < aLk s h) : aPl s h + aLo s h + i < zU s ∧ zU s ≤ 4000 ∧ aPl s h + aLo s h + i < aPl s h + aSz s h := by
  obtain ⟨a1, a2, a3, a4, a5, a6, a7, a8, a9⟩ := ha
  rcases hc h hh with g | ⟨g0, g1, g2, g3, g4, g5, g6, g7, g8⟩
  · rw [hl] at g; exact absurd g (by decide)
  · have hf : aPs s h + aSz s h ≤ aPs s (zM s) := aPs_fit g0 hh
    have hz : aLk s h + aLo s h ≤ aSz s h := (szN_ge (n := aMn s h) g2).1
    omega
theorem hwE.ln (e : hwE s s') (ha : iA s) (hc : iC s) {h i : Nat} (hh : h < zM s) (hl : aLv s h) (hi : i < aLk s h) : aLn s' h i = aLn s h i := by
  have h5 : h < 500 := by have := ha.2.2.2.2.1; omega
  have := aLn_in ha hc hh hl hi
  unfold aLn
  rw [e.1.pl h5, e.1.lo h5, Nat.add_assoc, Nat.add_assoc, e.w (by omega)]
theorem hwE.jN (e : hwE s s') (ha : iA s) (hc : iC s) (h : iN s) : iN s' := by
  intro q hq hl
  rw [e.1.m] at hq
  have hM := ha.2.2.2.2.1
  have q5 : q < 500 := by omega
  have hl' := (e.1.lv q5).mp hl
  rw [e.1.lk q5, e.1.kd q5, e.1.pl q5]
  obtain ⟨g1, g2⟩ := h q hq hl'
  refine ⟨fun i hi => ?_, fun hk => ?_⟩
  · rw [e.ln ha hc hq hl' hi]; exact e.1.hv hM (g1 i hi)
  · have h2 := g2 hk
    obtain ⟨a1, a2, a3, a4, a5, a6, a7, a8, a9⟩ := ha
    rcases hc q hq with g | ⟨g0, g1, g2, g3, g4, g5, g6, g7, g8⟩
    · rw [hl'] at g; exact absurd g (by decide)
    have hf : aPs s q + aSz s q ≤ aPs s (zM s) := aPs_fit g0 hq
    have hz : 3 ≤ aSz s q := by unfold aSz szN; rcases hk with hk | hk <;> rw [hk] <;> simp
    rw [Nat.add_assoc, e.w (by omega), ← Nat.add_assoc]; exact e.1.hv hM h2
theorem hpE.ln (e : hpE s s') (ha : iA s) (hc : iC s) {h i : Nat} (hh : h < zM s) (hl : aLv s h) (hi : i < aLk s h) : aLn s' h i = aLn s h i := e.hw.ln ha hc hh hl hi
theorem hpE.jR (e : hpE s s') (ha : iA s) (h : iR s) : iR s' := by
  have hM := ha.2.2.2.2.1
  obtain ⟨h1, h2, h3⟩ := h
  refine ⟨fun r hr => ?_, fun k hk => ?_, fun r hr => ?_⟩
  · rw [e.2.1 _ (by omega) (by omega)]; exact e.1.hv hM (h1 r hr)
  · rw [e.2.1 _ (by omega) (by omega)]; exact e.1.hv hM (h2 k hk)
  · rw [e.2.1 _ (by omega) (by omega), e.1.m]; exact h3 r hr
theorem hpE.all (e : hpE s s') (h : aHp s) : aHp s' := by
  obtain ⟨a, b, c, d, r⟩ := h
  exact ⟨e.hw.jA a, e.hw.jC a b, e.hw.jZ a c, e.hw.jN a b d, e.jR a r⟩
theorem mkE.k (f : mkE s s') : zK s' = zK s := nn_cong (f.1 4 (by simp))
theorem mkE.l (f : mkE s s') : zL s' = zL s := nn_cong (f.1 17 (by simp))
theorem mkE.od (f : mkE s s') {k : Nat} (hk : k < 500) : aOd s' k = aOd s k := nn_cong (f.2.1 _ (by omega) (by omega))
theorem mkE.th (f : mkE s s') {h : Nat} (hh : h < 500) : aTh s' h = aTh s h := nn_cong (f.2.2 h 9 hh (by decide) (by decide))
theorem mkE.mk (f : mkE s s') (hK : zK s ≤ 500) {x : Int32} (h : aMk s x) : aMk s' x := by
  rcases h with h | ⟨k, hk, hx⟩
  · exact Or.inl h
  · exact Or.inr ⟨k, by rw [f.k]; exact hk, by rw [f.od (by omega)]; exact hx⟩
/-- the marks' law, where cells and marks agree (links may differ) -/
theorem mkE.all (f : mkE s s') (hA : iA s) (hm : zM s' = zM s) (hlv : ∀ h, h < zM s → aLv s h → aLv s' h) (hlk : ∀ h, h < zM s → aLv s h → aLk s' h = aLk s h) (h : iM s ∧ iO s ∧ iU s) : iM s' ∧ iO s' ∧ iU s' := by
  obtain ⟨h1, h2, h3⟩ := h
  have hM := hA.2.2.2.2.1
  refine ⟨?_, ?_, ?_⟩
  · unfold iM
    rw [f.k, f.l, f.1 3 (by simp), f.1 4 (by simp), f.1 17 (by simp), hm]
    exact h1
  · intro k hk
    rw [f.k] at hk
    obtain ⟨g1, g2, g3, g4, g5, g6, g7, g8⟩ := h2 k hk
    have hK := h1.2.2.1
    have e5 := f.2.2 (aOd s k) 5 (by omega) (by decide) (by decide)
    have e9 := f.2.2 (aOd s k) 9 (by omega) (by decide) (by decide)
    simp only [Nat.reduceAdd] at e5 e9
    rw [f.2.1 _ (by omega) (by omega), f.od (by omega), hm, e5, e9, f.th (by omega), hlk _ g2 g3, f.l]
    exact ⟨g1, g2, hlv _ g2 g3, g4, g5, g6, g7, g8⟩
  · intro q hq
    rw [hm] at hq
    have e5 := f.2.2 q 5 (by omega) (by decide) (by decide)
    simp only [Nat.reduceAdd] at e5
    rw [e5]
    rcases h3 q hq with g | ⟨k, hk, g⟩
    · exact Or.inl g
    · have hK := h1.2.2.1
      exact Or.inr ⟨k, by rw [f.k]; exact hk, by rw [f.od (by omega)]; exact g⟩
theorem both_iL (e : hpE s s') (f : mkE s s') (hp : aHp s) (hm : iM s ∧ iO s ∧ iU s) (h : iL s) : iL s' := by
  obtain ⟨g1, g2⟩ := h
  have hM := hp.1.2.2.2.2.1
  have hK := hm.1.2.2.1
  refine ⟨fun k hk i hi => ?_, fun h3 r hr => ?_⟩
  · rw [f.k] at hk
    obtain ⟨o1, o2, o3, o4, o5, o6, o7, o8⟩ := hm.2.1 k hk
    rw [f.od (by omega), f.th (by omega)] at hi
    rw [f.od (by omega), e.ln hp.1 hp.2.1 o2 o3 (by omega)]
    exact f.mk (by omega) (g1 k hk i hi)
  · rw [f.1 3 (by simp)] at h3
    rw [e.2.1 _ (by omega) (by omega)]
    exact f.mk (by omega) (g2 h3 r hr)
end HP

/-! weak links fade -/
def kpB (s : gS) (h : Nat) : Bool := decide (s (1100 + 10 * h) = 1) && !decide (s (1105 + 10 * h) = 0)
theorem kpB_t {s : gS} {h : Nat} : kpB s h = true ↔ aLv s h ∧ ¬ s (1105 + 10 * h) = 0 := by unfold kpB; simp
def kpH (s : gS) (x : Int32) : Prop := x = -1 ∨ ∃ t : Nat, t < zM s ∧ x = nI t ∧ kpB s t = true
def fdF (c1 m1 : gMem) (s : gS) : Prop := aHp s ∧ c1 2 2 = nI (zM s) ∧ m1 1 1 = nI (zM s) ∧ (∀ h, h < zM s → m1 1 (1100 + 10 * h) = (if kpB s h then 1 else 0) ∧ c1 4 h = (if kpB s h then nI (aPl s h) else -1) ∧ m1 1 (1101 + 10 * h) = s (1101 + 10 * h) ∧ m1 1 (1102 + 10 * h) = s (1102 + 10 * h)) ∧ c1 12 0 = m1 1 5
def fdR (c1 m1 : gMem) (s : gS) (B j : Nat) (c m : gMem) : Prop :=
  (∀ k, k ≠ 10 → ¬ (100 ≤ k ∧ k < 400) → ¬ (6100 ≤ k ∧ k < 10100) → m 1 k = m1 1 k) ∧ (∀ i, i ≠ 1 → i ≠ 4 → m i = m1 i) ∧ (∀ i, i ≠ 3 → i ≠ 12 → i ≠ 13 → i ≠ 64 → c i = c1 i) ∧
  ((∀ k, k ≠ 5 → c 12 k = c1 12 k) ∧ c 12 5 = m 1 10 ∧ (∃ z : Nat, m 1 10 = nI z ∧ z ≤ B ∧ ∀ k, k < 300 → k < 3 * z → c 13 k = m 1 (100 + k)) ∧ ∀ b, b < 14 → c 64 b = m 4 b) ∧
  ((∀ k, k < zU s → c 3 k = m 1 (6100 + k)) ∧ ∀ k, zU s ≤ k → c 3 k = c1 3 k ∧ m 1 (6100 + k) = m1 1 (6100 + k)) ∧
  (∀ h, h < zM s → aLv s h → ∀ i, i < aSz s h → ¬ ((aKd s h = 3 ∨ aKd s h = 4) ∧ i = 2) → m 1 (6100 + (aPl s h + i)) = s (6100 + (aPl s h + i))) ∧
  ∀ h, h < zM s → kpB s h = true → (aKd s h = 3 ∨ aKd s h = 4) → (h < j → kpH s (m 1 (6100 + (aPl s h + 2)))) ∧ (j ≤ h → m 1 (6100 + (aPl s h + 2)) = s (6100 + (aPl s h + 2)))
section FD
variable {c1 m1 c m : gMem} {s : gS} {B j : Nat}
theorem hp_cell (hp : aHp s) {h : Nat} (hh : h < zM s) (hl : aLv s h) : s (1101 + 10 * h) = nI (aKd s h) ∧ aKd s h ≤ 5 ∧ s (1102 + 10 * h) = nI (aPl s h) ∧ aPl s h = aPs s h ∧ s (1103 + 10 * h) = nI (aMn s h) ∧ aMn s h ≤ 300 ∧ s (6100 + aPl s h) = nI (8 * h + aKd s h) ∧ (aMany (aKd s h) → s (6100 + aPl s h + 1) = nI (aMn s h)) ∧ aPl s h + aSz s h ≤ zU s ∧ zU s ≤ 4000 ∧ 2 ≤ aSz s h := by
  rcases hp.2.1 h hh with q | ⟨q1, q2, q3, q4, q5, q6, q7, q8, q9⟩
  · exact absurd (hl.symm.trans q) (by decide)
  · have h1 := aPs_fit hl hh
    have a := hp.1
    obtain ⟨a1, a2, a3, a4, a5, a6, a7, a8, a9⟩ := a
    have h2 := (szN_ge (n := aMn s h) q3).2
    have : aSz s h = szN (aKd s h) (aMn s h) := rfl
    exact ⟨q2, q3, q4, q5, q6, q7, q8, q9, by omega, by omega, by omega⟩
theorem sz_weak {h : Nat} (hk : aKd s h = 3 ∨ aKd s h = 4) : aSz s h = aKd s h := by
  unfold aSz
  rcases hk with e | e <;> rw [e] <;> rfl
theorem fdR.skip (h : fdR c1 m1 s B j c m) (hn : kpB s j = true → (aKd s j = 3 ∨ aKd s j = 4) → kpH s (m 1 (6100 + (aPl s j + 2)))) : fdR c1 m1 s B (j + 1) c m := by
  obtain ⟨h1, h2, h3, h4, h5, h6, h7⟩ := h
  refine ⟨h1, h2, h3, h4, h5, h6, fun g hg k w => ⟨fun q => ?_, fun q => (h7 g hg k w).2 (by omega)⟩⟩
  by_cases e : g = j
  · subst e; exact hn k w
  · exact (h7 g hg k w).1 (by omega)
theorem fdR.word (hp : aHp s) (hj : j < zM s) (kj : kpB s j = true) (wj : aKd s j = 3 ∨ aKd s j = 4) (h : fdR c1 m1 s B j c m) : fdR c1 m1 s B (j + 1) (mp c 3 (aPl s j + 2) (-1)) (mp m 1 (6100 + (aPl s j + 2)) (-1)) := by
  obtain ⟨h1, h2, h3, ⟨h41, h42, ⟨z, h43, h44, h45⟩, h46⟩, ⟨h51, h52⟩, h6, h7⟩ := h
  have hl := (kpB_t.mp kj).1
  obtain ⟨-, -, -, -, -, -, -, -, f1, f2, -⟩ := hp_cell hp hj hl
  have hsz := sz_weak wj
  have hap : ∀ g i, g < zM s → aLv s g → i < aSz s g → g ≠ j → aPl s g + i ≠ aPl s j + 2 := fun g i hg kg hi hne => (cell_apart hp hj hl hg kg (by omega) hi hne).symm
  refine ⟨fun k a b d => ?_, fun i a b => by rw [mp_n a]; exact h2 i a b, fun i a b d e => by rw [mp_n a]; exact h3 i a b d e, ⟨fun k hk => by rw [mp_n (by decide)]; exact h41 k hk, ?_, ⟨z, ?_, h44, fun k a b => ?_⟩, fun b hb => by rw [mp_n (by decide), mp_n (by decide)]; exact h46 b hb⟩, ⟨fun k hk => ?_, fun k hk => ?_⟩, fun g hg kg i hi hw => ?_, fun g hg kg wg => ⟨fun q => ?_, fun q => ?_⟩⟩
  · rw [mp_s, up_n (by omega)]; exact h1 k a b d
  · rw [mp_n (by decide), mp_s, up_n (by omega)]; exact h42
  · rw [mp_s, up_n (by omega)]; exact h43
  · rw [mp_n (by decide), mp_s, up_n (by omega)]; exact h45 k a b
  · rw [mp_s, mp_s]
    by_cases e : k = aPl s j + 2
    · subst e; rw [up_s, up_s]
    · rw [up_n e, up_n (by omega)]; exact h51 k hk
  · rw [mp_s, mp_s, up_n (by omega), up_n (by omega)]; exact h52 k hk
  · rw [mp_s, up_n]
    · exact h6 g hg kg i hi hw
    · by_cases e : g = j
      · subst e
        intro q
        exact hw ⟨wj, by omega⟩
      · have := hap g i hg kg hi e
        omega
  · rw [mp_s]
    by_cases e : g = j
    · subst e; rw [up_s]; exact Or.inl rfl
    · have := hap g 2 hg (kpB_t.mp kg).1 (by have := sz_weak wg; omega) e
      rw [up_n (by omega)]; exact (h7 g hg kg wg).1 (by omega)
  · have := hap g 2 hg (kpB_t.mp kg).1 (by have := sz_weak wg; omega) (by omega)
    rw [mp_s, up_n (by omega)]; exact (h7 g hg kg wg).2 (by omega)
theorem fdR.tr {b : Nat} {x : Int32} (h : fdR c1 m1 s B j c m) : fdR c1 m1 s B j (mp c 64 b x) (mp m 4 b x) := by
  obtain ⟨h1, h2, h3, ⟨h41, h42, ⟨z, h43, h44, h45⟩, h46⟩, ⟨h51, h52⟩, h6, h7⟩ := h
  refine ⟨fun k a b d => by rw [mp_n (by decide)]; exact h1 k a b d, fun i a b => by rw [mp_n b]; exact h2 i a b, fun i a b d e => by rw [mp_n e]; exact h3 i a b d e, ⟨fun k hk => by rw [mp_n (by decide)]; exact h41 k hk, by rw [mp_n (by decide), mp_n (by decide)]; exact h42, ⟨z, by rw [mp_n (by decide)]; exact h43, h44, fun k a b => by rw [mp_n (by decide), mp_n (by decide)]; exact h45 k a b⟩, fun q hq => ?_⟩, ⟨fun k hk => by rw [mp_n (by decide), mp_n (by decide)]; exact h51 k hk, fun k hk => by rw [mp_n (by decide), mp_n (by decide)]; exact h52 k hk⟩, fun g hg kg i hi hw => by rw [mp_n (by decide)]; exact h6 g hg kg i hi hw, fun g hg kg wg => by rw [mp_n (by decide)]; exact h7 g hg kg wg⟩
  rw [mp_s, mp_s]
  by_cases e : q = b
  · subst e; rw [up_s, up_s]
  · rw [up_n e, up_n e]; exact h46 q hq
theorem fdR.tellA {z : Nat} (hz : m 1 10 = nI z) (hz3 : z < 2 ^ 31) (hz2 : 100 ≤ z) (hB : B < 2 ^ 31) (h : fdR c1 m1 s B j c m) : fdR c1 m1 s (B + 1) j (mp c 12 5 (nI (z + 1))) (mp m 1 10 (nI (z + 1))) := by
  obtain ⟨h1, h2, h3, ⟨h41, h42, ⟨z', h43, h44, h45⟩, h46⟩, ⟨h51, h52⟩, h6, h7⟩ := h
  have zz : z' = z := nI_inj (by omega) hz3 (h43.symm.trans hz)
  subst zz
  refine ⟨fun k a b d => by rw [mp_s, up_n a]; exact h1 k a b d, fun i a b => by rw [mp_n a]; exact h2 i a b, fun i a b d e => by rw [mp_n b]; exact h3 i a b d e, ⟨fun k hk => by rw [mp_s, up_n hk]; exact h41 k hk, by rw [mp_s, mp_s, up_s, up_s], ⟨z' + 1, ?_, by omega, fun k a b => ?_⟩, fun q hq => by rw [mp_n (by decide), mp_n (by decide)]; exact h46 q hq⟩, ⟨fun k hk => by rw [mp_n (by decide), mp_s, up_n (by omega)]; exact h51 k hk, fun k hk => by rw [mp_n (by decide), mp_s, up_n (by omega)]; exact h52 k hk⟩, fun g hg kg i hi hw => by rw [mp_s, up_n (by omega)]; exact h6 g hg kg i hi hw, fun g hg kg wg => by rw [mp_s, up_n (by omega)]; exact h7 g hg kg wg⟩
  · rw [mp_s, up_s]
  · rw [mp_n (by decide), mp_s, up_n (by omega)]
    refine h45 k a ?_
    omega
theorem fdR.tellB {z : Nat} {x y w : Int32} (hz : m 1 10 = nI z) (hz2 : z < 100) (hB : B < 2 ^ 31) (h : fdR c1 m1 s B j c m) : fdR c1 m1 s (B + 1) j (mp (mp (mp (mp c 13 (3 * z) x) 13 (3 * z + 1) y) 13 (3 * z + 2) w) 12 5 (nI (z + 1))) (mp (mp (mp (mp m 1 (100 + 3 * z) x) 1 (100 + 3 * z + 1) y) 1 (100 + 3 * z + 2) w) 1 10 (nI (z + 1))) := by
  obtain ⟨h1, h2, h3, ⟨h41, h42, ⟨z', h43, h44, h45⟩, h46⟩, ⟨h51, h52⟩, h6, h7⟩ := h
  have zz : z' = z := nI_inj (by omega) (by omega) (h43.symm.trans hz)
  subst zz
  have hm : ∀ k, k ≠ 10 → ¬ (100 ≤ k ∧ k < 400) → mp (mp (mp (mp m 1 (100 + 3 * z') x) 1 (100 + 3 * z' + 1) y) 1 (100 + 3 * z' + 2) w) 1 10 (nI (z' + 1)) 1 k = m 1 k := fun k a b => by
    rw [mp_s, up_n a, mp_s, up_n (by omega), mp_s, up_n (by omega), mp_s, up_n (by omega)]
  refine ⟨fun k a b d => by rw [hm k a b]; exact h1 k a b d, fun i a b => by rw [mp_n a, mp_n a, mp_n a, mp_n a]; exact h2 i a b, fun i a b d e => by rw [mp_n b, mp_n d, mp_n d, mp_n d]; exact h3 i a b d e, ⟨fun k hk => by rw [mp_s, up_n hk, mp_n (by decide), mp_n (by decide), mp_n (by decide)]; exact h41 k hk, by rw [mp_s, mp_s, up_s, up_s], ⟨z' + 1, by rw [mp_s, up_s], by omega, fun k a b => ?_⟩, fun q hq => by rw [mp_n (by decide), mp_n (by decide), mp_n (by decide), mp_n (by decide), mp_n (by decide), mp_n (by decide), mp_n (by decide), mp_n (by decide)]; exact h46 q hq⟩, ⟨fun k hk => ?_, fun k hk => ?_⟩, fun g hg kg i hi hw => by rw [hm _ (by omega) (by omega)]; exact h6 g hg kg i hi hw, fun g hg kg wg => by rw [hm _ (by omega) (by omega)]; exact h7 g hg kg wg⟩
  · have hx : mp (mp (mp (mp c 13 (3 * z') x) 13 (3 * z' + 1) y) 13 (3 * z' + 2) w) 12 5 (nI (z' + 1)) 13 = upd (upd (upd (c 13) (3 * z') x) (3 * z' + 1) y) (3 * z' + 2) w := by rw [mp_n (by decide), mp_s, mp_s, mp_s]
    have hy : mp (mp (mp (mp m 1 (100 + 3 * z') x) 1 (100 + 3 * z' + 1) y) 1 (100 + 3 * z' + 2) w) 1 10 (nI (z' + 1)) 1 (100 + k) = upd (upd (upd (m 1) (100 + 3 * z') x) (100 + 3 * z' + 1) y) (100 + 3 * z' + 2) w (100 + k) := by rw [mp_s, up_n (show 100 + k ≠ 10 by omega), mp_s, mp_s, mp_s]
    rw [hx, hy]
    unfold upd
    by_cases e2 : k = 3 * z' + 2
    · subst e2; simp [show 100 + (3 * z' + 2) = 100 + 3 * z' + 2 by omega]
    · rw [if_neg e2, if_neg (show ¬ 100 + k = 100 + 3 * z' + 2 by omega)]
      by_cases e1 : k = 3 * z' + 1
      · subst e1; simp [show 100 + (3 * z' + 1) = 100 + 3 * z' + 1 by omega]
      · rw [if_neg e1, if_neg (show ¬ 100 + k = 100 + 3 * z' + 1 by omega)]
        by_cases e0 : k = 3 * z'
        · subst e0; simp
        · rw [if_neg e0, if_neg (show ¬ 100 + k = 100 + 3 * z' by omega)]; exact h45 k a (by omega)
  · rw [hm _ (by omega) (by omega), mp_n (by decide), mp_n (by decide), mp_n (by decide), mp_n (by decide)]; exact h51 k hk
  · rw [hm _ (by omega) (by omega), mp_n (by decide), mp_n (by decide), mp_n (by decide), mp_n (by decide)]; exact h52 k hk
end FD

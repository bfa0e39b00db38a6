/-! ONE MATHEMATICAL VALUE: s, the reference's row of numbers, read as numbers; what always holds of it (aSI); how the class's memory shows it (aSR) -/
def Dv (w : (gMem → Prop) → Prop) (c : gMem) : Prop := ∀ Q : gMem → Prop, Q c → w Q
def Di (w : (Int32 → gMem → Prop) → Prop) (r : Int32) (c : gMem) : Prop := ∀ Q : Int32 → gMem → Prop, Q r c → w Q
abbrev gS : Type := Nat → Int32
def nn (s : gS) (k : Nat) : Nat := (s k).toNatClampNeg
abbrev zA (s : gS) : Nat := nn s 0
abbrev zM (s : gS) : Nat := nn s 1
abbrev zK (s : gS) : Nat := nn s 4
abbrev zU (s : gS) : Nat := nn s 16
abbrev zL (s : gS) : Nat := nn s 17
abbrev zR (s : gS) : Nat := nn s 15
abbrev zT (s : gS) : Nat := nn s 10
abbrev aLv (s : gS) (h : Nat) : Prop := s (1100 + 10 * h) = 1
abbrev aKd (s : gS) (h : Nat) : Nat := nn s (1101 + 10 * h)
abbrev aPl (s : gS) (h : Nat) : Nat := nn s (1102 + 10 * h)
abbrev aMn (s : gS) (h : Nat) : Nat := nn s (1103 + 10 * h)
abbrev aTh (s : gS) (h : Nat) : Nat := nn s (1109 + 10 * h)
abbrev aOd (s : gS) (k : Nat) : Nat := nn s (600 + k)
def szN (k n : Nat) : Nat := if k = 0 ∨ k = 3 then 3 else if k = 4 then 4 else if k = 1 then 2 + n else if k = 5 then 2 + 2 * n else 2 + (n + 3) / 4
def lkN (k n : Nat) : Nat := if k = 0 then 2 else if k = 3 ∨ k = 4 then 1 else if k = 2 then 0 else n
def loN (k : Nat) : Nat := if k = 1 ∨ k = 5 then 2 else 1
def aSz (s : gS) (h : Nat) : Nat := szN (aKd s h) (aMn s h)
def aLk (s : gS) (h : Nat) : Nat := lkN (aKd s h) (aMn s h)
def aLo (s : gS) (h : Nat) : Nat := loN (aKd s h)
def aLn (s : gS) (h i : Nat) : Int32 := s (6100 + aPl s h + aLo s h + i)
def aPs (s : gS) : Nat → Nat
  | 0 => 0
  | j + 1 => aPs s j + (if s (1100 + 10 * j) = 1 then aSz s j else 0)
def aCn (s : gS) : Nat → Nat
  | 0 => 0
  | j + 1 => aCn s j + (if s (1100 + 10 * j) = 1 then 1 else 0)
/-- nothing, or a cell that is there -/
def aHv (s : gS) (x : Int32) : Prop := x = -1 ∨ ∃ t : Nat, t < zM s ∧ x = nI t ∧ aLv s t
/-- nothing, or a marked cell -/
def aMk (s : gS) (x : Int32) : Prop := x = -1 ∨ ∃ k : Nat, k < zK s ∧ x = nI (aOd s k)
def aMany (k : Nat) : Prop := k = 1 ∨ k = 2 ∨ k = 5
/-- sizes and cells -/
def iA (s : gS) : Prop := s 0 = nI (zA s) ∧ 16 ≤ zA s ∧ zA s ≤ 4000 ∧ s 1 = nI (zM s) ∧ zM s ≤ 500 ∧ s 16 = nI (zU s) ∧ zU s = aPs s (zM s) ∧ zU s ≤ zA s ∧ s 2 = nI (aCn s (zM s))
def iC (s : gS) : Prop := ∀ h, h < zM s → (s (1100 + 10 * h) = 0 ∨ s (1100 + 10 * h) = 1 ∧ s (1101 + 10 * h) = nI (aKd s h) ∧ aKd s h ≤ 5 ∧ s (1102 + 10 * h) = nI (aPl s h) ∧ aPl s h = aPs s h ∧ s (1103 + 10 * h) = nI (aMn s h) ∧ aMn s h ≤ 300 ∧ s (6100 + aPl s h) = nI (8 * h + aKd s h) ∧ (aMany (aKd s h) → s (6100 + aPl s h + 1) = nI (aMn s h)))
def iZ (s : gS) : Prop := ∀ k, zU s ≤ k → k < zA s → s (6100 + k) = 0
def iN (s : gS) : Prop := ∀ h, h < zM s → aLv s h → (∀ i, i < aLk s h → aHv s (aLn s h i)) ∧ (aKd s h = 3 ∨ aKd s h = 4 → aHv s (s (6100 + aPl s h + 2)))
def iR (s : gS) : Prop := (∀ r, r < 24 → aHv s (s (20 + r))) ∧ (∀ k, k < 32 → aHv s (s (44 + k))) ∧ ∀ r, r < 8 → s (76 + r) = -1 ∨ ∃ t : Nat, t < zM s ∧ s (76 + r) = nI t
/-- marks -/
def iM (s : gS) : Prop := (s 3 = 0 ∨ s 3 = 1) ∧ s 4 = nI (zK s) ∧ zK s ≤ zM s ∧ s 17 = nI (zL s) ∧ zL s ≤ zK s ∧ (s 3 = 0 → zK s = 0)
def iO (s : gS) : Prop := ∀ k, k < zK s → s (600 + k) = nI (aOd s k) ∧ aOd s k < zM s ∧ aLv s (aOd s k) ∧ s (1105 + 10 * aOd s k) = nI (k + 1) ∧ s (1109 + 10 * aOd s k) = nI (aTh s (aOd s k)) ∧ aTh s (aOd s k) ≤ aLk s (aOd s k) ∧ (k < zL s → aTh s (aOd s k) = aLk s (aOd s k)) ∧ (zL s < k → aTh s (aOd s k) = 0)
def iU (s : gS) : Prop := ∀ h, h < zM s → s (1105 + 10 * h) = 0 ∨ ∃ k, k < zK s ∧ aOd s k = h
def iL (s : gS) : Prop := (∀ k, k < zK s → ∀ i, i < aTh s (aOd s k) → aMk s (aLn s (aOd s k) i)) ∧ (s 3 = 1 → ∀ r, r < 24 → aMk s (s (20 + r)))
/-- tellings, paper, program -/
def iT (T : Nat) (s : gS) : Prop := s 10 = nI (zT s) ∧ zT s ≤ T
def iP (s : gS) : Prop := s 15 = nI (zR s) ∧ (zR s = 0 ∨ 27 ≤ zR s) ∧ zR s ≤ 6527
def isIn (x : Int32) (n : Nat) : Prop := ∃ j : Nat, j < n ∧ x = nI j
/-- an act that may be kept -/
def aAct (w a b c : Int32) : Prop := ∃ wn : Nat, wn ≤ 12 ∧ w = nI wn ∧
  (wn = 0 → isIn a 8 ∧ ∃ bn : Nat, bn ≤ 5 ∧ b = nI bn ∧ (aMany bn → c.toInt ≤ 300)) ∧ (wn = 1 ∨ wn = 2 ∨ wn = 7 → isIn a 8 ∧ isIn c 8) ∧ (wn = 3 ∨ wn = 4 → isIn a 24 ∧ isIn b 8) ∧ (wn = 5 ∨ wn = 6 → isIn a 8 ∧ isIn b 8) ∧ (wn = 8 ∨ wn = 11 → isIn a 8) ∧ (wn = 9 → isIn a 1001) ∧ (wn = 12 → isIn a 4 ∧ isIn c 8)
def iG (s : gS) : Prop := ∃ n j : Nat, s 11 = nI n ∧ n ≤ 40 ∧ s 12 = nI j ∧ (j < n ∨ j = 0 ∧ n = 0) ∧ ∀ q, q < n → aAct (s (400 + 5 * q)) (s (401 + 5 * q)) (s (402 + 5 * q)) (s (403 + 5 * q))
/-- all of the heap; all but the law of marks; all -/
def aHp (s : gS) : Prop := iA s ∧ iC s ∧ iZ s ∧ iN s ∧ iR s
def aS0 (T : Nat) (s : gS) : Prop := aHp s ∧ (iM s ∧ iO s ∧ iU s) ∧ iT T s ∧ iP s ∧ iG s
def aSI (T : Nat) (s : gS) : Prop := aS0 T s ∧ iL s
/-- how the class shows it: b is the State's cell -/
def rH (b : Nat) (c : gMem) (s : gS) : Prop := c (b + 1) 0 = s 0 ∧ c (b + 1) 1 = s 16 ∧ c (b + 1) 2 = s 1 ∧ c (b + 1) 3 = s 2
def rW (b : Nat) (c : gMem) (s : gS) : Prop := (∀ k, k < zU s → c (b + 2) k = s (6100 + k)) ∧ ∀ k, zU s ≤ k → k < 4000 → c (b + 2) k = 0
def rC (b : Nat) (c : gMem) (s : gS) : Prop := ∀ h, h < zM s → (aLv s h → c (b + 3) h = s (1102 + 10 * h) ∧ c (b + 4) h = s (1104 + 10 * h)) ∧ (¬ aLv s h → c (b + 3) h = -1)
def rM (b : Nat) (c : gMem) (s : gS) : Prop := c (b + 5) 0 = s 3 ∧ c (b + 5) 1 = s 4 ∧ c (b + 5) 2 = s 17 ∧ c (b + 5) 3 = (if zL s < zK s then s (1109 + 10 * aOd s (zL s)) else 0)
def rO (b : Nat) (c : gMem) (s : gS) : Prop := ∀ k, k < zK s → c (b + 6) k = s (600 + k) ∧ c (b + 8) (aOd s k) = s (1106 + 10 * aOd s k) ∧ c (b + 9) (aOd s k) = s (1107 + 10 * aOd s k) ∧ c (b + 10) (aOd s k) = s (1108 + 10 * aOd s k)
def rK (b : Nat) (c : gMem) (s : gS) : Prop := (∀ h, h < zM s → c (b + 7) h = s (1105 + 10 * h)) ∧ ∀ h, zM s ≤ h → h < 500 → c (b + 7) h = 0
def rT (b : Nat) (c : gMem) (s : gS) : Prop := (∀ k, k < 6 → c (b + 11) k = s (5 + k)) ∧ ∀ k, k < 300 → k < 3 * zT s → c (b + 12) k = s (100 + k)
def rP (b : Nat) (c : gMem) (s : gS) : Prop := c (b + 13) 0 = s 15 ∧ ∀ k, k < zR s → c (b + 14) k = s (18100 + k) ∧ c (b + 15) k = s (10100 + k)
def rG (b : Nat) (c : gMem) (s : gS) : Prop := (∀ k, k < 4 → c (b + 16) k = s (11 + k)) ∧ (∀ k, k < 5 * nn s 11 → c (b + 17) k = s (400 + k)) ∧ ∀ r, r < 8 → c (b + 18) r = s (76 + r)
def rR (b : Nat) (c : gMem) (s : gS) : Prop := (∀ r, r < 24 → c (b + 19) r = s (20 + r)) ∧ ∀ k, k < 32 → c (b + 20) k = s (44 + k)
def aSR (b : Nat) (c : gMem) (s : gS) : Prop := rH b c s ∧ rW b c s ∧ rC b c s ∧ rM b c s ∧ rO b c s ∧ rK b c s ∧ rT b c s ∧ rP b c s ∧ rG b c s ∧ rR b c s
/-! numbers -/
theorem nn_nI {s : gS} {k n : Nat} (h : s k = nI n) (hn : n < 2 ^ 31) : nn s k = n := by rw [nn, h, nI_clamp hn]
theorem nI_inj {a b : Nat} (ha : a < 2 ^ 31) (hb : b < 2 ^ 31) (h : nI a = nI b) : a = b := (nI_eq ha hb).mp h
theorem nI_m1 {a : Nat} (ha : a < 2 ^ 31) : ¬ nI a = -1 := by
  intro h
  have := congrArg Int32.toInt h
  rw [nI_toInt ha] at this
  have e : (-1 : Int32).toInt = -1 := by decide
  omega
theorem nI_lit (n : Nat) : nI n = Int32.ofNat n := rfl
theorem ne_m1_lt : (-1 : Int32) < 0 := by decide
theorem mp_s {c : gMem} {i j : Nat} {v : Int32} : mp c i j v i = upd (c i) j v := if_pos rfl
theorem mp_n {c : gMem} {i j a : Nat} {v : Int32} (h : a ≠ i) : mp c i j v a = c a := if_neg h
theorem up_s {f : Nat → Int32} {j : Nat} {v : Int32} : upd f j v j = v := if_pos rfl
theorem up_n {f : Nat → Int32} {j k : Nat} {v : Int32} (h : k ≠ j) : upd f j v k = f k := if_neg h
/-! sums over cells -/
theorem aPs_le {s : gS} : ∀ {i j : Nat}, i ≤ j → aPs s i ≤ aPs s j := by
  intro i j h
  induction h with
  | refl => exact Nat.le_refl _
  | step _ ih => exact Nat.le_trans ih (Nat.le_add_right _ _)
theorem aPs_lv {s : gS} {h : Nat} (hl : aLv s h) : aPs s (h + 1) = aPs s h + aSz s h := by
  show aPs s h + (if s (1100 + 10 * h) = 1 then aSz s h else 0) = _
  rw [if_pos hl]
theorem aPs_dead {s : gS} {h : Nat} (hl : ¬ aLv s h) : aPs s (h + 1) = aPs s h := by
  show aPs s h + (if s (1100 + 10 * h) = 1 then aSz s h else 0) = _
  rw [if_neg hl, Nat.add_zero]
theorem aPs_fit {s : gS} {h j : Nat} (hl : aLv s h) (hj : h < j) : aPs s h + aSz s h ≤ aPs s j := by
  rw [← aPs_lv hl]
  exact aPs_le hj
theorem szN_ge {k n : Nat} (hk : k ≤ 5) : lkN k n + loN k ≤ szN k n ∧ 2 ≤ szN k n := by
  unfold lkN loN szN
  rcases (by omega : k = 0 ∨ k = 1 ∨ k = 2 ∨ k = 3 ∨ k = 4 ∨ k = 5) with rfl | rfl | rfl | rfl | rfl | rfl <;> simp <;> omega
theorem szN_le {k n : Nat} (hn : n ≤ 300) : szN k n ≤ 602 := by
  unfold szN
  repeat' split
  all_goals omega

/-! the class's small methods: what each asks for, told as an equation -/
def isaN (w k : Nat) : Bool := match w with
  | 0 => k == 0 || k == 3 || k == 4
  | 1 => k == 1 || k == 5
  | 2 => k == 2
  | 3 => k == 3 || k == 4
  | 4 => k == 4
  | _ => k == 5
theorem nI_and7 {h k : Nat} (hh : h < 500) (hk : k ≤ 5) : nI (8 * h + k) &&& 7 = nI k := by
  rw [pk_andN (by omega) 3 (by decide)]
  congr 1
  omega
theorem isA_bit {w k : Nat} (hw : w < 6) (hk : k ≤ 5) : ((gs_n 0).2.2.getD w 0 >>> (nI k &&& 31)) &&& 1 = (if isaN w k then 1 else 0) := by
  rcases (by omega : w = 0 ∨ w = 1 ∨ w = 2 ∨ w = 3 ∨ w = 4 ∨ w = 5) with rfl | rfl | rfl | rfl | rfl | rfl <;> rcases (by omega : k = 0 ∨ k = 1 ∨ k = 2 ∨ k = 3 ∨ k = 4 ∨ k = 5) with rfl | rfl | rfl | rfl | rfl | rfl <;> decide
section EX
variable {c : gMem} {h k n p i w : Nat} {Q : Int32 → gMem → Prop} {V : gMem → Prop} {v : Int32}
theorem x_made1 (h1 : c 2 2 = nI n) (hn : n ≤ 500) (hh : h < n) : wX2_wasMade (nI h) c Q = Q 1 c := by
  unfold wX2_wasMade
  simp only [forall_eq, h1, nI_pos (show h < 2 ^ 31 by omega), nI_ge hh (show n < 2 ^ 31 by omega), true_implies, false_implies, not_true_eq_false, not_false_eq_true, true_and, and_true]
theorem x_made0 {x : Int32} (h1 : c 2 2 = nI n) (hx : x < 0 ∨ nI n ≤ x) : wX2_wasMade x c Q = Q 0 c := by
  unfold wX2_wasMade
  by_cases h0 : x < 0
  · simp only [h0, true_implies, false_implies, not_true_eq_false, not_false_eq_true, true_and, and_true]
  · simp only [forall_eq, h0, h1, hx.resolve_left h0, true_implies, false_implies, not_true_eq_false, not_false_eq_true, true_and, and_true]
theorem x_has1 (h1 : c 2 2 = nI n) (hn : n ≤ 500) (hh : h < n) (h4 : c 4 h = nI p) (hp : p < 4000) : wX2_has (nI h) c Q = Q 1 c := by
  unfold wX2_has
  simp only [forall_eq, h1, nI_pos (show h < 2 ^ 31 by omega), nI_ge hh (show n < 2 ^ 31 by omega), vp_in_nI (show h < 500 by omega) (show 500 < 2 ^ 31 by decide), nI_clamp (show h < 2 ^ 31 by omega), h4, nI_pos (show p < 2 ^ 31 by omega), true_implies, false_implies, not_true_eq_false, not_false_eq_true, true_and, and_true]
theorem x_has0 (h1 : c 2 2 = nI n) (hn : n ≤ 500) (hh : h < n) (h4 : c 4 h = -1) : wX2_has (nI h) c Q = Q 0 c := by
  unfold wX2_has
  simp only [forall_eq, h1, nI_pos (show h < 2 ^ 31 by omega), nI_ge hh (show n < 2 ^ 31 by omega), vp_in_nI (show h < 500 by omega) (show 500 < 2 ^ 31 by decide), nI_clamp (show h < 2 ^ 31 by omega), h4, ne_m1_lt, true_implies, false_implies, not_true_eq_false, not_false_eq_true, true_and, and_true]
theorem x_hasN : wX2_has (-1) c Q = Q 0 c := by
  unfold wX2_has
  simp [ne_m1_lt]
theorem x_kindOf (hh : h < 500) (h4 : c 4 h = nI p) (hp : p < 4000) (h3 : c 3 p = nI (8 * h + k)) (hk : k ≤ 5) : wX2_kindOf (nI h) c Q = Q (nI k) c := by
  unfold wX2_kindOf
  simp [forall_eq, vp_in_nI hh (by decide), nI_clamp (show h < 2 ^ 31 by omega), h4, vp_in_nI hp (by decide), nI_clamp (show p < 2 ^ 31 by omega), h3, nI_and7 hh hk]
theorem x_countOf (hh : h < 500) (h4 : c 4 h = nI p) (hp : p + 1 < 4000) : wX2_countOf (nI h) c Q = Q (c 3 (p + 1)) c := by
  unfold wX2_countOf
  simp [forall_eq, vp_in_nI hh (by decide), nI_clamp (show h < 2 ^ 31 by omega), h4, nI_1, vp_in_nI hp (by decide), nI_clamp (show p + 1 < 2 ^ 31 by omega)]
theorem x_linksOf (hh : h < 500) (h4 : c 4 h = nI p) (hp : p + 1 < 4000) (h3 : c 3 p = nI (8 * h + k)) (hk : k ≤ 5) (hn : k = 1 ∨ k = 5 → c 3 (p + 1) = nI n) : wX2_linksOf (nI h) c Q = Q (nI (lkN k n)) c := by
  unfold wX2_linksOf wX2_linksOf_p56
  simp only [forall_eq, vp_in_nI hh (by decide), nI_clamp (show h < 2 ^ 31 by omega), h4, vp_in_nI (show p < 4000 by omega) (by decide), nI_clamp (show p < 2 ^ 31 by omega), h3, nI_and7 hh hk, nI_1, vp_in_nI hp (by decide), nI_clamp (show p + 1 < 2 ^ 31 by omega), true_and]
  unfold lkN
  rcases (by omega : k = 0 ∨ k = 1 ∨ k = 2 ∨ k = 3 ∨ k = 4 ∨ k = 5) with rfl | rfl | rfl | rfl | rfl | rfl
  · simp [nI]
  · rw [hn (by simp)]; simp [nI]
  · simp [nI]
  · simp [nI]
  · simp [nI]
  · rw [hn (by simp)]; simp [nI]
theorem x_linkPlace (hh : h < 500) (h4 : c 4 h = nI p) (hp : p < 4000) (h3 : c 3 p = nI (8 * h + k)) (hk : k ≤ 5) : wX2_linkPlace (nI h) c Q = Q (nI (p + loN k)) c := by
  unfold wX2_linkPlace wX2_linkPlace_p31 wX2_linkPlace_p36
  simp only [forall_eq, vp_in_nI hh (by decide), nI_clamp (show h < 2 ^ 31 by omega), h4, vp_in_nI hp (by decide), nI_clamp (show p < 2 ^ 31 by omega), h3, nI_and7 hh hk, true_and]
  have e1 : nI p + 1 = nI (p + 1) := nI_1 p
  have e2 : nI p + 2 = nI (p + 2) := nI_add p 2
  rw [e1, e2]
  unfold loN
  rcases (by omega : k = 0 ∨ k = 1 ∨ k = 2 ∨ k = 3 ∨ k = 4 ∨ k = 5) with rfl | rfl | rfl | rfl | rfl | rfl <;> simp [nI]
theorem x_weakPlace (hh : h < 500) (h4 : c 4 h = nI p) : wX2_weakPlace (nI h) c Q = Q (nI (p + 2)) c := by
  unfold wX2_weakPlace
  simp only [forall_eq, vp_in_nI hh (by decide), nI_clamp (show h < 2 ^ 31 by omega), h4, true_and]
  rw [show (2 : Int32) = nI 2 from rfl, nI_add]
theorem x_numberOf (hh : h < 500) (h4 : c 4 h = nI p) (hp : p + 3 < 4000) : wX2_numberOf (nI h) c Q = Q (c 3 (p + 3)) c := by
  unfold wX2_numberOf
  have e : nI p + 3 = nI (p + 3) := nI_add p 3
  simp [forall_eq, vp_in_nI hh (by decide), nI_clamp (show h < 2 ^ 31 by omega), h4, e, vp_in_nI hp (by decide), nI_clamp (show p + 3 < 2 ^ 31 by omega)]
theorem x_isA {x : Int32} (hx : x = nI w) (hw : w < 6) (hh : h < 500) (h4 : c 4 h = nI p) (hp : p < 4000) (h3 : c 3 p = nI (8 * h + k)) (hk : k ≤ 5) : wX2_isA x (nI h) c Q = Q (if isaN w k then 1 else 0) c := by
  subst hx
  unfold wX2_isA
  simp only [forall_eq, vp_in_nI hw (by decide), vp_in_nI hh (by decide), nI_clamp (show h < 2 ^ 31 by omega), nI_clamp (show w < 2 ^ 31 by omega), h4, vp_in_nI hp (by decide), nI_clamp (show p < 2 ^ 31 by omega), h3, nI_and7 hh hk, isA_bit hw hk, true_and]
  cases isaN w k <;> simp
theorem x_many1 (hk : aMany k) : wX2_isCounted (nI k) c Q = Q 1 c := by
  unfold wX2_isCounted wX2_isCounted_p15
  rcases hk with rfl | rfl | rfl <;> simp [nI]
theorem x_many0 (hk : ¬ aMany k) (h5 : k ≤ 5) : wX2_isCounted (nI k) c Q = Q 0 c := by
  unfold wX2_isCounted wX2_isCounted_p15
  rcases (by unfold aMany at hk; omega : k = 0 ∨ k = 3 ∨ k = 4) with rfl | rfl | rfl <;> simp [nI]
theorem x_intsFor (hk : k ≤ 5) (hn : n ≤ 300) : wX2_intsFor (nI k) (nI n) c Q = Q (nI (szN k n)) c := by
  unfold wX2_intsFor szN
  have e1 : (2 : Int32) + nI n = nI (2 + n) := nI_add 2 n
  have e2 : (2 : Int32) + 2 * nI n = nI (2 + 2 * n) := by
    rw [show (2 : Int32) = nI 2 from rfl, pk_mul, nI_add]
  have e3 : (2 : Int32) + (nI n + 3) / 4 = nI (2 + (n + 3) / 4) := by
    rw [show (2 : Int32) = nI 2 from rfl, show (3 : Int32) = nI 3 from rfl, show (4 : Int32) = nI 4 from rfl, nI_add, pk_div (by omega) (by decide) (by decide), nI_add]
  rw [e1, e2, e3]
  rcases (by omega : k = 0 ∨ k = 1 ∨ k = 2 ∨ k = 3 ∨ k = 4 ∨ k = 5) with rfl | rfl | rfl | rfl | rfl | rfl <;> simp [nI]
theorem szN_0 (hk : ¬ aMany k) (h5 : k ≤ 5) : szN k 0 = szN k n := by
  unfold szN
  rcases (by unfold aMany at hk; omega : k = 0 ∨ k = 3 ∨ k = 4) with rfl | rfl | rfl <;> simp
theorem x_intsOf (hh : h < 500) (h4 : c 4 h = nI p) (hp : p + 1 < 4000) (h3 : c 3 p = nI (8 * h + k)) (hk : k ≤ 5) (hm : aMany k → c 3 (p + 1) = nI n) (hn : n ≤ 300) : wX2_intsOf (nI h) c Q = Q (nI (szN k n)) c := by
  unfold wX2_intsOf wX2_intsOf_p23
  rw [x_kindOf hh h4 (by omega) h3 hk]
  by_cases hk2 : aMany k
  · rw [x_many1 hk2, x_countOf hh h4 hp, hm hk2]
    simp [x_intsFor hk hn]
  · rw [x_many0 hk2 hk]
    simp only [true_implies, not_true_eq_false, false_implies, and_true]
    rw [show (0 : Int32) = nI 0 from rfl, x_intsFor hk (by omega), szN_0 hk2 hk]
theorem x_findingIn : wX9_findingIn v c Q = Q (fdA v) c := by
  unfold wX9_findingIn fdA
  by_cases h1 : (-11 : Int32) < v
  · have : ¬ ((-18 : Int32) ≤ v ∧ v ≤ (-11)) := fun q => Int32.not_le.mpr h1 q.2
    simp only [h1, this, true_implies, not_true_eq_false, false_implies, and_true, if_false]
  · by_cases h2 : v < (-18 : Int32)
    · have : ¬ ((-18 : Int32) ≤ v ∧ v ≤ (-11)) := fun q => Int32.not_le.mpr h2 q.1
      simp only [h1, h2, this, true_implies, not_true_eq_false, not_false_eq_true, false_implies, true_and, and_true, if_false]
    · have : ((-18 : Int32) ≤ v ∧ v ≤ (-11)) := ⟨Int32.not_lt.mp h2, Int32.not_lt.mp h1⟩
      simp only [h1, h2, this, true_implies, not_true_eq_false, not_false_eq_true, false_implies, true_and, and_true, if_true, and_self]
theorem x_answer : wX9_answer v c Q = Q v (mp c 0 5 (fdA v)) := by
  unfold wX9_answer
  rw [x_findingIn]
  simp only [forall_eq]
theorem x_unkN : wX9_isUnknownTarget (-1) c Q = Q 0 c := by
  unfold wX9_isUnknownTarget
  simp
theorem x_unk1 (h1 : c 2 2 = nI n) (hn : n ≤ 500) (hh : h < n) : wX9_isUnknownTarget (nI h) c Q = Q 0 c := by
  unfold wX9_isUnknownTarget
  simp only [nI_m1 (show h < 2 ^ 31 by omega), x_made1 h1 hn hh]
  simp
theorem x_unk0 {x : Int32} (h1 : c 2 2 = nI n) (hx : x < 0 ∨ nI n ≤ x) (hx1 : ¬ x = -1) : wX9_isUnknownTarget x c Q = Q 1 c := by
  unfold wX9_isUnknownTarget
  simp only [hx1, x_made0 h1 hx]
  simp
end EX

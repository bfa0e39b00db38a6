/-! check: which cells the paper says are kept -/
/-- the first row of h among those from p to K -/
def ckF (pv : Nat → Int32) (p K h i : Nat) : Prop := p ≤ i ∧ i < K ∧ pv (ckS pv i) = nI h ∧ ∀ j, p ≤ j → j < i → pv (ckS pv j) ≠ nI h
def ckO (pv : Nat → Int32) (p K h : Nat) : Prop := ∀ j, p ≤ j → j < K → pv (ckS pv j) ≠ nI h
section CK2
variable {pv : Nat → Int32} {L K : Nat} {c m : gMem}
theorem ckS_mono (g : ckG pv L K) : ∀ d i, i + d ≤ K → ckS pv i + 6 * d ≤ ckS pv (i + d) := by
  intro d
  induction d with
  | zero => intro i _; exact Nat.le_refl _
  | succ d ih =>
    intro i hi
    obtain ⟨-, n, -, -, e⟩ := g.2.2.2.1 (i + d) (by omega)
    have := ih i (by omega)
    rw [show i + (d + 1) = (i + d) + 1 by omega, e]; omega
theorem ckS_lt (g : ckG pv L K) {i j : Nat} (hij : i < j) (hj : j ≤ K) : ckS pv i < ckS pv j := by
  have := ckS_mono g (j - i) i (by omega)
  rw [show i + (j - i) = j by omega] at this; omega
theorem ckS_row (g : ckG pv L K) {i : Nat} (hi : i < K) : ckS pv i + 6 ≤ ckS pv K := by
  have := ckS_mono g (K - i) i (by omega)
  rw [show i + (K - i) = K by omega] at this; omega
theorem e_clear9 : ∀ (d k : Nat) (m : gMem), k + d = 500 → ∃ m', (∀ Q, (wX10_paper 24 m' (fun r3 c2 => wX10_findFirst_p31 (r3 - 1) c2 Q)) → wX10_findFirst_p2 (nI k) m Q) ∧ (∀ i, i ≠ 9 → m' i = m i) ∧ ∀ h, m' 9 h = if k ≤ h ∧ h < 500 then -1 else m 9 h := by
  intro d
  induction d with
  | zero =>
    intro k m hk
    have : k = 500 := by omega
    subst this
    refine ⟨m, fun Q hQ P hP => hP _ _ ?_, fun _ _ => rfl, fun h => by rw [if_neg (by omega)]⟩
    unfold wX10_findFirst_p2_b
    simp only [show (500 : Int32) ≤ nI 500 by decide, true_implies, not_true_eq_false, false_implies, and_true]; exact hQ
  | succ d ih =>
    intro k m hk
    obtain ⟨m', M, h1, h2⟩ := ih (k + 1) (mp m 9 k (-1)) (by omega)
    refine ⟨m', fun Q hQ P hP => hP _ _ ?_, fun i hi => by rw [h1 i hi, mp_n hi], fun h => ?_⟩
    · unfold wX10_findFirst_p2_b
      simp only [show ¬ (500 : Int32) ≤ nI k from nI_ge (b := 500) (by omega) (by decide), true_implies, not_false_eq_true, false_implies, true_and, forall_eq]
      rw [nI_clamp (by omega), nI_1]
      exact ⟨vp_in_nI (by omega) (by decide), M Q hQ P hP⟩
    · rw [h2, mp_s]
      by_cases e : k + 1 ≤ h ∧ h < 500
      · rw [if_pos e, if_pos (show k ≤ h ∧ h < 500 by omega)]
      · rw [if_neg e]
        by_cases e2 : h = k
        · subst e2; rw [up_s, if_pos (by omega)]
        · rw [up_n e2, if_neg (by omega)]
theorem ck_first (g : ckG pv L K) (hL : L ≤ 6527) : ∀ (p : Nat) (m : gMem), p ≤ K → ckM pv L m → (∀ j, j < K → m 8 j = nI (ckS pv j)) → (∀ h, h < 500 → (m 9 h = -1 ∧ ckO pv p K h) ∨ ∃ i, ckF pv p K h i ∧ m 9 h = nI i) → ∃ m', Dv (wX10_findFirst_p31 (nI p - 1) m) m' ∧ (∀ i, i ≠ 9 → m' i = m i) ∧ ∀ h, h < 500 → (m' 9 h = -1 ∧ ckO pv 0 K h) ∨ ∃ i, ckF pv 0 K h i ∧ m' 9 h = nI i := by
  intro p
  induction p with
  | zero =>
    intro m hp hm h8 h9
    refine ⟨m, fun Q hQ P hP => hP _ _ ?_, fun _ _ => rfl, h9⟩
    unfold wX10_findFirst_p31_b
    simp only [show nI 0 - 1 < 0 by decide, true_implies, not_true_eq_false, false_implies, and_true]; exact hQ
  | succ p ih =>
    intro m hp hm h8 h9
    have hpK : p < K := by omega
    have hK := g.2.2.1
    have hrow := (g.2.2.2.1 p hpK).1
    rw [nI_pred]
    have n0 : ¬ nI p < 0 := fun z => by
      have := Int32.lt_iff_toInt_lt.mp z
      rw [nI_toInt (by omega)] at this
      have z0 : (0 : Int32).toInt = 0 := by decide
      omega
    have hM : ∀ (P : Int32 → gMem → Prop) (Q : gMem → Prop), wX10_in (pv (ckS pv p)).toInt64 0 499 m (fun r7 c6 => ((r7 = 0 → wX10_findFirst_p72 P (nI p) c6 Q) ∧ (¬ r7 = 0 → vp_in (nI p) 501 ∧ ∀ v9, v9 = c6 8 (nI p).toNatClampNeg → wX10_paper v9 c6 (fun r12 c11 => vp_in r12 500 ∧ ∀ c13, c13 = mp c11 9 r12.toNatClampNeg (nI p) → wX10_findFirst_p72 P (nI p) c13 Q)))) → wX10_findFirst_p31_b P (nI p) m Q := by
      intro P Q hQ
      unfold wX10_findFirst_p31_b
      simp only [n0, true_implies, not_false_eq_true, false_implies, true_and, forall_eq]
      rw [nI_clamp (by omega), h8 p hpK, e_paper (by omega) hL hm]
      refine ⟨vp_in_nI (by omega) (by decide), ?_⟩
      simp only [forall_eq] at hQ
      rw [nI_clamp (by omega)] at hQ
      exact hQ
    rcases in_both (x := pv (ckS pv p)) (N := 500) (b64 := 499) (b32 := 499) (by decide) (by decide) (by decide) rfl with ⟨q1, q2, q3⟩ | ⟨t, ht, et, q1, q2⟩
    · obtain ⟨m', M1, f1, f2⟩ := ih m (by omega) hm h8 (fun h hh => by
        rcases h9 h hh with ⟨a, b⟩ | ⟨i, b, a⟩
        · refine Or.inl ⟨a, fun j j1 j2 => ?_⟩
          by_cases e : j = p
          · subst e; exact q3 h hh
          · exact b j (by omega) j2
        · refine Or.inr ⟨i, ⟨by have := b.1; omega, b.2.1, b.2.2.1, fun j j1 j2 => ?_⟩, a⟩
          by_cases e : j = p
          · subst e; exact q3 h hh
          · exact b.2.2.2 j (by omega) j2)
      refine ⟨m', fun Q hQ P hP => hP _ _ (hM P Q ?_), f1, f2⟩
      rw [q1]
      simp only [true_implies, not_true_eq_false, false_implies, and_true]
      unfold wX10_findFirst_p72
      rw [show nI p + (-1) = nI p - 1 by rw [Int32.sub_eq_add_neg]]
      exact M1 Q hQ P hP
    · have hm1 : ckM pv L (mp m 9 t (nI p)) := ⟨by rw [mp_n (by decide)]; exact hm.1, fun j hj => by rw [mp_n (by decide)]; exact hm.2 j hj⟩
      obtain ⟨m', M1, f1, f2⟩ := ih (mp m 9 t (nI p)) (by omega) hm1 (fun j hj => by rw [mp_n (by decide)]; exact h8 j hj) (fun h hh => by
        rw [mp_s]
        by_cases e : h = t
        · subst e
          right
          refine ⟨p, ⟨Nat.le_refl _, hpK, et, fun j j1 j2 => by omega⟩, by rw [up_s]⟩
        · rw [up_n e]
          have hne : pv (ckS pv p) ≠ nI h := by
            rw [et]; exact fun z => e (nI_inj (by omega) (by omega) z).symm
          rcases h9 h hh with ⟨a, b⟩ | ⟨i, b, a⟩
          · refine Or.inl ⟨a, fun j j1 j2 => ?_⟩
            by_cases e2 : j = p
            · subst e2; exact hne
            · exact b j (by omega) j2
          · refine Or.inr ⟨i, ⟨by have := b.1; omega, b.2.1, b.2.2.1, fun j j1 j2 => ?_⟩, a⟩
            by_cases e2 : j = p
            · subst e2; exact hne
            · exact b.2.2.2 j (by omega) j2)
      refine ⟨m', fun Q hQ P hP => hP _ _ (hM P Q ?_), fun i hi => by rw [f1 i hi, mp_n hi], f2⟩
      rw [q1]
      simp only [i32_10, true_implies, not_false_eq_true, false_implies, true_and, forall_eq]
      rw [nI_clamp (by omega), h8 p hpK, e_paper (by omega) hL hm, et, nI_clamp (by omega)]
      refine ⟨vp_in_nI (by omega) (by decide), vp_in_nI (by omega) (by decide), ?_⟩
      unfold wX10_findFirst_p72
      rw [show nI p + (-1) = nI p - 1 by rw [Int32.sub_eq_add_neg]]
      exact M1 Q hQ P hP
theorem ck_note (g : ckG pv L K) (hL : L ≤ 6527) : ∀ (d i : Nat) (c : gMem), i + d = K → ckC pv L K c → (∀ h, h < 500 → (c 72 h = -1 ∧ ckO pv 0 i h) ∨ ∃ q, ckF pv 0 i h q ∧ c 72 h = nI (ckS pv q)) → ∃ c', Dv (wX1_noteKept_p13 (nI (ckS pv i)) (nI i) c) c' ∧ (∀ a, a ≠ 72 → c' a = c a) ∧ ∀ h, h < 500 → (c' 72 h = -1 ∧ ckO pv 0 K h) ∨ ∃ q, ckF pv 0 K h q ∧ c' 72 h = nI (ckS pv q) := by
  intro d
  induction d with
  | zero =>
    intro i c hi hc h72
    have : i = K := by omega
    subst this
    refine ⟨c, fun Q hQ P hP => hP _ _ _ ?_, fun _ _ => rfl, h72⟩
    unfold wX1_noteKept_p13_b
    simp only [forall_eq, hc.2.2.1, Int32.le_refl, true_implies, not_true_eq_false, false_implies, and_true]; exact hQ
  | succ d ih =>
    intro i c hi hc h72
    have hiK : i < K := by omega
    have hK := g.2.2.1
    obtain ⟨hrow, n, hn, en, est⟩ := g.2.2.2.1 i hiK
    have hik : ¬ nI K ≤ nI i := nI_ge hiK (by omega)
    have en2 : nI (ckS pv i) + (6 + nI n) = nI (ckS pv (i + 1)) := by
      rw [show (6 : Int32) + nI n = nI (6 + n) from nI_add 6 n, nI_add, est]; congr 1; omega
    have tail : ∀ (P : Int32 → Int32 → gMem → Prop) (Q : gMem → Prop) (c' : gMem), ckC pv L K c' → P (nI (ckS pv (i + 1))) (nI (i + 1)) c' → wX1_noteKept_p56 P (nI (ckS pv i)) (nI i) c' Q := by
      intro P Q c' hc' hP
      unfold wX1_noteKept_p56
      rw [show nI (ckS pv i) + 5 = nI (ckS pv i + 5) from nI_add _ 5, nI_clamp (by omega)]
      simp only [forall_eq, hc'.1, true_and]
      rw [hc'.2.2.2 _ hrow, en, en2, nI_1]
      exact ⟨vp_in_nI (by omega) (by decide), hP⟩
    have hX : ∀ (P : Int32 → Int32 → gMem → Prop) (Q : gMem → Prop), wX1_isIn (pv (ckS pv i)) 0 499 c (fun r7 c6 => ((r7 = 0 → wX1_noteKept_p56 P (nI (ckS pv i)) (nI i) c6 Q) ∧ (¬ r7 = 0 → vp_in (pv (ckS pv i)) 500 ∧ ∀ v9, v9 = c6 72 (pv (ckS pv i)).toNatClampNeg → ((v9 = (-1) → vp_in (pv (ckS pv i)) 500 ∧ ∀ c12, c12 = mp c6 72 (pv (ckS pv i)).toNatClampNeg (nI (ckS pv i)) → wX1_noteKept_p56 P (nI (ckS pv i)) (nI i) c12 Q) ∧ (¬ v9 = (-1) → wX1_noteKept_p56 P (nI (ckS pv i)) (nI i) c6 Q))))) → wX1_noteKept_p13_b P (nI (ckS pv i)) (nI i) c Q := by
      intro P Q hQ
      unfold wX1_noteKept_p13_b
      simp only [forall_eq, hc.1, hc.2.2.1, hik, true_implies, not_false_eq_true, false_implies, true_and]
      rw [nI_clamp (by omega), hc.2.2.2 _ (by omega)]
      refine ⟨vp_in_nI (by omega) (by decide), ?_⟩
      simp only [forall_eq] at hQ
      exact hQ
    rcases in_both (x := pv (ckS pv i)) (N := 500) (b64 := 499) (b32 := 499) (by decide) (by decide) (by decide) rfl with ⟨q1, q2, q3⟩ | ⟨t, ht, et, q1, q2⟩
    · obtain ⟨c', X1, f1, f2⟩ := ih (i + 1) c (by omega) hc (fun h hh => by
        rcases h72 h hh with ⟨a, b⟩ | ⟨q, b, a⟩
        · refine Or.inl ⟨a, fun j j1 j2 => ?_⟩
          by_cases e : j = i
          · subst e; exact q3 h hh
          · exact b j j1 (by omega)
        · exact Or.inr ⟨q, ⟨b.1, by have := b.2.1; omega, b.2.2⟩, a⟩)
      refine ⟨c', fun Q hQ P hP => hP _ _ _ (hX P Q ?_), f1, f2⟩
      rw [q2]
      simp only [true_implies, not_true_eq_false, false_implies, and_true]
      exact tail P Q c hc (X1 Q hQ P hP)
    · rcases h72 t ht with ⟨a, b⟩ | ⟨q, b, a⟩
      · have hc1 : ckC pv L K (mp c 72 t (nI (ckS pv i))) := ⟨by rw [mp_n (by decide)]; exact hc.1, by rw [mp_n (by decide)]; exact hc.2.1, by rw [mp_n (by decide)]; exact hc.2.2.1, fun j hj => by rw [mp_n (by decide)]; exact hc.2.2.2 j hj⟩
        obtain ⟨c', X1, f1, f2⟩ := ih (i + 1) (mp c 72 t (nI (ckS pv i))) (by omega) hc1 (fun h hh => by
          rw [mp_s]
          by_cases e : h = t
          · subst e
            exact Or.inr ⟨i, ⟨Nat.zero_le _, by omega, et, fun j j1 j2 => b j j1 j2⟩, by rw [up_s]⟩
          · rw [up_n e]
            have hne : pv (ckS pv i) ≠ nI h := by
              rw [et]; exact fun z => e (nI_inj (by omega) (by omega) z).symm
            rcases h72 h hh with ⟨a', b'⟩ | ⟨q, b', a'⟩
            · refine Or.inl ⟨a', fun j j1 j2 => ?_⟩
              by_cases e2 : j = i
              · subst e2; exact hne
              · exact b' j j1 (by omega)
            · exact Or.inr ⟨q, ⟨b'.1, by have := b'.2.1; omega, b'.2.2⟩, a'⟩)
        refine ⟨c', fun Q hQ P hP => hP _ _ _ (hX P Q ?_), fun x hx => by rw [f1 x hx, mp_n hx], f2⟩
        rw [q2, et]
        simp only [i32_10, true_implies, not_false_eq_true, false_implies, true_and, forall_eq]
        rw [nI_clamp (by omega), a]
        simp only [true_implies, not_true_eq_false, false_implies, and_true]
        exact ⟨vp_in_nI (by omega) (by decide), vp_in_nI (by omega) (by decide), tail P Q _ hc1 (X1 Q hQ P hP)⟩
      · obtain ⟨c', X1, f1, f2⟩ := ih (i + 1) c (by omega) hc (fun h hh => by
          rcases h72 h hh with ⟨a', b'⟩ | ⟨q', b', a'⟩
          · refine Or.inl ⟨a', fun j j1 j2 => ?_⟩
            by_cases e2 : j = i
            · subst e2
              rw [et]
              intro z
              have : t = h := nI_inj (by omega) (by omega) z
              subst this
              exact b' q b.1 b.2.1 b.2.2.1
            · exact b' j j1 (by omega)
          · exact Or.inr ⟨q', ⟨b'.1, by have := b'.2.1; omega, b'.2.2⟩, a'⟩)
        refine ⟨c', fun Q hQ P hP => hP _ _ _ (hX P Q ?_), f1, f2⟩
        rw [q2, et]
        simp only [i32_10, true_implies, not_false_eq_true, false_implies, true_and, forall_eq]
        have hq5 := ckS_lt g (i := q) (j := K) (by have := b.2.1; omega) (Nat.le_refl _)
        have : ¬ c 72 t = -1 := by rw [a]; exact nI_m1 (by have := g.2.2.2.2.1; omega)
        rw [nI_clamp (by omega)]
        simp only [this, true_implies, not_false_eq_true, false_implies, true_and]
        exact ⟨vp_in_nI (by omega) (by decide), tail P Q _ hc (X1 Q hQ P hP)⟩
/-! once the rows are known -/
def ckK (pv : Nat → Int32) (K : Nat) (c m : gMem) : Prop := (∀ j, j < K → m 8 j = nI (ckS pv j)) ∧ ∀ h, h < 500 → (m 9 h = -1 ∧ c 72 h = -1 ∧ ckO pv 0 K h) ∨ ∃ i, ckF pv 0 K h i ∧ m 9 h = nI i ∧ c 72 h = nI (ckS pv i)
theorem kept_case (g : ckG pv L K) (hL : L ≤ 6527) (hk : ckK pv K c m) (x : Int32) : ((∀ Q : Int32 → gMem → Prop, wX10_keptOf x m Q = Q (-1) m) ∧ (∀ Q : Int32 → gMem → Prop, wX1_isKept x c Q = Q 0 c) ∧ ∀ i, i < K → pv (ckS pv i) = x → ∀ h, h < 500 → x ≠ nI h) ∨ ∃ h i, h < 500 ∧ x = nI h ∧ ckF pv 0 K h i ∧ (∀ Q : Int32 → gMem → Prop, wX10_keptOf x m Q = Q (nI i) m) ∧ (∀ Q : Int32 → gMem → Prop, wX1_isKept x c Q = Q 1 c) ∧ m 9 h = nI i ∧ c 72 h = nI (ckS pv i) := by
  rcases in_both (x := x) (N := 500) (b64 := 499) (b32 := 499) (by decide) (by decide) (by decide) rfl with ⟨q1, q2, q3⟩ | ⟨t, ht, rfl, q1, q2⟩
  · left
    refine ⟨fun Q => ?_, fun Q => ?_, fun i _ _ h hh => q3 h hh⟩
    · unfold wX10_keptOf
      rw [q1]
      simp only [true_implies, not_true_eq_false, false_implies, and_true]
    · unfold wX1_isKept
      rw [q2]
      simp only [true_implies, not_true_eq_false, false_implies, and_true]
  · rcases hk.2 t ht with ⟨a, b, n⟩ | ⟨i, b, a1, a2⟩
    · left
      refine ⟨fun Q => ?_, fun Q => ?_, fun i hi e => absurd e (n i (Nat.zero_le _) hi)⟩
      · unfold wX10_keptOf
        rw [q1]
        simp only [i32_10, true_implies, not_false_eq_true, false_implies, true_and, forall_eq]
        rw [nI_clamp (by omega), a]
        exact propext ⟨fun z => z.2, fun z => ⟨vp_in_nI (by omega) (by decide), z⟩⟩
      · unfold wX1_isKept
        rw [q2]
        simp only [i32_10, true_implies, not_false_eq_true, false_implies, true_and, forall_eq]
        rw [nI_clamp (by omega), b]
        simp only [true_implies, not_true_eq_false, false_implies, and_true]
        exact propext ⟨fun z => z.2, fun z => ⟨vp_in_nI (by omega) (by decide), z⟩⟩
    · right
      have hrow := ckS_row g b.2.1
      have hlt := g.2.2.2.2.1
      refine ⟨t, i, ht, rfl, b, fun Q => ?_, fun Q => ?_, a1, a2⟩
      · unfold wX10_keptOf
        rw [q1]
        simp only [i32_10, true_implies, not_false_eq_true, false_implies, true_and, forall_eq]
        rw [nI_clamp (by omega), a1]
        exact propext ⟨fun z => z.2, fun z => ⟨vp_in_nI (by omega) (by decide), z⟩⟩
      · unfold wX1_isKept
        rw [q2]
        simp only [i32_10, true_implies, not_false_eq_true, false_implies, true_and, forall_eq]
        rw [nI_clamp (by omega), a2]
        have : ¬ nI (ckS pv i) = -1 := nI_m1 (by omega)
        simp only [this, true_implies, not_false_eq_true, false_implies, true_and]
        exact propext ⟨fun z => z.2, fun z => ⟨vp_in_nI (by omega) (by decide), z⟩⟩
end CK2

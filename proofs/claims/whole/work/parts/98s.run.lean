/-! run: acts, one behind the other -/
section RUN
variable {T : Nat} {c m : gMem}
theorem Rel.set67 (x : Int32) (h : Rel T c m) : Rel T (mp c 0 6 x) (mp m 0 7 x) := by
  obtain ⟨⟨hr, hi⟩, h1, h2, h3, h4, h5, h6⟩ := h
  have e1 : mp m 0 7 x 1 = m 1 := mp_n (by decide)
  refine ⟨⟨?_, by rw [e1]; exact hi⟩, ?_, ?_, ?_, ?_, ?_, ?_⟩
  · rw [e1]; exact aSR_cong (fun i a b => mp_n (by omega)) hr
  · rw [mp_s, mp_s, up_n (by decide), up_n (by decide), h1]
  · rw [mp_s, mp_s, up_s, up_s]
  · rw [mp_n (by decide), mp_s, up_n (by decide), h3]
  · intro b hb; rw [mp_n (by decide), mp_n (by decide), h4 b hb]
  · exact aIm_cong (fun i a b => mp_n (by omega)) (by rw [mp_s, up_n (by decide)]) (by rw [mp_s, up_n (by decide)]) (mp_n (by decide)) (by rw [e1]) h5
  · exact aIm_cong (fun i a b => mp_n (by omega)) (by rw [mp_s, up_n (by decide)]) (by rw [mp_s, up_n (by decide)]) (mp_n (by decide)) (by rw [e1]) h6
theorem fdA_or (r : Int32) : fdA r = 0 ∨ ∃ j : Nat, 1 ≤ j ∧ j ≤ 8 ∧ fdA r = nI j := by
  by_cases h : (-18) ≤ r ∧ r ≤ (-11)
  · refine Or.inr ?_
    have h1 := Int32.le_iff_toInt_le.mp h.1
    have h2 := Int32.le_iff_toInt_le.mp h.2
    have e1 : (-18 : Int32).toInt = -18 := by decide
    have e2 : (-11 : Int32).toInt = -11 := by decide
    have k : ∀ j : Nat, 1 ≤ j → j ≤ 8 → ((-10) - nI j).toInt = -10 - (j : Int) := by
      intro j a b
      rcases (by omega : j = 1 ∨ j = 2 ∨ j = 3 ∨ j = 4 ∨ j = 5 ∨ j = 6 ∨ j = 7 ∨ j = 8) with rfl | rfl | rfl | rfl | rfl | rfl | rfl | rfl <;> decide
    have j1 : 1 ≤ (-10 - r.toInt).toNat := by omega
    have j8 : (-10 - r.toInt).toNat ≤ 8 := by omega
    have e : r = (-10) - nI (-10 - r.toInt).toNat := Int32.toInt_inj.mp (by rw [k _ j1 j8]; omega)
    refine ⟨(-10 - r.toInt).toNat, j1, j8, ?_⟩
    generalize (-10 - r.toInt).toNat = q at *
    rw [e]; exact fdA_fl j1 j8
  · exact Or.inl (by unfold fdA; rw [if_neg h])
theorem nx_tab : ∀ n, n < 41 → ∀ j, j < n → (nI j + 1) - ((nI j + 1) / nI n) * nI n = (if j + 1 < n then nI (j + 1) else 0) := by decide +kernel
/-- the program's numbers go behind an act -/
theorem pg_next {c' : gMem} {n j : Nat} {d : Int32} (R : Rel T c m) (hn : m 1 11 = nI n) (hn4 : n ≤ 40) (hj : j < n) (hc : ∀ i, i ≠ 17 → c' i = c i) (h0 : c' 17 0 = c 17 0) (h1 : c' 17 1 = nI j) (h2 : c' 17 2 = c 17 2 + 1) (h3 : c' 17 3 = c 17 3 + d) : Rel T c' (mr m 1 (upd (upd (upd (m 1) 12 (nI j)) 13 (m 1 13 + 1)) 14 (m 1 14 + d))) := by
  obtain ⟨n', j', i1, i2, i3, i4, i5⟩ := R.1.2.1.2.2.2.2
  have r9 := R.1.1.2.2.2.2.2.2.2.2.1
  have en : n' = n := nI_inj (by omega) (by omega) (i1.symm.trans hn)
  subst en
  refine pg_now R (fun q h1 h2 h3 => by rw [up_n (by omega), up_n (by omega), up_n (by omega)]) (fun i hi => hc i (by omega)) ⟨n', j, by rw [up_n (by omega), up_n (by omega), up_n (by omega)]; exact i1, i2, by rw [up_n (by omega), up_n (by omega), up_s], Or.inl hj, fun q hq => ?_⟩ (fun q hq => ?_) ⟨fun k hk => ?_, fun k hk => ?_, fun q hq => ?_⟩
  · rw [up_n (by omega), up_n (by omega), up_n (by omega), up_n (by omega), up_n (by omega), up_n (by omega), up_n (by omega), up_n (by omega), up_n (by omega), up_n (by omega), up_n (by omega), up_n (by omega)]; exact i5 q hq
  · rw [up_n (by omega), up_n (by omega), up_n (by omega)]; exact R.1.2.1.1.2.2.2.2.2.2 q hq
  · show c' 17 k = _
    rcases (by omega : k = 0 ∨ k = 1 ∨ k = 2 ∨ k = 3) with rfl | rfl | rfl | rfl
    · rw [h0, up_n (by decide), up_n (by decide), up_n (by decide)]; exact r9.1 0 hk
    · rw [h1, up_n (by decide), up_n (by decide), up_s]
    · rw [h2, up_n (by decide), up_s]; exact congrArg (· + 1) (r9.1 2 hk)
    · rw [h3, up_s]; exact congrArg (· + d) (r9.1 3 hk)
  · have e : nn (upd (upd (upd (m 1) 12 (nI j)) 13 (m 1 13 + 1)) 14 (m 1 14 + d)) 11 = nn (m 1) 11 := nn_cong (by rw [up_n (by omega), up_n (by omega), up_n (by omega)])
    rw [e] at hk
    have h40 : nn (m 1) 11 = n' := nn_nI i1 (by omega)
    show c' 18 k = _
    rw [hc 18 (by decide), up_n (by omega), up_n (by omega), up_n (by omega)]; exact r9.2.1 k hk
  · show c' 19 q = _
    rw [hc 19 (by decide), up_n (by omega), up_n (by omega), up_n (by omega)]; exact r9.2.2 q hq
theorem x_behind {n j : Nat} {b : Int32} (h0 : c 17 0 = nI n) (h1 : c 17 1 = nI j) (hn : n ≤ 40) (hj : j < n) {Q : gMem → Prop} : wX5_goBehindAct b c Q = (if b = 0 then Q (mp (mp c 17 1 (if j + 1 < n then nI (j + 1) else 0)) 17 2 (c 17 2 + 1)) else Q (mp (mp (mp c 17 1 (if j + 1 < n then nI (j + 1) else 0)) 17 2 (c 17 2 + 1)) 17 3 (c 17 3 + 1))) := by
  have g : ∀ s0 : Int32, wX5_goBehindAct_p24 b s0 c Q = (if b = 0 then Q (mp (mp c 17 1 s0) 17 2 (c 17 2 + 1)) else Q (mp (mp (mp c 17 1 s0) 17 2 (c 17 2 + 1)) 17 3 (c 17 3 + 1))) := by
    intro s0
    unfold wX5_goBehindAct_p24
    have e2 : mp c 17 1 s0 17 2 = c 17 2 := by rw [mp_s, up_n (by decide)]
    have e3 : mp (mp c 17 1 s0) 17 2 (c 17 2 + 1) 17 3 = c 17 3 := by rw [mp_s, up_n (by decide), mp_s, up_n (by decide)]
    simp only [forall_eq, e2, e3]
    by_cases hb : b = 0
    · simp only [hb, if_true, true_implies, not_true_eq_false, false_implies, and_true]
    · simp only [hb, if_false, true_implies, not_false_eq_true, false_implies, true_and]
  unfold wX5_goBehindAct
  simp only [forall_eq, h0, h1, nI_1, nI_leI (show n < 2 ^ 31 by omega) (show j + 1 < 2 ^ 31 by omega)]
  by_cases hx : j + 1 < n
  · simp only [show ¬ n ≤ j + 1 by omega, true_implies, not_false_eq_true, false_implies, true_and, hx, if_true]; exact g _
  · simp only [show n ≤ j + 1 by omega, true_implies, not_true_eq_false, false_implies, and_true, hx, if_false]; exact g _
/-- one act, and the program's numbers behind it -/
theorem run_one {n j : Nat} (R : Rel T c m) (hT : T < 2 ^ 28) (hn : m 1 11 = nI n) (hn4 : n ≤ 40) (hj : m 1 12 = nI j) (hjn : j < n) :
    ∃ f c' m', (f = 0 ∨ ∃ q : Nat, 1 ≤ q ∧ q ≤ 8 ∧ f = nI q) ∧ Rel (T + 1000) c' m' ∧ m' 1 11 = nI n ∧
      (∀ (l1 l4 : Int32) (P : Int32 → Int32 → Int32 → gMem → Prop) (Q : Int32 → gMem → Prop), ¬ l1 ≤ l4 → P l1 (if f = 0 then 1 else 0) (l4 + 1) c' → wX9_run_p37_b P l1 1 l4 c Q) ∧
      (∀ (l1 l2 : Int32) (P : Int32 → Int32 → Int32 → gMem → Prop) (Q : Int32 → gMem → Prop), ¬ l1 ≤ l2 → P l1 (l2 + 1) f m' → wX10_run_p32_b P l1 l2 0 m Q) := by
  obtain ⟨n', j', i1, i2, i3, i4, i5⟩ := R.1.2.1.2.2.2.2
  have r9 := R.1.1.2.2.2.2.2.2.2.2.1
  have en : n' = n := nI_inj (by omega) (by omega) (i1.symm.trans hn)
  have ej : j' = j := nI_inj (by omega) (by omega) (i3.symm.trans hj)
  subst en; subst ej
  have h40 : nn (m 1) 11 = n' := nn_nI i1 (by omega)
  have a0 : ∀ k, k < 5 → c 18 (5 * j' + k) = m 1 (400 + 5 * j' + k) := fun k hk => by rw [Nat.add_assoc]; exact r9.2.1 _ (by omega)
  have c0 : c 17 0 = nI n' := (r9.1 0 (by decide)).trans hn
  have c1 : c 17 1 = nI j' := (r9.1 1 (by decide)).trans hj
  have hA := i5 j' hjn
  rw [show 401 + 5 * j' = 400 + 5 * j' + 1 by omega, show 402 + 5 * j' = 400 + 5 * j' + 2 by omega, show 403 + 5 * j' = 400 + 5 * j' + 3 by omega] at hA
  obtain ⟨r, cA, mA, XA, MA, RA, FA⟩ := sim_does (q := j') R hT (by omega) rfl rfl rfl rfl rfl hA
  have rA := RA.1.1.2.2.2.2.2.2.2.2.1
  have A0 : mA 1 11 = nI n' := by rw [← c0, ← FA]; exact (rA.1 0 (by decide)).symm
  have A1 : mA 1 12 = nI j' := by rw [← c1, ← FA]; exact (rA.1 1 (by decide)).symm
  have RB := RA.set67 (fdA r)
  have eB : mp mA 0 7 (fdA r) 1 = mA 1 := mp_n (by decide)
  have B0 : mp cA 0 6 (fdA r) 17 0 = nI n' := by rw [mp_n (by decide), FA]; exact c0
  have B1 : mp cA 0 6 (fdA r) 17 1 = nI j' := by rw [mp_n (by decide), FA]; exact c1
  have ix : nI j' * 5 = nI (5 * j') := by rw [show (5 : Int32) = nI 5 from rfl, pk_mul, Nat.mul_comm]
  have im : (400 : Int32) + 5 * nI j' = nI (400 + 5 * j') := by rw [show (5 : Int32) = nI 5 from rfl, pk_mul]; exact nI_add 400 _
  have x1 : nI (5 * j') + 1 = nI (5 * j' + 1) := nI_add _ 1
  have x2 : nI (5 * j') + 2 = nI (5 * j' + 2) := nI_add _ 2
  have x3 : nI (5 * j') + 3 = nI (5 * j' + 3) := nI_add _ 3
  have x4 : nI (5 * j') + 4 = nI (5 * j' + 4) := nI_add _ 4
  have v : ∀ k, k < 200 → vp_in (nI k) 200 := fun k hk => vp_in_nI hk (by decide)
  have b0 : c 18 (5 * j') = m 1 (400 + 5 * j') := a0 0 (by decide)
  have b1 : c 18 (5 * j' + 1) = m 1 (400 + 5 * j' + 1) := a0 1 (by decide)
  have b2 : c 18 (5 * j' + 2) = m 1 (400 + 5 * j' + 2) := a0 2 (by decide)
  have b3 : c 18 (5 * j' + 3) = m 1 (400 + 5 * j' + 3) := a0 3 (by decide)
  have b4 : c 18 (5 * j' + 4) = m 1 (400 + 5 * j' + 4) := a0 4 (by decide)
  -- the class, up to behind the act
  have XB : ∀ (l1 l4 : Int32) (P : Int32 → Int32 → Int32 → gMem → Prop) (Q : Int32 → gMem → Prop), ¬ l1 ≤ l4 → wX9_run_p118 P l1 l4 (if fdA r = 0 then 0 else 1) (mp cA 0 6 (fdA r)) Q → wX9_run_p37_b P l1 1 l4 c Q := by
    intro l1 l4 P Q hl hP
    unfold wX9_run_p37_b
    simp only [hl, i32_10, true_implies, not_false_eq_true, false_implies, true_and, forall_eq, c1, ix, x1, x2, x3, x4]
    rw [nI_clamp (by omega), nI_clamp (by omega), nI_clamp (by omega), nI_clamp (by omega), nI_clamp (by omega), b0, b1, b2, b3, b4]
    refine ⟨v _ (by omega), v _ (by omega), v _ (by omega), v _ (by omega), v _ (by omega), XA _ ?_⟩
    rw [x_findingIn]
    have e6 : mp cA 0 6 (fdA r) 0 6 = fdA r := by rw [mp_s, up_s]
    simp only [forall_eq, e6]
    by_cases hf : fdA r = 0
    · simp only [hf, if_true] at hP
      simp only [hf, true_implies, not_true_eq_false, false_implies, and_true]; exact hP
    · simp only [hf, if_false] at hP
      simp only [hf, true_implies, not_false_eq_true, false_implies, true_and]; exact hP
  have tab := nx_tab n' (by omega) j' hjn
  have nz : ¬ nI n' = 0 := nI_ne0 (by omega) (by omega)
  have hnx : ∃ jx, jx < n' ∧ (if j' + 1 < n' then nI (j' + 1) else (0 : Int32)) = nI jx := by
    by_cases hx : j' + 1 < n'
    · exact ⟨j' + 1, hx, if_pos hx⟩
    · exact ⟨0, by omega, by rw [if_neg hx]; rfl⟩
  obtain ⟨jx, hjx, ejx⟩ := hnx
  rw [ejx] at tab
  -- the reference, to its end
  have MB : ∀ (d : Int32), (d = if fdA r ≤ 0 then 0 else 1) → ∀ (l1 l2 : Int32) (P : Int32 → Int32 → Int32 → gMem → Prop) (Q : Int32 → gMem → Prop), ¬ l1 ≤ l2 → P l1 (l2 + 1) (fdA r) (mr (mp mA 0 7 (fdA r)) 1 (upd (upd (upd (mA 1) 12 (nI jx)) 13 (mA 1 13 + 1)) 14 (mA 1 14 + d))) → wX10_run_p32_b P l1 l2 0 m Q := by
    intro d hd l1 l2 P Q hl hP
    unfold wX10_run_p32_b
    simp only [hl, true_implies, not_false_eq_true, not_true_eq_false, false_implies, true_and, and_true, forall_eq, hj, im]
    refine MA _ ?_
    simp only [A0, A1, nz, not_false_eq_true, true_and, tab]
    have e13 : mp mA 1 12 (nI jx) 1 13 = mA 1 13 := by rw [mp_s, up_n (by decide)]
    have e14 : mp (mp mA 1 12 (nI jx)) 1 13 (mA 1 13 + 1) 1 14 = mA 1 14 := by rw [mp_s, up_n (by decide), mp_s, up_n (by decide)]
    simp only [e13, e14]
    have ee : ∀ d : Int32, mp (mp (mp (mp mA 1 12 (nI jx)) 1 13 (mA 1 13 + 1)) 1 14 (mA 1 14 + d)) 0 7 (fdA r) = mr (mp mA 0 7 (fdA r)) 1 (upd (upd (upd (mA 1) 12 (nI jx)) 13 (mA 1 13 + 1)) 14 (mA 1 14 + d)) := by
      intro d
      have e1 : mp mA 1 12 (nI jx) = mr mA 1 (upd (mA 1) 12 (nI jx)) := rfl
      rw [e1, mp_mr, mp_mr, mp_mrn (by decide)]
    have p : ∀ d : Int32, wX10_run_p111 P l1 l2 (fdA r) d (mA 1 14) 14 (mp (mp mA 1 12 (nI jx)) 1 13 (mA 1 13 + 1)) Q = P l1 (l2 + 1) (fdA r) (mr (mp mA 0 7 (fdA r)) 1 (upd (upd (upd (mA 1) 12 (nI jx)) 13 (mA 1 13 + 1)) 14 (mA 1 14 + d))) := by
      intro d
      unfold wX10_run_p111
      simp only [forall_eq, show (14 : Int32).toNatClampNeg = 14 by decide, ee]
      exact propext ⟨fun z => z.2, fun z => ⟨show vp_in (nI 14) 26100 from vp_in_nI (by decide) (by decide), z⟩⟩
    rw [p, p]
    by_cases hf : fdA r ≤ 0
    · rw [if_pos hf] at hd; subst hd
      simp only [hf, true_implies, not_true_eq_false, false_implies, and_true]; exact hP
    · rw [if_neg hf] at hd; subst hd
      simp only [hf, true_implies, not_false_eq_true, false_implies, true_and]; exact hP
  rcases fdA_or r with f0 | ⟨q, q1, q8, fq⟩
  · refine ⟨0, mp (mp (mp cA 0 6 0) 17 1 (nI jx)) 17 2 (mp cA 0 6 0 17 2 + 1), mr (mp mA 0 7 0) 1 (upd (upd (upd (mA 1) 12 (nI jx)) 13 (mA 1 13 + 1)) 14 (mA 1 14 + 0)), Or.inl rfl, ?_, ?_, ?_, ?_⟩
    · rw [f0] at RB eB
      have := pg_next (c' := mp (mp (mp cA 0 6 0) 17 1 (nI jx)) 17 2 (mp cA 0 6 0 17 2 + 1)) (d := 0) RB (by rw [eB]; exact A0) hn4 hjx (fun i hi => by rw [mp_n hi, mp_n hi]) (by rw [mp_s, up_n (by decide), mp_s, up_n (by decide)]) (by rw [mp_s, up_n (by decide), mp_s, up_s]) (by rw [mp_s, up_s]) (by rw [mp_s, up_n (by decide), mp_s, up_n (by decide), Int32.add_zero])
      rw [eB] at this; exact this
    · rw [mr_s, up_n (by decide), up_n (by decide), up_n (by decide)]; exact A0
    · intro l1 l4 P Q hl hP
      refine XB l1 l4 P Q hl ?_
      rw [f0] at B0 B1 ⊢
      unfold wX9_run_p118
      rw [x_behind B0 B1 hn4 hjn, ejx]
      simp only [if_true] at hP ⊢
      have e6 : mp (mp (mp cA 0 6 0) 17 1 (nI jx)) 17 2 (mp cA 0 6 0 17 2 + 1) 0 6 = 0 := by rw [mp_n (by decide), mp_n (by decide), mp_s, up_s]
      simp only [forall_eq, e6, true_implies, not_true_eq_false, false_implies, and_true]
      unfold wX9_run_p133; exact hP
    · intro l1 l2 P Q hl hP
      refine MB 0 (by rw [f0]; decide) l1 l2 P Q hl ?_
      rw [f0]; exact hP
  · have nf : ¬ nI q = 0 := nI_ne0 (by omega) (by omega)
    have nl : ¬ nI q ≤ 0 := nI_nle (by omega) (by omega)
    refine ⟨nI q, mp (mp (mp (mp cA 0 6 (nI q)) 17 1 (nI jx)) 17 2 (mp cA 0 6 (nI q) 17 2 + 1)) 17 3 (mp cA 0 6 (nI q) 17 3 + 1), mr (mp mA 0 7 (nI q)) 1 (upd (upd (upd (mA 1) 12 (nI jx)) 13 (mA 1 13 + 1)) 14 (mA 1 14 + 1)), Or.inr ⟨q, q1, q8, rfl⟩, ?_, ?_, ?_, ?_⟩
    · rw [fq] at RB eB
      have := pg_next (c' := mp (mp (mp (mp cA 0 6 (nI q)) 17 1 (nI jx)) 17 2 (mp cA 0 6 (nI q) 17 2 + 1)) 17 3 (mp cA 0 6 (nI q) 17 3 + 1)) (d := 1) RB (by rw [eB]; exact A0) hn4 hjx (fun i hi => by rw [mp_n hi, mp_n hi, mp_n hi]) (by rw [mp_s, up_n (by decide), mp_s, up_n (by decide), mp_s, up_n (by decide)]) (by rw [mp_s, up_n (by decide), mp_s, up_n (by decide), mp_s, up_s]) (by rw [mp_s, up_n (by decide), mp_s, up_s]) (by rw [mp_s, up_s])
      rw [eB] at this; exact this
    · rw [mr_s, up_n (by decide), up_n (by decide), up_n (by decide)]; exact A0
    · intro l1 l4 P Q hl hP
      refine XB l1 l4 P Q hl ?_
      rw [fq] at B0 B1 ⊢
      unfold wX9_run_p118
      rw [x_behind B0 B1 hn4 hjn, ejx]
      simp only [nf, if_false] at hP ⊢
      simp only [i32_10, if_false]
      have e6 : mp (mp (mp (mp cA 0 6 (nI q)) 17 1 (nI jx)) 17 2 (mp cA 0 6 (nI q) 17 2 + 1)) 17 3 (mp cA 0 6 (nI q) 17 3 + 1) 0 6 = nI q := by rw [mp_n (by decide), mp_n (by decide), mp_n (by decide), mp_s, up_s]
      simp only [forall_eq, e6, nf, true_implies, not_false_eq_true, false_implies, true_and]
      unfold wX9_run_p133; exact hP
    · intro l1 l2 P Q hl hP
      refine MB 1 (by rw [fq, if_neg nl]) l1 l2 P Q hl ?_
      rw [fq]; exact hP
theorem run_loop {N n : Nat} (hN : N ≤ 200) (hn4 : n ≤ 40) (hn0 : 0 < n) : ∀ (d k T : Nat) (c m : gMem), k + d = N → Rel T c m → T + 1000 * d < 2 ^ 28 → m 1 11 = nI n →
    ∃ r c' m', Di (wX9_run_p37 (nI N) 1 (nI k) c) r c' ∧ Di (wX10_run_p32 (nI N) (nI k) 0 m) r m' ∧ Rel (T + 1000 * d) c' m' := by
  intro d
  induction d with
  | zero =>
    intro k T c m hk R hT hn
    have e : k = N := by omega
    subst e
    refine ⟨nI k, c, m, fun Q hQ P hP => hP _ _ _ _ ?_, fun Q hQ P hP => hP _ _ _ _ ?_, R⟩
    · unfold wX9_run_p37_b
      simp only [Int32.le_refl, true_implies, not_true_eq_false, false_implies, and_true]; exact hQ
    · unfold wX10_run_p32_b
      simp only [Int32.le_refl, true_implies, not_true_eq_false, false_implies, and_true]; exact hQ
  | succ d ih =>
    intro k T c m hk R hT hn
    have hlt : ¬ nI N ≤ nI k := nI_ge (by omega) (by omega)
    obtain ⟨n', j, i1, i2, i3, i4, i5⟩ := R.1.2.1.2.2.2.2
    have en : n' = n := nI_inj (by omega) (by omega) (i1.symm.trans hn)
    subst en
    obtain ⟨f, c1, m1, hf, R1, h1, X1, M1⟩ := run_one R (by omega) hn hn4 i3 (by omega)
    rcases hf with rfl | ⟨q, q1, q8, rfl⟩
    · obtain ⟨r, c2, m2, X2, M2, R2⟩ := ih (k + 1) (T + 1000) c1 m1 (by omega) R1 (by omega) h1
      refine ⟨r, c2, m2, fun Q hQ P hP => hP _ _ _ _ (X1 _ _ _ _ hlt ?_), fun Q hQ P hP => hP _ _ _ _ (M1 _ _ _ _ hlt ?_), R2.mono (by omega)⟩
      · rw [nI_1, if_pos rfl]; exact X2 Q hQ P hP
      · rw [nI_1]; exact M2 Q hQ P hP
    · have nf : ¬ nI q = 0 := nI_ne0 (by omega) (by omega)
      refine ⟨nI (k + 1), c1, m1, fun Q hQ P hP => hP _ _ _ _ (X1 _ _ _ _ hlt ?_), fun Q hQ P hP => hP _ _ _ _ (M1 _ _ _ _ hlt ?_), R1.mono (by omega)⟩
      · rw [nI_1, if_neg nf]
        refine hP _ _ _ _ ?_
        unfold wX9_run_p37_b
        by_cases hle : nI N ≤ nI (k + 1)
        · simp only [hle, true_implies, not_true_eq_false, false_implies, and_true]; exact hQ
        · simp only [hle, true_implies, not_true_eq_false, not_false_eq_true, false_implies, and_true, true_and]; exact hQ
      · rw [nI_1]
        refine hP _ _ _ _ ?_
        unfold wX10_run_p32_b
        by_cases hle : nI N ≤ nI (k + 1)
        · simp only [hle, true_implies, not_true_eq_false, false_implies, and_true]; exact hQ
        · simp only [hle, nf, true_implies, not_true_eq_false, not_false_eq_true, false_implies, and_true, true_and]; exact hQ
theorem op_run {x : Int32} (R : Rel T c m) (hT : T + 200000 < 2 ^ 28) : Sim (wX9_run x c) (wX10_run x m) (Rel (T + 200000)) := by
  rcases pk_ix x (n := 201) (by decide) with q | q | ⟨j, hj, rfl⟩
  · refine ⟨-102, c, m, fun Q hQ => ?_, fun Q hQ => ?_, R.mono (by omega)⟩
    · unfold wX9_run
      simp only [q, true_implies, not_true_eq_false, false_implies, and_true]; exact hQ
    · unfold wX10_run
      rw [e_inL0 (n := 201) (by decide) (by decide) (Or.inl q)]
      simp only [true_implies, not_true_eq_false, false_implies, and_true]; exact hQ
  · have q' := Int32.le_iff_toInt_le.mp q
    rw [nI_toInt (by decide)] at q'
    refine ⟨-102, c, m, fun Q hQ => ?_, fun Q hQ => ?_, R.mono (by omega)⟩
    · unfold wX9_run
      have z0 : (0 : Int32).toInt = 0 := by decide
      have n0 : ¬ x < 0 := fun z => by have := Int32.lt_iff_toInt_lt.mp z; omega
      have z1 : (200 : Int32).toInt = 200 := by decide
      have n1 : ¬ x ≤ 200 := fun z => by have := Int32.le_iff_toInt_le.mp z; omega
      simp only [n0, n1, true_implies, not_false_eq_true, false_implies, true_and]; exact hQ
    · unfold wX10_run
      rw [e_inL0 (n := 201) (by decide) (by decide) (Or.inr q)]
      simp only [true_implies, not_true_eq_false, false_implies, and_true]; exact hQ
  · obtain ⟨n, k, i1, i2, i3, i4, i5⟩ := R.1.2.1.2.2.2.2
    have c0 : c 17 0 = nI n := (R.1.1.2.2.2.2.2.2.2.2.1.1 0 (by decide)).trans i1
    have n0 : ¬ nI j < 0 := nI_pos (by omega)
    have n1 : nI j ≤ 200 := nI_le (b := 200) (by omega) (by decide)
    by_cases hn : n = 0
    · subst hn
      refine ⟨-104, c, m, fun Q hQ => ?_, fun Q hQ => ?_, R.mono (by omega)⟩
      · unfold wX9_run
        simp only [n0, n1, forall_eq, c0, show nI 0 = (0 : Int32) from rfl, true_implies, not_false_eq_true, not_true_eq_false, false_implies, true_and, and_true]; exact hQ
      · unfold wX10_run
        rw [e_inL1 (n := 201) (by decide) hj (by decide)]
        simp only [i32_10, forall_eq, i1, show nI 0 = (0 : Int32) from rfl, true_implies, not_false_eq_true, not_true_eq_false, false_implies, true_and, and_true]; exact hQ
    · have nz : ¬ nI n = 0 := nI_ne0 (by omega) (by omega)
      obtain ⟨r, c1, m1, X1, M1, R1⟩ := run_loop (N := j) (n := n) (by omega) i2 (by omega) j 0 T c m (by omega) R (by omega) i1
      refine ⟨r, c1, m1, fun Q hQ => ?_, fun Q hQ => ?_, R1.mono (by omega)⟩
      · unfold wX9_run
        simp only [n0, n1, forall_eq, c0, nz, true_implies, not_false_eq_true, not_true_eq_false, false_implies, true_and, and_true]; exact X1 _ hQ
      · unfold wX10_run
        rw [e_inL1 (n := 201) (by decide) hj (by decide)]
        simp only [i32_10, forall_eq, i1, nz, true_implies, not_false_eq_true, not_true_eq_false, false_implies, true_and, and_true]; exact M1 _ hQ
end RUN

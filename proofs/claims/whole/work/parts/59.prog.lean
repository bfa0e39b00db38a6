/-! the program: acts, registers -/
section PG
variable {T : Nat} {c m : gMem}
/-- only the program's part, and registers, have changed -/
theorem pg_now {c' : gMem} {s' : gS} (R : Rel T c m) (hs : ∀ j, ¬ (11 ≤ j ∧ j < 15) → ¬ (76 ≤ j ∧ j < 84) → ¬ (400 ≤ j ∧ j < 600) → s' j = m 1 j) (hc : ∀ i, i < 17 ∨ 19 < i → c' i = c i) (hG : iG s') (hreg : ∀ r, r < 8 → aRg (m 1) (s' (76 + r))) (hr : rG 1 c' s') : Rel T c' (mr m 1 s') := by
  obtain ⟨⟨hp, hmk, it, ip, ig⟩, hL⟩ := id R.1.2
  obtain ⟨ia, ic, iz, inn, ir⟩ := id hp
  obtain ⟨a1, a2, a3, a4, a5, a6, a7, a8, a9⟩ := id hp.1
  obtain ⟨r1, r2, r3, r4, r5, r6, r7, r8, r9, r10⟩ := R.1.1
  have hR6 := ip.2.2
  have e : hwE (m 1) s' := ⟨⟨fun j hj => hs j (by omega) (by omega) (by omega), fun h w hh hw => hs _ (by omega) (by omega) (by omega)⟩, fun j q1 q2 => hs j (by omega) (by omega) (by omega)⟩
  have f : mkE (m 1) s' := ⟨fun j hj => hs j (by omega) (by omega) (by omega), fun j q1 q2 => hs j (by omega) (by omega) (by omega), fun h w hh q1 q2 => hs _ (by omega) (by omega) (by omega)⟩
  have hK := hmk.1.2.2.1
  refine R.now (Nat.le_refl _) ?_ ⟨⟨⟨e.jA ia, e.jC ia ic, e.jZ ia iz, e.jN ia ic inn, ?_⟩, f.all hp.1 e.1.m (fun g hg hlg => (e.1.lv (by omega)).mpr hlg) (fun g hg hlg => e.1.lk (by omega)) hmk, iT_cong (hs _ (by omega) (by omega) (by omega)) it, iP_cong (hs _ (by omega) (by omega) (by omega)) ip, hG⟩, ?_⟩ (fun i hi => hc i (by omega)) (hs _ (by omega) (by omega) (by omega))
  · exact ⟨rH_cong e.1 (fun k _ => by rw [hc _ (by decide)]) r1, rW_cong e.1.u (by omega) (fun k hk => e.2 _ (by omega) (by omega)) (fun k _ => by rw [hc _ (by decide)]) r2, rC_cong e.1 a5 (fun k _ => by rw [hc _ (by decide)]) (fun k _ => by rw [hc _ (by decide)]) r3, rM_cong f hmk a5 (fun k _ => by rw [hc _ (by decide)]) r4, rO_cong f hmk a5 (fun k _ => by rw [hc _ (by decide)]) (fun k _ => by rw [hc _ (by decide)]) (fun k _ => by rw [hc _ (by decide)]) (fun k _ => by rw [hc _ (by decide)]) r5, rK_cong f e.1.m a5 (fun k _ => by rw [hc _ (by decide)]) r6, rT_cong ⟨fun q _ _ => hs q (by omega) (by omega) (by omega), fun q _ _ => hs q (by omega) (by omega) (by omega)⟩ (fun k _ => by rw [hc _ (by decide)]) (fun k _ => by rw [hc _ (by decide)]) r7, rP_cong ⟨hs _ (by omega) (by omega) (by omega), fun q hq => ⟨hs _ (by omega) (by omega) (by omega), hs _ (by omega) (by omega) (by omega)⟩⟩ (by rw [hc _ (by decide)]) (fun k _ => by rw [hc _ (by decide)]) (fun k _ => by rw [hc _ (by decide)]) r8, hr, rR_cong (fun q _ _ => hs q (by omega) (by omega) (by omega)) (fun k _ => by rw [hc _ (by decide)]) (fun k _ => by rw [hc _ (by decide)]) r10⟩
  · obtain ⟨i1, i2, i3⟩ := ir
    refine ⟨fun r hr => ?_, fun k hk => ?_, fun r hr => ?_⟩
    · rw [hs _ (by omega) (by omega) (by omega)]; exact e.1.hv a5 (i1 r hr)
    · rw [hs _ (by omega) (by omega) (by omega)]; exact e.1.hv a5 (i2 k hk)
    · rw [e.1.m]; exact hreg r hr
  · refine ⟨iL1_cong e f R.1.2.1 hL.1, fun h3 r hr => ?_⟩
    rw [hs _ (by omega) (by omega) (by omega)] at h3 ⊢
    exact f.mk (by omega) (hL.2 h3 r hr)
theorem op_clear (R : Rel T c m) : Sim (wX9_clear c) (wX10_clear m) (Rel T) := by
  have r9 := R.1.1.2.2.2.2.2.2.2.2.1
  have h0 : c 17 0 = m 1 11 := r9.1 0 (by decide)
  have e1 : mp (mp m 1 11 0) 1 12 0 = mr m 1 (upd (upd (m 1) 11 0) 12 0) := by
    show mp (mr m 1 (upd (m 1) 11 0)) 1 12 0 = _
    exact mp_mr
  refine ⟨m 1 11, mp (mp c 17 0 0) 17 1 0, mr m 1 (upd (upd (m 1) 11 0) 12 0), fun Q hQ => ?_, fun Q hQ => ?_, pg_now R (fun j h1 h2 h3 => by rw [up_n (by omega), up_n (by omega)]) (fun i hi => by rw [mp_n (by omega), mp_n (by omega)]) ?_ (fun r hr => by rw [up_n (by omega), up_n (by omega)]; exact R.1.2.1.1.2.2.2.2.2.2 r hr) ?_⟩
  · unfold wX9_clear; simp only [forall_eq, h0]; exact hQ
  · unfold wX10_clear; simp only [forall_eq]; rw [e1]; exact hQ
  · refine ⟨0, 0, ?_, by decide, ?_, Or.inr ⟨rfl, rfl⟩, fun q hq => absurd hq (by omega)⟩
    · rw [up_n (by decide), up_s]; rfl
    · rw [up_s]; rfl
  · refine ⟨fun k hk => ?_, fun k hk => ?_, fun r hr => ?_⟩
    · show mp (mp c 17 0 0) 17 1 0 17 k = _
      rw [mp_s, mp_s]
      rcases (by omega : k = 0 ∨ k = 1 ∨ k = 2 ∨ k = 3) with rfl | rfl | rfl | rfl
      · rw [up_n (by decide), up_s, up_n (by decide), up_s]
      · rw [up_s, up_s]
      · rw [up_n (by decide), up_n (by decide), up_n (by decide), up_n (by decide)]; exact r9.1 2 hk
      · rw [up_n (by decide), up_n (by decide), up_n (by decide), up_n (by decide)]; exact r9.1 3 hk
    · have : nn (upd (upd (m 1) 11 0) 12 0) 11 = 0 := nn_nI (n := 0) (by rw [up_n (by decide), up_s]; rfl) (by decide)
      omega
    · show mp (mp c 17 0 0) 17 1 0 19 r = _
      rw [mp_n (by decide), mp_n (by decide), up_n (by omega), up_n (by omega)]; exact r9.2.2 r hr
/-! act -/
def kn (n : Nat) (x : Int32) : Prop := n = 0 ∨ isIn x n
theorem kn_or {n : Nat} {x : Int32} (hn : n ≤ 1001) : kn n x ∨ (0 < n ∧ (x < 0 ∨ nI n ≤ x)) := by
  by_cases h0 : n = 0
  · exact Or.inl (Or.inl h0)
  · rcases pk_ix x (n := n) (by omega) with q | q | ⟨j, hj, e⟩
    · exact Or.inr ⟨by omega, Or.inl q⟩
    · exact Or.inr ⟨by omega, Or.inr q⟩
    · exact Or.inl (Or.inr ⟨j, hj, e⟩)
theorem x_name1 {n : Nat} {x y : Int32} (hy : y = nI n) (hn : n ≤ 1001) (h : kn n x) {Q : Int32 → gMem → Prop} : wX9_isNoName y x c Q = Q 0 c := by
  subst hy
  unfold wX9_isNoName wX9_isNoName_p13
  rcases h with rfl | ⟨j, hj, rfl⟩
  · simp [show nI 0 = (0 : Int32) from rfl]
  · simp only [nI_nle (show 0 < n by omega) (show n < 2 ^ 31 by omega), nI_pos (show j < 2 ^ 31 by omega), nI_lt hj (show n < 2 ^ 31 by omega), true_implies, not_true_eq_false, not_false_eq_true, false_implies, true_and, and_true]
theorem x_name0 {n : Nat} {x y : Int32} (hy : y = nI n) (hn : n ≤ 1001) (h : 0 < n ∧ (x < 0 ∨ nI n ≤ x)) {Q : Int32 → gMem → Prop} : wX9_isNoName y x c Q = Q 1 c := by
  subst hy
  unfold wX9_isNoName wX9_isNoName_p13
  simp only [nI_nle h.1 (show n < 2 ^ 31 by omega), true_implies, not_false_eq_true, false_implies, true_and]
  by_cases h0 : x < 0
  · simp only [h0, true_implies, not_true_eq_false, false_implies, and_true]
  · simp only [h0, show ¬ x < nI n from Int32.not_lt.mpr (h.2.resolve_left h0), true_implies, not_false_eq_true, false_implies, true_and]
theorem e_reg1 {x : Int32} (h : isIn x 8) {Q : Int32 → gMem → Prop} : wX10_isRegister x m Q = Q 1 m := by
  obtain ⟨j, hj, rfl⟩ := h
  unfold wX10_isRegister
  rw [e_inL1 (n := 8) (by decide) hj (by decide)]; simp
theorem e_reg0 {x : Int32} (h : x < 0 ∨ nI 8 ≤ x) {Q : Int32 → gMem → Prop} : wX10_isRegister x m Q = Q 0 m := by
  unfold wX10_isRegister
  rw [e_inL0 (n := 8) (by decide) (by decide) h]; simp
theorem e_rt1 {x : Int32} (h : isIn x 24) {Q : Int32 → gMem → Prop} : wX10_isRoot x m Q = Q 1 m := by
  obtain ⟨j, hj, rfl⟩ := h
  exact e_isRoot1 hj
def nmA (w : Nat) : Nat := if w = 3 ∨ w = 4 then 24 else if w = 9 ∨ w = 10 then 0 else if w = 12 then 4 else 8
def nmB (w : Nat) : Nat := if 3 ≤ w ∧ w ≤ 6 then 8 else 0
def nmC (w : Nat) : Nat := if w = 1 ∨ w = 2 ∨ w = 7 ∨ w = 12 then 8 else 0
theorem nm_tab {w : Nat} (hw : w ≤ 12) : (gs_n 5).2.2.getD w 0 = nI (nmA w) ∧ (gs_n 6).2.2.getD w 0 = nI (nmB w) ∧ (gs_n 7).2.2.getD w 0 = nI (nmC w) ∧ nmA w ≤ 24 ∧ nmB w ≤ 8 ∧ nmC w ≤ 8 := by
  rcases (by omega : w = 0 ∨ w = 1 ∨ w = 2 ∨ w = 3 ∨ w = 4 ∨ w = 5 ∨ w = 6 ∨ w = 7 ∨ w = 8 ∨ w = 9 ∨ w = 10 ∨ w = 11 ∨ w = 12) with rfl | rfl | rfl | rfl | rfl | rfl | rfl | rfl | rfl | rfl | rfl | rfl | rfl <;> decide
theorem e_known1 {w : Nat} {a b d : Int32} (hw : w ≤ 12) (ha : kn (nmA w) a) (hb : kn (nmB w) b) (hd : kn (nmC w) d) {Q : Int32 → gMem → Prop} : wX10_areKnown (nI w) a b d m Q = Q 1 m := by
  have g8 : ∀ {x : Int32}, kn 8 x → isIn x 8 := fun h => h.resolve_left (by decide)
  have g24 : ∀ {x : Int32}, kn 24 x → isIn x 24 := fun h => h.resolve_left (by decide)
  have g4 : ∀ {x : Int32}, kn 4 x → isIn x 4 := fun h => h.resolve_left (by decide)
  have p68 : ∀ {x : Int32}, isIn x 8 → wX10_areKnown_p68 x m Q = Q 1 m := fun h => by unfold wX10_areKnown_p68; rw [e_reg1 h]; simp
  have p73 : ∀ {x y : Int32}, isIn x 8 → isIn y 8 → wX10_areKnown_p73 x y m Q = Q 1 m := fun h1 h2 => by unfold wX10_areKnown_p73; rw [e_reg1 h1, e_reg1 h2]; simp
  have p93 : ∀ {x y : Int32}, isIn x 24 → isIn y 8 → wX10_areKnown_p93 x y m Q = Q 1 m := fun h1 h2 => by unfold wX10_areKnown_p93; rw [e_rt1 h1, e_reg1 h2]; simp
  have p113 : ∀ {x y : Int32}, isIn x 8 → isIn y 8 → wX10_areKnown_p113 x y m Q = Q 1 m := fun h1 h2 => by unfold wX10_areKnown_p113; rw [e_reg1 h1, e_reg1 h2]; simp
  unfold wX10_areKnown
  rcases (by omega : w = 0 ∨ w = 1 ∨ w = 2 ∨ w = 3 ∨ w = 4 ∨ w = 5 ∨ w = 6 ∨ w = 7 ∨ w = 8 ∨ w = 9 ∨ w = 10 ∨ w = 11 ∨ w = 12) with rfl | rfl | rfl | rfl | rfl | rfl | rfl | rfl | rfl | rfl | rfl | rfl | rfl
  · simp [show nI 0 = (0 : Int32) from rfl, p68 (g8 ha)]
  · simp [show nI 1 = (1 : Int32) from rfl, p73 (g8 ha) (g8 hd)]
  · simp [show nI 2 = (2 : Int32) from rfl, p73 (g8 ha) (g8 hd)]
  · simp [show nI 3 = (3 : Int32) from rfl, p93 (g24 ha) (g8 hb)]
  · simp [show nI 4 = (4 : Int32) from rfl, p93 (g24 ha) (g8 hb)]
  · simp [show nI 5 = (5 : Int32) from rfl, p113 (g8 ha) (g8 hb)]
  · simp [show nI 6 = (6 : Int32) from rfl, p113 (g8 ha) (g8 hb)]
  · simp [show nI 7 = (7 : Int32) from rfl, p73 (g8 ha) (g8 hd)]
  · simp [show nI 8 = (8 : Int32) from rfl, p68 (g8 ha)]
  · simp [show nI 9 = (9 : Int32) from rfl]
  · simp [show nI 10 = (10 : Int32) from rfl]
  · simp [show nI 11 = (11 : Int32) from rfl, p68 (g8 ha)]
  · obtain ⟨j, hj, rfl⟩ := g4 ha
    rw [e_inL1 (n := 4) (by decide) hj (by decide), e_reg1 (g8 hd)]
    simp [show nI 12 = (12 : Int32) from rfl]
theorem e_known0 {w : Nat} {a b d : Int32} (hw : w ≤ 12) (h : (0 < nmA w ∧ (a < 0 ∨ nI (nmA w) ≤ a)) ∨ kn (nmA w) a ∧ ((0 < nmB w ∧ (b < 0 ∨ nI (nmB w) ≤ b)) ∨ kn (nmB w) b ∧ (0 < nmC w ∧ (d < 0 ∨ nI (nmC w) ≤ d)))) {Q : Int32 → gMem → Prop} : wX10_areKnown (nI w) a b d m Q = Q 0 m := by
  have g8 : ∀ {x : Int32}, kn 8 x → isIn x 8 := fun h => h.resolve_left (by decide)
  have g24 : ∀ {x : Int32}, kn 24 x → isIn x 24 := fun h => h.resolve_left (by decide)
  have g4 : ∀ {x : Int32}, kn 4 x → isIn x 4 := fun h => h.resolve_left (by decide)
  have p68 : ∀ {x : Int32}, (x < 0 ∨ nI 8 ≤ x) → wX10_areKnown_p68 x m Q = Q 0 m := fun h => by unfold wX10_areKnown_p68; rw [e_reg0 h]; simp
  have p73a : ∀ {x y : Int32}, (x < 0 ∨ nI 8 ≤ x) → wX10_areKnown_p73 x y m Q = Q 0 m := fun h1 => by unfold wX10_areKnown_p73; rw [e_reg0 h1]; simp
  have p73b : ∀ {x y : Int32}, isIn x 8 → (y < 0 ∨ nI 8 ≤ y) → wX10_areKnown_p73 x y m Q = Q 0 m := fun h1 h2 => by unfold wX10_areKnown_p73; rw [e_reg1 h1, e_reg0 h2]; simp
  have p93a : ∀ {x y : Int32}, (x < 0 ∨ nI 24 ≤ x) → wX10_areKnown_p93 x y m Q = Q 0 m := fun h1 => by unfold wX10_areKnown_p93; rw [e_isRoot0 h1]; simp
  have p93b : ∀ {x y : Int32}, isIn x 24 → (y < 0 ∨ nI 8 ≤ y) → wX10_areKnown_p93 x y m Q = Q 0 m := fun h1 h2 => by unfold wX10_areKnown_p93; rw [e_rt1 h1, e_reg0 h2]; simp
  have p113a : ∀ {x y : Int32}, (x < 0 ∨ nI 8 ≤ x) → wX10_areKnown_p113 x y m Q = Q 0 m := fun h1 => by unfold wX10_areKnown_p113; rw [e_reg0 h1]; simp
  have p113b : ∀ {x y : Int32}, isIn x 8 → (y < 0 ∨ nI 8 ≤ y) → wX10_areKnown_p113 x y m Q = Q 0 m := fun h1 h2 => by unfold wX10_areKnown_p113; rw [e_reg1 h1, e_reg0 h2]; simp
  unfold wX10_areKnown
  rcases (by omega : w = 0 ∨ w = 1 ∨ w = 2 ∨ w = 3 ∨ w = 4 ∨ w = 5 ∨ w = 6 ∨ w = 7 ∨ w = 8 ∨ w = 9 ∨ w = 10 ∨ w = 11 ∨ w = 12) with rfl | rfl | rfl | rfl | rfl | rfl | rfl | rfl | rfl | rfl | rfl | rfl | rfl
  · rcases h with ⟨-, h⟩ | ⟨h1, ⟨q, -⟩ | ⟨-, ⟨q, -⟩⟩⟩
    · simp [show nI 0 = (0 : Int32) from rfl, p68 h]
    · exact absurd q (by decide)
    · exact absurd q (by decide)
  · rcases h with ⟨-, h⟩ | ⟨h1, ⟨q, -⟩ | ⟨-, ⟨-, h⟩⟩⟩
    · simp [show nI 1 = (1 : Int32) from rfl, p73a h]
    · exact absurd q (by decide)
    · simp [show nI 1 = (1 : Int32) from rfl, p73b (g8 h1) h]
  · rcases h with ⟨-, h⟩ | ⟨h1, ⟨q, -⟩ | ⟨-, ⟨-, h⟩⟩⟩
    · simp [show nI 2 = (2 : Int32) from rfl, p73a h]
    · exact absurd q (by decide)
    · simp [show nI 2 = (2 : Int32) from rfl, p73b (g8 h1) h]
  · rcases h with ⟨-, h⟩ | ⟨h1, ⟨-, h⟩ | ⟨-, ⟨q, -⟩⟩⟩
    · simp [show nI 3 = (3 : Int32) from rfl, p93a h]
    · simp [show nI 3 = (3 : Int32) from rfl, p93b (g24 h1) h]
    · exact absurd q (by decide)
  · rcases h with ⟨-, h⟩ | ⟨h1, ⟨-, h⟩ | ⟨-, ⟨q, -⟩⟩⟩
    · simp [show nI 4 = (4 : Int32) from rfl, p93a h]
    · simp [show nI 4 = (4 : Int32) from rfl, p93b (g24 h1) h]
    · exact absurd q (by decide)
  · rcases h with ⟨-, h⟩ | ⟨h1, ⟨-, h⟩ | ⟨-, ⟨q, -⟩⟩⟩
    · simp [show nI 5 = (5 : Int32) from rfl, p113a h]
    · simp [show nI 5 = (5 : Int32) from rfl, p113b (g8 h1) h]
    · exact absurd q (by decide)
  · rcases h with ⟨-, h⟩ | ⟨h1, ⟨-, h⟩ | ⟨-, ⟨q, -⟩⟩⟩
    · simp [show nI 6 = (6 : Int32) from rfl, p113a h]
    · simp [show nI 6 = (6 : Int32) from rfl, p113b (g8 h1) h]
    · exact absurd q (by decide)
  · rcases h with ⟨-, h⟩ | ⟨h1, ⟨q, -⟩ | ⟨-, ⟨-, h⟩⟩⟩
    · simp [show nI 7 = (7 : Int32) from rfl, p73a h]
    · exact absurd q (by decide)
    · simp [show nI 7 = (7 : Int32) from rfl, p73b (g8 h1) h]
  · rcases h with ⟨-, h⟩ | ⟨h1, ⟨q, -⟩ | ⟨-, ⟨q, -⟩⟩⟩
    · simp [show nI 8 = (8 : Int32) from rfl, p68 h]
    · exact absurd q (by decide)
    · exact absurd q (by decide)
  · rcases h with ⟨q, -⟩ | ⟨h1, ⟨q, -⟩ | ⟨-, ⟨q, -⟩⟩⟩ <;> exact absurd q (by decide)
  · rcases h with ⟨q, -⟩ | ⟨h1, ⟨q, -⟩ | ⟨-, ⟨q, -⟩⟩⟩ <;> exact absurd q (by decide)
  · rcases h with ⟨-, h⟩ | ⟨h1, ⟨q, -⟩ | ⟨-, ⟨q, -⟩⟩⟩
    · simp [show nI 11 = (11 : Int32) from rfl, p68 h]
    · exact absurd q (by decide)
    · exact absurd q (by decide)
  · rcases h with ⟨-, h⟩ | ⟨h1, ⟨q, -⟩ | ⟨-, ⟨-, h⟩⟩⟩
    · rw [e_inL0 (n := 4) (by decide) (by decide) h]; simp [show nI 12 = (12 : Int32) from rfl]
    · exact absurd q (by decide)
    · obtain ⟨j, hj, rfl⟩ := g4 h1
      rw [e_inL1 (n := 4) (by decide) hj (by decide), e_reg0 h]; simp [show nI 12 = (12 : Int32) from rfl]
end PG

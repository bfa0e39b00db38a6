/-! end -/
section E4
variable {T : Nat} {c m : gMem}
theorem pap_cong {s : gS} {f f' w w' g g' : Nat → Int32} {K n : Nat} (hp : aHp s) (h1 : ∀ r, r < 24 → f r = f' r) (h2 : ∀ k, k < zU s → w k = w' k) (h3 : ∀ q, q < n → g q = g' q) : papL s f w g K n = papL s f' w' g' K n := by
  unfold papL
  rw [lkL_cong 24 h1, lkL_cong n h3, pl_cong (U := zU s) hp (Nat.le_refl _) (by rw [hp.1.2.2.2.2.2.2.1]; exact Nat.le_refl _) h2 _ (Nat.le_refl _)]
set_option maxHeartbeats 8000000 in
theorem sim_end (hr : aSR 1 c (m 1)) (hI : aSI T (m 1)) (h3 : m 1 3 = 1) (hL : zL (m 1) = zK (m 1)) (h64 : ∀ b, b < 14 → c 64 b = m 4 b) (hT : T < 2 ^ 29) :
    ∃ c' m', Dv (wX7_end c) c' ∧ Dv (wX10_end m) m' ∧ aSR 1 c' (m' 1) ∧ aSI (T + 500) (m' 1) ∧ (∀ b, b < 14 → c' 64 b = m' 4 b) ∧ m' 1 0 = m 1 0 ∧ m' 1 1 = m 1 1 ∧ m' 1 3 = 0 ∧ (∀ i, i ≠ 1 → i ≠ 4 → i ≠ 5 → m' i = m i) ∧ (∀ i, i = 0 ∨ 22 ≤ i ∧ i < 64 ∨ 67 ≤ i → c' i = c i) ∧ zU (m' 1) = ((Lst (m 1)).map (aSz (m 1))).sum ∧ (∀ j, 11 ≤ j ∧ j < 15 ∨ 76 ≤ j ∧ j < 84 ∨ 400 ≤ j ∧ j < 600 → m' 1 j = m 1 j) ∧ (∀ h, h < zM (m 1) → kpB (m 1) h = true → aLv (m' 1) h ∧ aSz (m' 1) h = aSz (m 1) h ∧ aLk (m' 1) h = aLk (m 1) h ∧ ∀ i, i < aLk (m 1) h → aLn (m' 1) h i = aLn (m 1) h i) ∧ ∀ r, r < 24 → m' 1 (20 + r) = m 1 (20 + r) := by
  -- the prelude
  have hs0 : ∃ s0 : gS, s0 = m 1 := ⟨_, rfl⟩
  obtain ⟨s0, es0⟩ := hs0
  rw [← es0] at hr hI h3 hL
  have hs : ∃ s : gS, s = upd (upd (upd (upd s0 5 (s0 5 + 1)) 6 (s0 4)) 7 0) 8 0 := ⟨_, rfl⟩
  obtain ⟨s, es⟩ := hs
  have so : ∀ j, ¬ (5 ≤ j ∧ j < 9) → s j = s0 j := fun j hj => by rw [es, up_n (by omega), up_n (by omega), up_n (by omega), up_n (by omega)]
  have s5 : s 5 = s0 5 + 1 := by rw [es, up_n (by decide), up_n (by decide), up_n (by decide), up_s]
  have s6 : s 6 = s0 4 := by rw [es, up_n (by decide), up_n (by decide), up_s]
  have s7 : s 7 = 0 := by rw [es, up_n (by decide), up_s]
  have s8 : s 8 = 0 := by rw [es, up_s]
  obtain ⟨⟨hp0, hmk0, it0, ip0, ig0⟩, hl0⟩ := id hI
  have e : hpE s0 s := ⟨⟨fun j hj => so j (by omega), fun h w hh hw => so _ (by omega)⟩, fun j a b => so _ (by omega), fun j a b => so _ (by omega)⟩
  have f : mkE s0 s := ⟨fun j hj => so j (by omega), fun j a b => so _ (by omega), fun h w hh h5 h10 => so _ (by omega)⟩
  have a5 : zM s0 ≤ 500 := hp0.1.2.2.2.2.1
  have hp : aHp s := e.all hp0
  have hmk : iM s ∧ iO s ∧ iU s := f.all hp0.1 e.1.m (fun h hh hl => (e.1.lv (by omega)).mpr hl) (fun h hh _ => e.1.lk (by omega)) hmk0
  have hIs : aSI T s := ⟨⟨hp, hmk, iT_cong (so _ (by omega)) it0, iP_cong (so _ (by omega)) ip0, iG_cong ⟨fun q h1 h2 => so _ (by omega), fun q h1 h2 => so _ (by omega), fun q h1 h2 => so _ (by omega)⟩ ig0⟩, both_iL e f hp0 hmk0 hl0⟩
  have h3s : s 3 = 1 := by rw [so 3 (by omega)]; exact h3
  have hLs : zL s = zK s := by rw [f.l, f.k]; exact hL
  have hK4 : s 6 = nI (zK s) := by rw [s6, ← so 4 (by omega)]; exact hmk.1.2.1
  obtain ⟨a1, a2, a3, a4, a5', a6, a7, a8, a9⟩ := id hp.1
  obtain ⟨r1, r2, r3, r4, r5, r6, r7, r8, r9, r10⟩ := id hr
  have hem : mp (mp (mp (mp m 1 5 (m 1 5 + 1)) 1 6 (m 1 4)) 1 7 0) 1 8 0 = mr m 1 s := by
    have : m = mr m 1 s0 := by rw [es0, mr_self]
    rw [this, mp_mr, mp_mr, mp_mr, mp_mr, mr_s, ← es, mr_mr]
  -- the class's prelude
  have hc0 : ∃ c0 : gMem, c0 = mp (mp c 12 0 (c 12 0 + 1)) 65 5 0 := ⟨_, rfl⟩
  obtain ⟨c0, ec0⟩ := hc0
  have c0o : ∀ i, i ≠ 12 → i ≠ 65 → c0 i = c i := fun i h1 h2 => by rw [ec0, mp_n h2, mp_n h1]
  have c012 : c0 12 = upd (c 12) 0 (s0 5 + 1) := by rw [ec0, mp_n (by decide), mp_s, r7.1 0 (by decide)]
  have R0 : rH 1 c0 s ∧ rW 1 c0 s ∧ rC 1 c0 s ∧ rK 1 c0 s ∧ rR 1 c0 s := ⟨rH_cong e.1 (fun k _ => by rw [c0o _ (by decide) (by decide)]) r1, rW_cong e.1.u (by have := hp0.1; unfold iA at this; omega) (fun k hk => so _ (by omega)) (fun k _ => by rw [c0o _ (by decide) (by decide)]) r2, rC_cong e.1 a5 (fun k _ => by rw [c0o _ (by decide) (by decide)]) (fun k _ => by rw [c0o _ (by decide) (by decide)]) r3, rK_cong f e.1.m a5 (fun k _ => by rw [c0o _ (by decide) (by decide)]) r6, rR_cong (fun q h1 h2 => so _ (by omega)) (fun k _ => by rw [c0o _ (by decide) (by decide)]) (fun k _ => by rw [c0o _ (by decide) (by decide)]) r10⟩
  have zt : zT s = zT s0 := nn_cong (so 10 (by omega))
  obtain ⟨c2, m1, X2, M1, F2, FR2, g1, g2, g3, g4, g5, g6, g7, g8, g9, g10, g11, g12⟩ := gb_sim (T := T) (s := s) (c0 := c0) (m0 := mr m 1 s) R0 ⟨fun k hk => by
      rw [c012]
      rcases hk with rfl | rfl | rfl
      · rw [up_s]; exact s5.symm
      · rw [up_n (by decide), so _ (by omega)]; exact r7.1 4 (by decide)
      · rw [up_n (by decide), so _ (by omega)]; exact r7.1 5 (by decide), fun k k1 k2 => by rw [c0o 13 (by decide) (by decide), so _ (by omega)]; exact r7.2 k k1 (by omega)⟩ hIs.1 s7 (by rw [ec0, mp_s, up_s]) (fun b hb => by rw [c0o 64 (by decide) (by decide), mr_n (by decide)]; exact h64 b hb) mr_s
  obtain ⟨c3, m3, X3, M3, d1, d2, d3, ⟨d41, d42, ⟨z, d43, d44, d45⟩, d46⟩, ⟨d51, d52⟩, d6, d7⟩ := fd_all F2 (zM s) 0 T c2 m1 (by omega) (by omega) FR2
  have hnk := nd_kp (s := s) (zM s) (Nat.le_refl _)
  have hcK := ck_K a5' hmk
  have hcn : aCn s (zM s) ≤ 500 := by
    have : ∀ j, aCn s j ≤ j := by
      intro j
      induction j with
      | zero => exact Nat.le_refl _
      | succ j ih => show aCn s j + (if s (1100 + 10 * j) = 1 then 1 else 0) ≤ j + 1; split <;> omega
    have := this (zM s); omega
  have hKM := hmk.1.2.2.1
  have m1o : ∀ k, k ≠ 2 → k ≠ 7 → ¬ (44 ≤ k ∧ k < 76) → (∀ h, h < 500 → k ≠ 1100 + 10 * h) → m1 1 k = s k := fun k k2 k7 k4 kh => by
    rw [g1]; exact gv_o k2 k7 k4 _ (fun h hh => kh h (by omega))
  have m17 : m1 1 7 = nI (ndN s (zM s)) := by rw [g1]; exact gv_7 s7 _
  have m12 : m1 1 2 = nI (ckN s (zM s)) := by rw [g1, gv_2 a9 _ (by omega)]; congr 1; omega
  -- before the slide
  have hm4 : ∃ m4 : gMem, m4 = mp m3 1 9 (m3 1 9 + m3 1 7) := ⟨_, rfl⟩
  obtain ⟨m4, em4⟩ := hm4
  have m4o : ∀ k, k ≠ 9 → m4 1 k = m3 1 k := fun k hk => by rw [em4, mp_s, up_n hk]
  have m4i : ∀ i, i ≠ 1 → m4 i = m3 i := fun i hi => by rw [em4, mp_n hi]
  have m3f : ∀ k, k ≠ 2 → k ≠ 7 → k ≠ 10 → k < 6100 → ¬ (44 ≤ k ∧ k < 76) → ¬ (100 ≤ k ∧ k < 400) → (∀ h, h < 500 → k ≠ 1100 + 10 * h) → m3 1 k = s k := fun k k2 k7 k10 k6 k44 k100 kh => by
    rw [d1 k k10 k100 (by omega)]; exact m1o k k2 k7 k44 kh
  have m37 : m3 1 7 = nI (ndN s (zM s)) := by rw [d1 7 (by decide) (by omega) (by omega)]; exact m17
  have F4 : slF m4 s := by
    refine ⟨hp, ?_, fun h hh => ⟨?_, fun w hw => ?_⟩, fun h hh hl => ?_⟩
    · rw [m4o 16 (by decide), m3f 16 (by decide) (by decide) (by decide) (by decide) (by omega) (by omega) (by omega)]; exact a6
    · rw [m4o _ (by omega), d1 _ (by omega) (by omega) (by omega)]; exact (F2.2.2.2.1 h hh).1
    · rw [m4o _ (by omega), m3f _ (by omega) (by omega) (by omega) (by omega) (by omega) (by omega) (by omega)]
    · obtain ⟨k1, k2, k3, k4, k5, k6, k7, k8, k9, k10, k11⟩ := hp_cell hp hh hl
      rw [m4o _ (by omega), ← k7, ← k4]
      exact d6 h hh hl 0 (by omega) (by omega)
  obtain ⟨m5, M5, t1, t2, t3, t4, t5, t6, t7, t8, t9⟩ := slide_M (K := zK s) (n := ndN s (zM s)) F4 (by rw [m4o 8 (by decide), m3f 8 (by decide) (by decide) (by decide) (by decide) (by omega) (by omega) (by omega)]; exact s8) (by rw [m4o 6 (by decide), m3f 6 (by decide) (by decide) (by decide) (by decide) (by omega) (by omega) (by omega)]; exact hK4) (by rw [m4o 7 (by decide)]; exact m37) (by omega)
  -- the class slides and writes
  have c3o : ∀ i, i ≠ 3 → i ≠ 12 → i ≠ 13 → i ≠ 64 → c3 i = c2 i := d3
  have w3 : ∀ k, k < zU s → c3 3 k = m4 1 (6100 + k) := fun k hk => by rw [m4o _ (by omega)]; exact d51 k hk
  have hcell3 : ∀ h, h < zM s → kpB s h = true → c3 3 (aPs s h) = nI (8 * h + aKd s h) ∧ (aMany (aKd s h) → c3 3 (aPs s h + 1) = nI (aMn s h)) := by
    intro h hh k
    obtain ⟨k1, k2, k3, k4, k5, k6, k7, k8, k9, k10, k11⟩ := hp_cell hp hh (kpB_t.mp k).1
    rw [← k4]
    refine ⟨?_, fun q => ?_⟩
    · rw [d51 _ (by omega), ← k7]; exact d6 h hh (kpB_t.mp k).1 0 (by omega) (by omega)
    · rw [d51 _ (by omega), ← k8 q]; exact d6 h hh (kpB_t.mp k).1 1 (by omega) (by omega)
  have c34 : ∀ h, h < zM s → c3 4 h = (if kpB s h then nI (aPs s h) else -1) := by
    intro h hh
    rw [c3o 4 (by decide) (by decide) (by decide) (by decide), (F2.2.2.2.1 h hh).2.1]
    by_cases k : kpB s h = true
    · rw [if_pos k, if_pos k, (hp_cell hp hh (kpB_t.mp k).1).2.2.2.1]
    · rw [if_neg k, if_neg k]
  have c32 : ∀ k, k ≠ 3 → c3 2 k = c 2 k := fun k hk => by rw [c3o 2 (by decide) (by decide) (by decide) (by decide), g4 k hk, c0o 2 (by decide) (by decide)]
  have c323 : c3 2 3 = nI (zK s) := by rw [c3o 2 (by decide) (by decide) (by decide) (by decide), g5, m12, hcK]
  have G3 : slG c3 s := ⟨hp, by rw [c3o 2 (by decide) (by decide) (by decide) (by decide)]; exact F2.2.1, c34, hcell3⟩
  obtain ⟨c5, X5, u1, u2, u3, u4, u5, u6, u7, u8, u9, u10⟩ := slide_X G3 (by rw [c32 1 (by decide), r1.2.1, ← so 16 (by omega)]; exact a6)
  have c2s : ∀ i, i ≠ 2 → i ≠ 3 → i ≠ 4 → i ≠ 5 → i ≠ 12 → i ≠ 13 → i ≠ 21 → i ≠ 64 → i ≠ 65 → i ≠ 66 → c5 i = c i := fun i i2 i3 i4 i5 i12 i13 i21 i64 i65 i66 => by
    rw [u1 i i2 i3 i4 i5 i12 i64, c3o i i3 i12 i13 i64, g3 i i2 i4 i12 i21 i64 i65 i66, c0o i i12 i65]
  have hps := psK_le (s := s) (zM s)
  have c53 : ∀ h, h < zM s → kpB s h = true → ∀ i, i < aSz s h → c5 3 (psK s h + i) = c3 3 (aPs s h + i) := by
    intro h hh k i hi
    have q1 := psK_mono (s := s) (show h + 1 ≤ zM s by omega)
    rw [psK_s k] at q1
    rw [u4, if_neg (by omega)]; exact wd_cell k hi _ hh
  have hrow : ∀ h, h < zM s → kpB s h = true → c5 9 h = s (1106 + 10 * h) ∧ c5 10 h = s (1107 + 10 * h) ∧ c5 11 h = s (1108 + 10 * h) ∧ c5 8 h = s (1105 + 10 * h) := by
    intro h hh k
    obtain ⟨q, hq, eq⟩ := Lst_mem.mp ((kp_mem a5' hmk hh).mp k)
    have hq0 : q < zK s0 := by rw [← f.k]; exact hq
    have eq0 : aOd s0 q = h := by rw [← f.od (show q < 500 by omega)]; exact eq
    obtain ⟨o1, o2, o3, o4⟩ := r5 q hq0
    rw [eq0] at o2 o3 o4
    have hh0 : h < zM s0 := by rw [← e.1.m]; exact hh
    rw [c2s 9 (by decide) (by decide) (by decide) (by decide) (by decide) (by decide) (by decide) (by decide) (by decide) (by decide), c2s 10 (by decide) (by decide) (by decide) (by decide) (by decide) (by decide) (by decide) (by decide) (by decide) (by decide), c2s 11 (by decide) (by decide) (by decide) (by decide) (by decide) (by decide) (by decide) (by decide) (by decide) (by decide), c2s 8 (by decide) (by decide) (by decide) (by decide) (by decide) (by decide) (by decide) (by decide) (by decide) (by decide)]
    exact ⟨by rw [so _ (by omega)]; exact o2, by rw [so _ (by omega)]; exact o3, by rw [so _ (by omega)]; exact o4, by rw [so _ (by omega)]; exact r6.1 h hh0⟩
  obtain ⟨c6, X6, v1, v2⟩ := paper_X (c := c5) (K := zK s) (n := ndN s (zM s)) (w := c3 3) hp (by omega) (by rw [u2 2 (by decide)]; exact G3.2.1) (by rw [u2 3 (by decide)]; exact c323) (by rw [u1 65 (by decide) (by decide) (by decide) (by decide) (by decide) (by decide), c3o 65 (by decide) (by decide) (by decide) (by decide)]; exact g11) u5 c53 (fun h hh k => ⟨(hcell3 h hh k).1, (hcell3 h hh k).2, hrow h hh k⟩)
  have c520 : ∀ r, r < 24 → c5 20 r = m4 1 (20 + r) := fun r hr => by
    rw [c2s 20 (by decide) (by decide) (by decide) (by decide) (by decide) (by decide) (by decide) (by decide) (by decide) (by decide), m4o _ (by omega), m3f _ (by omega) (by omega) (by omega) (by omega) (by omega) (by omega) (by omega), so _ (by omega)]; exact r10.1 r hr
  have c566 : ∀ q, q < ndN s (zM s) → c5 66 q = m4 5 q := fun q hq => by
    rw [u1 66 (by decide) (by decide) (by decide) (by decide) (by decide) (by decide), c3o 66 (by decide) (by decide) (by decide) (by decide), m4i 5 (by decide), d2 5 (by decide) (by decide)]; exact g12 q hq
  have hpap : papL s (c5 20) (c3 3) (c5 66) (zK s) (ndN s (zM s)) = papL s (fun r => m4 1 (20 + r)) (fun k => m4 1 (6100 + k)) (m4 5) (zK s) (ndN s (zM s)) := pap_cong hp c520 w3 c566
  rw [hpap] at v2
  have hlen := pap_len (f := fun r => m4 1 (20 + r)) (w := fun k => m4 1 (6100 + k)) (g := m4 5) (K := zK s) (n := ndN s (zM s)) hp (by omega)
  have hlenF : (papF (papL s (fun r => m4 1 (20 + r)) (fun k => m4 1 (6100 + k)) (m4 5) (zK s) (ndN s (zM s)))).length = (papL s (fun r => m4 1 (20 + r)) (fun k => m4 1 (6100 + k)) (m4 5) (zK s) (ndN s (zM s))).length + 1 := by unfold papF; rw [List.length_append]; rfl
  have hlen27 : 26 ≤ (papL s (fun r => m4 1 (20 + r)) (fun k => m4 1 (6100 + k)) (m4 5) (zK s) (ndN s (zM s))).length := by
    unfold papL; simp only [List.length_append, List.length_singleton, lkL_len]; omega
  generalize papF (papL s (fun r => m4 1 (20 + r)) (fun k => m4 1 (6100 + k)) (m4 5) (zK s) (ndN s (zM s))) = PF at *
  -- marks are taken away
  have hod : ∀ q, q < zK s → m5 1 (600 + q) = nI (aOd s q) := fun q hq => by
    rw [t1 _ (by omega) (by omega) (by omega) (by omega) (by omega), m4o _ (by omega), m3f _ (by omega) (by omega) (by omega) (by omega) (by omega) (by omega) (by omega)]; exact (hmk.2.1 q hq).1
  have m54 : m5 1 4 = nI (zK s) := by
    rw [t1 4 (by decide) (by decide) (by decide) (by decide) (by omega), m4o _ (by omega), m3f 4 (by decide) (by decide) (by decide) (by decide) (by omega) (by omega) (by omega)]; exact hmk.1.2.1
  obtain ⟨m6, M6, q1, q2, q3⟩ := e_unmark (K := zK s) (od := aOd s) (by omega) (fun q hq => by have := (hmk.2.1 q hq).2.1; omega) (zK s) 0 m5 (by omega) m54 hod
  have hodlt : ∀ q, q < zK s → aOd s q < 500 := fun q hq => by have := (hmk.2.1 q hq).2.1; omega
  have hm7 : ∃ m7 : gMem, m7 = mp (mp (mp m6 1 4 0) 1 17 0) 1 3 0 := ⟨_, rfl⟩
  obtain ⟨m7, em7⟩ := hm7
  have m7o : ∀ k, k ≠ 3 → k ≠ 4 → k ≠ 17 → m7 1 k = m6 1 k := fun k k3 k4 k17 => by rw [em7, mp_s, up_n k3, mp_s, up_n k17, mp_s, up_n k4]
  have m7i : ∀ i, i ≠ 1 → m7 i = m6 i := fun i hi => by rw [em7, mp_n hi, mp_n hi, mp_n hi]
  have m7a : ∀ k, k ≠ 3 → k ≠ 4 → k ≠ 17 → (∀ h, h < 500 → k ≠ 1105 + 10 * h) → m7 1 k = m5 1 k := fun k k3 k4 k17 kh => by
    rw [m7o k k3 k4 k17, q1 k (fun q _ hq => kh _ (hodlt q hq))]
  have m7b : ∀ k, k ≠ 3 → k ≠ 4 → k ≠ 17 → k ≠ 8 → k ≠ 15 → k ≠ 16 → k ≠ 9 → k < 6100 → (∀ h, h < 500 → k ≠ 1105 + 10 * h ∧ k ≠ 1102 + 10 * h ∧ k ≠ 1104 + 10 * h) → m7 1 k = m3 1 k := fun k k3 k4 k17 k8 k15 k16 k9 k6 kh => by
    rw [m7a k k3 k4 k17 (fun h hh => (kh h hh).1), t1 k k8 k15 k16 k6 (fun h hh => (kh h hh).2), m4o k k9]
  have m7c : ∀ k, k ≠ 3 → k ≠ 4 → k ≠ 17 → k ≠ 8 → k ≠ 15 → k ≠ 16 → k ≠ 9 → k ≠ 2 → k ≠ 7 → k ≠ 10 → k < 6100 → ¬ (44 ≤ k ∧ k < 76) → ¬ (100 ≤ k ∧ k < 400) → (∀ h, h < 500 → k ≠ 1105 + 10 * h ∧ k ≠ 1102 + 10 * h ∧ k ≠ 1104 + 10 * h ∧ k ≠ 1100 + 10 * h) → m7 1 k = s k := fun k k3 k4 k17 k8 k15 k16 k9 k2 k7 k10 k6 k44 k100 kh => by
    rw [m7b k k3 k4 k17 k8 k15 k16 k9 k6 (fun h hh => ⟨(kh h hh).1, (kh h hh).2.1, (kh h hh).2.2.1⟩), m3f k k2 k7 k10 k6 k44 k100 (fun h hh => (kh h hh).2.2.2)]
  have e3 : m7 1 3 = 0 := by rw [em7, mp_s, up_s]
  have e17 : m7 1 17 = 0 := by rw [em7, mp_s, up_n (by decide), mp_s, up_s]
  have e4 : m7 1 4 = 0 := by rw [em7, mp_s, up_n (by decide), mp_s, up_n (by decide), mp_s, up_s]
  have e2 : m7 1 2 = nI (ckN s (zM s)) := by rw [m7b 2 (by decide) (by decide) (by decide) (by decide) (by decide) (by decide) (by decide) (by decide) (by omega), d1 2 (by decide) (by omega) (by omega)]; exact m12
  have e16 : m7 1 16 = nI (psK s (zM s)) := by rw [m7a 16 (by decide) (by decide) (by decide) (by omega)]; exact t8
  have emk : ∀ h, h < zM s → m7 1 (1105 + 10 * h) = 0 := by
    intro h hh
    rw [m7o _ (by omega) (by omega) (by omega)]
    rcases hmk.2.2 h hh with q | ⟨k, hk, ek⟩
    · by_cases z : ∃ k, k < zK s ∧ aOd s k = h
      · obtain ⟨k, hk, ek⟩ := z
        rw [← ek]; exact q2 k (by omega) hk
      · rw [q1 _ (fun k _ hk w => z ⟨k, hk, by omega⟩), t1 _ (by omega) (by omega) (by omega) (by omega) (by omega), m4o _ (by omega), m3f _ (by omega) (by omega) (by omega) (by omega) (by omega) (by omega) (by omega)]; exact q
    · rw [← ek]; exact q2 k (by omega) hk
  have ewd : ∀ k, k < 4000 → m7 1 (6100 + k) = if psK s (zM s) ≤ k ∧ k < zU s then 0 else wdS s (fun k => m4 1 (6100 + k)) (zM s) k := fun k hk => by
    rw [m7a _ (by omega) (by omega) (by omega) (by omega)]; exact t3 k hk
  have esh : ∀ q, q < 32 → m7 1 (44 + q) = m1 1 (44 + q) := fun q hq => by
    rw [m7b _ (by omega) (by omega) (by omega) (by omega) (by omega) (by omega) (by omega) (by omega) (by omega), d1 _ (by omega) (by omega) (by omega)]
  have e10 : m7 1 10 = nI z := by rw [m7b 10 (by decide) (by decide) (by decide) (by decide) (by decide) (by decide) (by decide) (by decide) (by omega)]; exact d43
  have zt7 : zT (m7 1) = z := nn_nI e10 (by omega)
  have hPF : pM PF m7 := ⟨by rw [m7a 15 (by decide) (by decide) (by decide) (by omega)]; exact t9.1, fun k hk => by rw [m7a _ (by omega) (by omega) (by omega) (by omega), m7a _ (by omega) (by omega) (by omega) (by omega)]; exact t9.2 k hk⟩
  have zr7 : zR (m7 1) = PF.length := nn_nI hPF.1 (by omega)
  have zu7 : zU (m7 1) = psK s (zM s) := nn_nI e16 (by omega)
  have zm7 : zM (m7 1) = zM s := nn_cong (m7c 1 (by decide) (by decide) (by decide) (by decide) (by decide) (by decide) (by decide) (by decide) (by decide) (by decide) (by decide) (by omega) (by omega) (by omega))
  have zk7 : zK (m7 1) = 0 := nn_nI (n := 0) e4 (by decide)
  have ecl : ∀ h, h < zM s → m7 1 (1100 + 10 * h) = (if kpB s h then 1 else 0) := fun h hh => by
    rw [m7b _ (by omega) (by omega) (by omega) (by omega) (by omega) (by omega) (by omega) (by omega) (by omega), d1 _ (by omega) (by omega) (by omega)]; exact (F2.2.2.2.1 h hh).1
  have hplace : ∀ h, h < zM s → kpB s h = true → m7 1 (1102 + 10 * h) = nI (psK s h) ∧ m7 1 (1104 + 10 * h) = nI (aPs s h) - nI (psK s h) := fun h hh k => by
    rw [m7a _ (by omega) (by omega) (by omega) (by omega), m7a _ (by omega) (by omega) (by omega) (by omega)]; exact t4 h hh k
  have SI : aSI (T + 500) (m7 1) := by
    refine end_SI (w := fun k => m4 1 (6100 + k)) hIs h3s hLs (fun k hk => m7c k (by omega) (by omega) (by omega) (by omega) (by omega) (by omega) (by omega) (by omega) (by omega) (by omega) (by omega) (by omega) (by omega) (by omega)) e2 e16 e3 e4 e17 (fun h hh => ⟨ecl h hh, fun k => ⟨m7c _ (by omega) (by omega) (by omega) (by omega) (by omega) (by omega) (by omega) (by omega) (by omega) (by omega) (by omega) (by omega) (by omega) (by omega), m7c _ (by omega) (by omega) (by omega) (by omega) (by omega) (by omega) (by omega) (by omega) (by omega) (by omega) (by omega) (by omega) (by omega) (by omega), (hplace h hh k).1⟩, emk h hh⟩) (fun h hh k i hi => ?_) (fun k k1 k2 => ?_) (fun h hh k i hi hw => ?_) (fun h hh k hw => ?_) (fun q hq => ?_) ⟨by rw [zt7]; exact e10, by omega⟩ ⟨by rw [zr7]; exact hPF.1, Or.inr (by omega), by omega⟩
    · have p1 := psK_mono (s := s) (show h + 1 ≤ zM s by omega)
      rw [psK_s k] at p1
      rw [ewd _ (by omega), if_neg (by omega)]; exact wd_cell k hi _ hh
    · rw [ewd k (by omega)]
      split
      · rfl
      · rw [wd_hi _ _ (by omega)]
        show m4 1 (6100 + k) = 0
        rw [m4o _ (by omega), (d52 k (by omega)).2, m1o _ (by omega) (by omega) (by omega) (by omega)]
        exact hp.2.2.1 k (by omega) k2
    · have k4 := (hp_cell hp hh (kpB_t.mp k).1).2.2.2.1
      show m4 1 (6100 + (aPs s h + i)) = _
      rw [m4o _ (by omega), ← k4]; exact d6 h hh (kpB_t.mp k).1 i hi hw
    · have k4 := (hp_cell hp hh (kpB_t.mp k).1).2.2.2.1
      show kpH s (m4 1 (6100 + (aPs s h + 2)))
      rw [m4o _ (by omega), ← k4]; exact (d7 h hh k hw).1 hh
    · rw [esh q hq, g1]
      obtain ⟨G1, G2⟩ := gvs_sh (s := s) (k := 44 + q) (by omega) (zM s)
      rcases hp.2.2.2.2.2.1 q hq with ee | ⟨t, ht, ee, hl⟩
      · rw [G2 (fun h hh hd => by rw [ee]; exact fun w => nI_m1 (by omega) w.symm)]; exact Or.inl ee
      · by_cases hd : ddB s t = true
        · exact Or.inl (G1 ⟨t, ht, hd, ee⟩)
        · refine Or.inr ⟨t, ht, ?_, ?_⟩
          · rw [G2 (fun h hh hd2 w => by
              have : h = t := nI_inj (by omega) (by omega) (w.symm.trans ee)
              subst this; exact hd hd2)]; exact ee
          · exact kpB_t.mpr ⟨hl, fun w => hd (ddB_t.mpr ⟨hl, w⟩)⟩
  -- the class wipes
  have hc7 : ∃ c7 : gMem, (∀ Q : gMem → Prop, Q c7 → wX3_wipe c6 Q) ∧ (∀ i, i ≠ 6 → i ≠ 8 → c7 i = c6 i) ∧ c7 6 0 = 0 ∧ c7 6 1 = 0 ∧ c7 6 2 = 0 ∧ c7 6 3 = 0 ∧ ∀ k, c7 8 k = 0 := by
    apply Exists.intro
    apply And.intro
    · intro Q hQ
      unfold wX3_wipe
      simp only [forall_eq]
      exact hQ
    · refine ⟨fun i h1 h2 => ?_, ?_, ?_, ?_, ?_, fun k => ?_⟩
      · rw [mr_n h2, mp_n h1, mp_n h1, mp_n h1, mp_n h1]
      · simp [mp_s, mp_n, mr_n, mr_s, up_s, up_n]
      · simp [mp_s, mp_n, mr_n, mr_s, up_s, up_n]
      · simp [mp_s, mp_n, mr_n, mr_s, up_s, up_n]
      · simp [mp_s, mp_n, mr_n, mr_s, up_s, up_n]
      · simp [mp_s, mp_n, mr_n, mr_s, up_s, up_n]
  obtain ⟨c7, X7, c7o, c60, c61, c62, c63, c8⟩ := hc7
  have c75 : ∀ i, i ≠ 6 → i ≠ 8 → i ≠ 14 → i ≠ 15 → i ≠ 16 → c7 i = c5 i := fun i i6 i8 i14 i15 i16 => by rw [c7o i i6 i8, v1 i i14 i15 i16]
  have c7c : ∀ i, i ≠ 2 → i ≠ 3 → i ≠ 4 → i ≠ 5 → i ≠ 12 → i ≠ 13 → i ≠ 21 → i ≠ 64 → i ≠ 65 → i ≠ 66 → i ≠ 6 → i ≠ 8 → i ≠ 14 → i ≠ 15 → i ≠ 16 → c7 i = c i := fun i i2 i3 i4 i5 i12 i13 i21 i64 i65 i66 i6 i8 i14 i15 i16 => by rw [c75 i i6 i8 i14 i15 i16, c2s i i2 i3 i4 i5 i12 i13 i21 i64 i65 i66]
  have SR : aSR 1 c7 (m7 1) := by
    refine ⟨⟨?_, ?_, ?_, ?_⟩, ⟨fun k hk => ?_, fun k k1 k2 => ?_⟩, fun h hh => ⟨fun hl => ?_, fun hl => ?_⟩, ⟨?_, ?_, ?_, ?_⟩, fun k hk => by omega, ⟨fun h hh => ?_, fun h _ _ => c8 h⟩, ⟨fun k hk => ?_, fun k k1 k2 => ?_⟩, ⟨?_, fun k hk => ?_⟩, ⟨fun k hk => ?_, fun k hk => ?_, fun r hr => ?_⟩, fun r hr => ?_, fun q hq => ?_⟩
    · rw [c75 2 (by decide) (by decide) (by decide) (by decide) (by decide), u2 0 (by decide), c32 0 (by decide), m7c 0 (by decide) (by decide) (by decide) (by decide) (by decide) (by decide) (by decide) (by decide) (by decide) (by decide) (by decide) (by omega) (by omega) (by omega), so 0 (by omega)]; exact r1.1
    · rw [c75 2 (by decide) (by decide) (by decide) (by decide) (by decide), u3, e16]
    · rw [c75 2 (by decide) (by decide) (by decide) (by decide) (by decide), u2 2 (by decide), c32 2 (by decide), m7c 1 (by decide) (by decide) (by decide) (by decide) (by decide) (by decide) (by decide) (by decide) (by decide) (by decide) (by decide) (by omega) (by omega) (by omega), so 1 (by omega)]; exact r1.2.2.1
    · rw [c75 2 (by decide) (by decide) (by decide) (by decide) (by decide), u2 3 (by decide), c323, e2, hcK]
    · rw [zu7] at hk
      rw [c75 3 (by decide) (by decide) (by decide) (by decide) (by decide), u4, if_neg (by omega), ewd k (by omega), if_neg (by omega)]
      exact wd_cong (U := zU s) (by omega) w3 _ (Nat.le_refl _) k (by omega)
    · rw [zu7] at k1
      rw [c75 3 (by decide) (by decide) (by decide) (by decide) (by decide), u4]
      split
      · rfl
      · rw [wd_hi _ _ (by omega), (d52 k (by omega)).1, g3 3 (by decide) (by decide) (by decide) (by decide) (by decide) (by decide) (by decide), c0o 3 (by decide) (by decide)]
        refine r2.2 k ?_ k2
        rw [← e.1.u]; omega
    · rw [zm7] at hh
      have k : kpB s h = true := by
        by_cases k : kpB s h = true
        · exact k
        · have := ecl h hh
          rw [if_neg k] at this
          exact absurd (hl.symm.trans this) (by decide)
      show c7 4 h = _ ∧ c7 5 h = _
      rw [c75 4 (by decide) (by decide) (by decide) (by decide) (by decide), c75 5 (by decide) (by decide) (by decide) (by decide) (by decide), u5 h hh, if_pos k, u6 h hh k, (hplace h hh k).1, (hplace h hh k).2]
      exact ⟨rfl, rfl⟩
    · rw [zm7] at hh
      have k : ¬ kpB s h = true := fun k => hl (by show m7 1 (1100 + 10 * h) = 1; rw [ecl h hh, if_pos k])
      show c7 4 h = _
      rw [c75 4 (by decide) (by decide) (by decide) (by decide) (by decide), u5 h hh, if_neg k]
    · exact c60.trans e3.symm
    · exact c61.trans e4.symm
    · exact c62.trans e17.symm
    · rw [if_neg (by omega)]; exact c63
    · rw [zm7] at hh; exact (c8 h).trans (emk h hh).symm
    · show c7 12 k = _
      rw [c75 12 (by decide) (by decide) (by decide) (by decide) (by decide)]
      rcases (by omega : k = 0 ∨ k = 1 ∨ k = 2 ∨ k = 3 ∨ k = 4 ∨ k = 5) with rfl | rfl | rfl | rfl | rfl | rfl
      · rw [u7 0 (by decide), d41 0 (by decide), g7]
        exact (m7c 5 (by decide) (by decide) (by decide) (by decide) (by decide) (by decide) (by decide) (by decide) (by decide) (by decide) (by decide) (by omega) (by omega) (by omega)).symm
      · rw [u7 1 (by decide), d41 1 (by decide), g8, g5, m12, hcK, ← hK4]
        exact (m7c 6 (by decide) (by decide) (by decide) (by decide) (by decide) (by decide) (by decide) (by decide) (by decide) (by decide) (by decide) (by omega) (by omega) (by omega)).symm
      · rw [u7 2 (by decide), d41 2 (by decide), g9, ← m37]
        exact (m7b 7 (by decide) (by decide) (by decide) (by decide) (by decide) (by decide) (by decide) (by decide) (by omega)).symm
      · rw [u8, ← t5]
        exact (m7a 8 (by decide) (by decide) (by decide) (by omega)).symm
      · rw [u7 4 (by decide), d41 4 (by decide), g10]
        have : m7 1 9 = m4 1 9 := by rw [m7a 9 (by decide) (by decide) (by decide) (by omega), t1 9 (by decide) (by decide) (by decide) (by decide) (by omega)]
        show _ = m7 1 9
        rw [this, em4, mp_s, up_s, m37, m3f 9 (by decide) (by decide) (by decide) (by decide) (by omega) (by omega) (by omega)]
      · rw [u7 5 (by decide), d42]
        exact (m7b 10 (by decide) (by decide) (by decide) (by decide) (by decide) (by decide) (by decide) (by decide) (by omega)).symm
    · rw [zt7] at k2
      show c7 13 k = _
      rw [c75 13 (by decide) (by decide) (by decide) (by decide) (by decide), u1 13 (by decide) (by decide) (by decide) (by decide) (by decide) (by decide), d45 k k1 k2]
      exact (m7b _ (by omega) (by omega) (by omega) (by omega) (by omega) (by omega) (by omega) (by omega) (by omega)).symm
    · show c7 14 0 = _
      rw [c7o 14 (by decide) (by decide), v2.1, hPF.1]
    · rw [zr7] at hk
      show c7 15 k = _ ∧ c7 16 k = _
      rw [c7o 15 (by decide) (by decide), c7o 16 (by decide) (by decide), (v2.2 k hk).1, (v2.2 k hk).2, (hPF.2 k hk).1, (hPF.2 k hk).2]
      exact ⟨rfl, rfl⟩
    · show c7 17 k = _
      rw [c7c 17 (by decide) (by decide) (by decide) (by decide) (by decide) (by decide) (by decide) (by decide) (by decide) (by decide) (by decide) (by decide) (by decide) (by decide) (by decide), m7c _ (by omega) (by omega) (by omega) (by omega) (by omega) (by omega) (by omega) (by omega) (by omega) (by omega) (by omega) (by omega) (by omega) (by omega), so _ (by omega)]; exact r9.1 k hk
    · have hn11 : nn (m7 1) 11 = nn s0 11 := nn_cong (by rw [m7c 11 (by decide) (by decide) (by decide) (by decide) (by decide) (by decide) (by decide) (by decide) (by decide) (by decide) (by decide) (by omega) (by omega) (by omega), so 11 (by omega)])
      rw [hn11] at hk
      have hk200 : nn s0 11 ≤ 40 := by
        obtain ⟨n, j, i1, i2, -⟩ := ig0
        rw [nn_nI i1 (by omega)]; exact i2
      show c7 18 k = _
      rw [c7c 18 (by decide) (by decide) (by decide) (by decide) (by decide) (by decide) (by decide) (by decide) (by decide) (by decide) (by decide) (by decide) (by decide) (by decide) (by decide), m7c _ (by omega) (by omega) (by omega) (by omega) (by omega) (by omega) (by omega) (by omega) (by omega) (by omega) (by omega) (by omega) (by omega) (by omega), so _ (by omega)]; exact r9.2.1 k hk
    · show c7 19 r = _
      rw [c7c 19 (by decide) (by decide) (by decide) (by decide) (by decide) (by decide) (by decide) (by decide) (by decide) (by decide) (by decide) (by decide) (by decide) (by decide) (by decide), m7c _ (by omega) (by omega) (by omega) (by omega) (by omega) (by omega) (by omega) (by omega) (by omega) (by omega) (by omega) (by omega) (by omega) (by omega), so _ (by omega)]; exact r9.2.2 r hr
    · show c7 20 r = _
      rw [c7c 20 (by decide) (by decide) (by decide) (by decide) (by decide) (by decide) (by decide) (by decide) (by decide) (by decide) (by decide) (by decide) (by decide) (by decide) (by decide), m7c _ (by omega) (by omega) (by omega) (by omega) (by omega) (by omega) (by omega) (by omega) (by omega) (by omega) (by omega) (by omega) (by omega) (by omega), so _ (by omega)]; exact r10.1 r hr
    · show c7 21 q = _
      rw [c75 21 (by decide) (by decide) (by decide) (by decide) (by decide), u1 21 (by decide) (by decide) (by decide) (by decide) (by decide) (by decide), c3o 21 (by decide) (by decide) (by decide) (by decide), g6 q hq, esh q hq]
  refine ⟨c7, m7, fun Q hQ => ?_, fun Q hQ => ?_, SR, SI, fun b hb => ?_, ?_, ?_, e3, fun i i1 i4 i5 => ?_, fun i hi => ?_, ?_, fun j hj => ?_, fun h hh k => ?_, fun r hr => ?_⟩
  · unfold wX7_end wX7_giveBackUnmarked
    simp only [forall_eq]
    rw [← ec0]
    exact X2 _ (X3 _ (X5 _ (X6 _ (X7 _ hQ))))
  · unfold wX10_end
    simp only [forall_eq, mp_s, up_n (show (4 : Nat) ≠ 5 by decide)]
    rw [hem]
    refine M1 _ (M3 _ ?_)
    rw [← em4]
    refine M5 _ (M6 _ (fun P hP => hP _ _ ?_))
    unfold wX10_end_p72_b
    have : m6 1 4 = nI (zK s) := by rw [q1 4 (fun q _ hq => by have := hodlt q hq; omega)]; exact m54
    simp only [forall_eq, this, Int32.le_refl, true_implies, not_true_eq_false, false_implies, and_true]
    rw [← em7]; exact hQ
  · rw [c75 64 (by decide) (by decide) (by decide) (by decide) (by decide), m7i 4 (by decide), q3 4 (by decide)]
    by_cases hb13 : b = 13
    · subst hb13; rw [u10, t7, m4i 4 (by decide), d46 13 (by decide)]
    · rw [u9 b hb13, t6 b hb13, m4i 4 (by decide)]; exact d46 b hb
  · rw [← es0, m7c 0 (by decide) (by decide) (by decide) (by decide) (by decide) (by decide) (by decide) (by decide) (by decide) (by decide) (by decide) (by omega) (by omega) (by omega), so 0 (by omega)]
  · rw [← es0, m7c 1 (by decide) (by decide) (by decide) (by decide) (by decide) (by decide) (by decide) (by decide) (by decide) (by decide) (by decide) (by omega) (by omega) (by omega), so 1 (by omega)]
  · rw [m7i i i1, q3 i i1, t2 i i1 i4, m4i i i1, d2 i i1 i4, g2 i i1 i4 i5, mr_n i1]
  · exact c7c i (by omega) (by omega) (by omega) (by omega) (by omega) (by omega) (by omega) (by omega) (by omega) (by omega) (by omega) (by omega) (by omega) (by omega) (by omega)
  · rw [zu7, ps_L a5' hmk, ← es0]
    have hLst : Lst s = Lst s0 := by
      unfold Lst
      rw [f.k]
      refine List.map_congr_left (fun k hk => f.od ?_)
      have := List.mem_range.mp hk
      rw [f.k] at hKM; omega
    have hmap : (Lst s0).map (aSz s) = (Lst s0).map (aSz s0) := List.map_congr_left (fun h hh => e.1.sz (Nat.lt_of_lt_of_le (Lst_lt hmk0.2.1 h hh) a5))
    rw [hLst, hmap]
  · rw [← es0, m7c j (by omega) (by omega) (by omega) (by omega) (by omega) (by omega) (by omega) (by omega) (by omega) (by omega) (by omega) (by omega) (by omega) (by omega), so j (by omega)]
  · rw [← es0] at hh k
    have hk : kpB s h = true := by
      unfold kpB at k ⊢
      rw [so _ (by omega), so _ (by omega)]; exact k
    have hhs : h < zM s := by rw [e.1.m]; exact hh
    obtain ⟨k1, k2, k3, k4, k5, k6, k7, k8, k9, k10, k11⟩ := hp_cell hp hhs (kpB_t.mp hk).1
    have w1 : aKd (m7 1) h = aKd s0 h := nn_cong (by rw [m7c _ (by omega) (by omega) (by omega) (by omega) (by omega) (by omega) (by omega) (by omega) (by omega) (by omega) (by omega) (by omega) (by omega) (by omega), so _ (by omega)])
    have w2 : aMn (m7 1) h = aMn s0 h := nn_cong (by rw [m7c _ (by omega) (by omega) (by omega) (by omega) (by omega) (by omega) (by omega) (by omega) (by omega) (by omega) (by omega) (by omega) (by omega) (by omega), so _ (by omega)])
    have p1 := psK_mono (s := s) (show h + 1 ≤ zM s by omega)
    rw [psK_s hk] at p1
    have w3' : aPl (m7 1) h = psK s h := nn_nI (hplace h hhs hk).1 (by omega)
    have e1 : aKd s h = aKd s0 h := e.1.kd (by omega)
    have e2' : aMn s h = aMn s0 h := e.1.mn (by omega)
    rw [← es0]
    refine ⟨?_, by unfold aSz; rw [w1, w2], by unfold aLk; rw [w1, w2], fun i hi => ?_⟩
    · show m7 1 (1100 + 10 * h) = 1
      rw [ecl h hhs, if_pos hk]
    · have hi' : i < lkN (aKd s h) (aMn s h) := by rw [e1, e2']; exact hi
      have hge := (szN_ge (n := aMn s h) k2).1
      have hsz : aSz s h = szN (aKd s h) (aMn s h) := rfl
      have hwk : ¬ ((aKd s h = 3 ∨ aKd s h = 4) ∧ loN (aKd s h) + i = 2) := by
        rintro ⟨z1 | z1, z2⟩
        · rw [z1] at hi' z2
          have : lkN 3 (aMn s h) = 1 := rfl
          have : loN 3 = 1 := rfl
          omega
        · rw [z1] at hi' z2
          have : lkN 4 (aMn s h) = 1 := rfl
          have : loN 4 = 1 := rfl
          omega
      unfold aLn aLo
      rw [w1, w3', ← e1, show 6100 + psK s h + loN (aKd s h) + i = 6100 + (psK s h + (loN (aKd s h) + i)) by omega, ewd _ (by omega), if_neg (by omega), wd_cell hk (by omega) _ hhs, m4o _ (by omega), ← k4, d6 h hhs (kpB_t.mp hk).1 _ (by omega) hwk, so _ (by omega), show aPl s h = aPl s0 h from e.1.pl (by omega), show 6100 + (aPl s0 h + (loN (aKd s h) + i)) = 6100 + aPl s0 h + loN (aKd s h) + i by omega]
  · rw [← es0, m7c _ (by omega) (by omega) (by omega) (by omega) (by omega) (by omega) (by omega) (by omega) (by omega) (by omega) (by omega) (by omega) (by omega) (by omega), so _ (by omega)]
end E4

/-! lookThrough, begin -/
def glL (s : gS) (l : List Nat) : Prop := ∀ h ∈ l, h < zM s ∧ aLv s h
theorem gl_visit {s : gS} {l : List Nat} {x : Int32} (hM : zM s ≤ 500) (hl : glL s l) (hx : aHv s x) : glL s (visit l x) := by
  unfold visit
  rcases hx with rfl | ⟨t, ht, rfl, hlv⟩
  · rw [if_pos rfl]; exact hl
  · rw [if_neg (nI_m1 (by omega)), nI_clamp (by omega)]
    split
    · exact hl
    · intro h hh
      rcases List.mem_append.mp hh with q | q
      · exact hl h q
      · rw [List.mem_singleton.mp q]; exact ⟨ht, hlv⟩
theorem gl_bstep {s : gS} {q : List Nat × Nat × Nat} (hp : aHp s) (hl : glL s q.1) : glL s (bstep s q).1 := by
  unfold bstep
  cases hq : q.1[q.2.1]? with
  | none => exact hl
  | some h =>
    have hm := hl h (List.mem_of_getElem? hq)
    simp only
    by_cases hi : q.2.2 < aLk s h
    · rw [if_pos hi]
      exact gl_visit hp.1.2.2.2.2.1 hl ((hp.2.2.2.1 h hm.1 hm.2).1 _ hi)
    · rw [if_neg hi]; exact hl
theorem bstep_cong {s s' : gS} {q : List Nat × Nat × Nat} (hp : aHp s) (e : hpE s s') (hl : glL s q.1) : bstep s' q = bstep s q := by
  unfold bstep
  cases hq : q.1[q.2.1]? with
  | none => rfl
  | some h =>
    have hm := hl h (List.mem_of_getElem? hq)
    have h5 : h < 500 := by have := hp.1.2.2.2.2.1; omega
    simp only
    rw [e.1.lk h5]
    by_cases hi : q.2.2 < aLk s h
    · rw [if_pos hi, if_pos hi, e.ln hp.1 hp.2.1 hm.1 hm.2 hi]
    · rw [if_neg hi, if_neg hi]
theorem bit_cong {s s' : gS} (hp : aHp s) (e : hpE s s') : ∀ (n : Nat) (q : List Nat × Nat × Nat), glL s q.1 → bit s' n q = bit s n q := by
  intro n
  induction n with
  | zero => intro q _; rfl
  | succ n ih =>
    intro q hl
    show bit s' n (bstep s' q) = bit s n (bstep s q)
    rw [bstep_cong hp e hl, ih _ (gl_bstep hp hl)]
theorem gl_bit {s : gS} (hp : aHp s) : ∀ (n : Nat) (q : List Nat × Nat × Nat), glL s q.1 → glL s (bit s n q).1 := by
  intro n
  induction n with
  | zero => intro q hl; exact hl
  | succ n ih => intro q hl; exact ih _ (gl_bstep hp hl)
theorem gl_Lst {s : gS} (hO : iO s) : glL s (Lst s) := by
  intro h hh
  obtain ⟨k, hk, rfl⟩ := Lst_mem.mp hh
  exact ⟨(hO k hk).2.1, (hO k hk).2.2.1⟩
section L3
variable {T : Nat}
theorem look_loop {most : Nat} (hmost : most < 2 ^ 31) : ∀ (d n : Nat) (c : gMem) (s : gS), n + d = most → aSR 1 c s → aSI T s → s 3 = 1 → n ≤ sth s → ∃ r c' s' k, Di (wX7_lookThrough_p2 (nI most) (nI n) c) (nI r) c' ∧ (∀ m, Di (wX10_lookThrough_p2 (nI most) (nI n) (mr m 1 s)) (nI r) (mr m 1 s')) ∧ aSR 1 c' s' ∧ aSI T s' ∧ s' 3 = 1 ∧ hpE s s' ∧ (∀ i, i < 6 ∨ 11 < i → c' i = c i) ∧ bst s' = bit s k (bst s) ∧ r ≤ most ∧ r ≤ sth s' ∧ (r < most → zL s' = zK s') := by
  intro d
  induction d with
  | zero =>
    intro n c s hd hr hI h3 hn
    refine ⟨n, c, s, 0, fun Q hQ P hP => ?_, fun m Q hQ P hP => ?_, hr, hI, h3, hpE.rf, fun _ _ => rfl, rfl, by omega, hn, fun q => by omega⟩
    · refine hP _ _ _ ?_
      unfold wX7_lookThrough_p2_b
      simp only [show n = most by omega, Int32.le_refl, true_implies, not_true_eq_false, false_implies, and_true]
      rw [show n = most by omega] at hQ; exact hQ
    · refine hP _ _ _ ?_
      unfold wX10_lookThrough_p2_b
      simp only [show n = most by omega, Int32.le_refl, true_implies, not_true_eq_false, false_implies, and_true]
      rw [show n = most by omega] at hQ; exact hQ
  | succ d ih =>
    intro n c s hd hr hI h3 hn
    have hge : ¬ nI most ≤ nI n := nI_ge (by omega) hmost
    obtain ⟨r, c1, L', k1, X1, M1, R1, I1, E1, F1, b1, st1, hfin⟩ := sim_isLeft (T := T) _ c s rfl hr hI
    have h31 : upd s 17 (nI L') 3 = 1 := by rw [up_n (by decide)]; exact h3
    generalize upd s 17 (nI L') = s1 at *
    rcases hfin with ⟨rfl, hL, hth⟩ | ⟨rfl, hL⟩
    · obtain ⟨c2, s2, X2, M2, R2, I2, h32, E2, F2, b2, st2⟩ := look_one R1 I1 h31 hL hth
      obtain ⟨r, c3, s3, k3, X3, M3, R3, I3, h33, E3, F3, b3, q1, q2, q3⟩ := ih (n + 1) c2 s2 (by omega) R2 I2 h32 (by omega)
      obtain ⟨im, io, iu⟩ := I1.1.2.1
      have a5 := I1.1.1.1.2.2.2.2.1
      obtain ⟨O1, O2, O3, O4, O5, O6, O7, O8⟩ := io _ hL
      have c2_ : c1 6 2 = nI (zL s1) := by rw [← im.2.2.2.1]; exact R1.2.2.2.1.2.2.1
      have c3_ : c1 6 3 = nI (aTh s1 (aOd s1 (zL s1))) := by
        have := R1.2.2.2.1.2.2.2
        rw [if_pos hL, O5] at this; exact this
      have c7_ : c1 7 (zL s1) = nI (aOd s1 (zL s1)) := by rw [← O1]; exact (R1.2.2.2.2.1 _ hL).1
      have hK := im.2.2.1
      refine ⟨r, c3, s3, k1 + (1 + k3), fun Q hQ P hP => ?_, fun m Q hQ P hP => ?_, R3, I3, h33, (E1.tr E2).tr E3, fun i hi => by rw [F3 i hi, F2 i hi, F1 i (by omega)], ?_, q1, q2, q3⟩
      · refine hP _ _ _ ?_
        unfold wX7_lookThrough_p2_b
        simp only [hge, true_implies, not_false_eq_true, false_implies, true_and]
        refine X1 _ ?_
        simp only [i32_10, true_implies, not_false_eq_true, false_implies, true_and, forall_eq, c2_, c3_]
        rw [nI_clamp (by omega)]
        refine ⟨vp_in_nI (by omega) (by decide), ?_⟩
        rw [c7_]
        have := X2 (fun c15 => P (nI most) (nI n + 1) c15) (by rw [nI_1]; exact X3 Q hQ P hP)
        simp only [forall_eq] at this
        exact this
      · refine hP _ _ _ ?_
        unfold wX10_lookThrough_p2_b
        simp only [hge, true_implies, not_false_eq_true, false_implies, true_and]
        refine M1 m _ ?_
        simp only [true_implies, not_true_eq_false, false_implies, and_true, forall_eq, mr_s, im.2.2.2.1]
        rw [show (600 : Int32) + nI (zL s1) = nI (600 + zL s1) from nI_add 600 _, nI_clamp (by omega)]
        refine ⟨vp_in_nI (by omega) (by decide), ?_⟩
        rw [O1]
        have := M2 m (fun c15 => P (nI most) (nI n + 1) c15) (by rw [nI_1]; exact M3 m Q hQ P hP)
        simp only [forall_eq] at this
        exact this
      · have hg := gl_Lst (s := s) hI.1.2.1.2.1
        have hg1 : glL s (bst s1).1 := by rw [b1]; exact gl_bit hI.1.1 k1 _ hg
        have hb2 : bstep s1 (bst s1) = bstep s (bst s1) := bstep_cong hI.1.1 E1 hg1
        have hg2 : glL s (bst s2).1 := by rw [b2, hb2]; exact gl_bstep hI.1.1 hg1
        rw [b3, bit_cong hI.1.1 (E1.tr E2) k3 _ hg2, b2, hb2, b1, bit_add, bit_add]
        rfl
    · refine ⟨n, c1, s1, k1, fun Q hQ P hP => ?_, fun m Q hQ P hP => ?_, R1, I1, h31, E1, fun i hi => F1 i (by omega), b1, by omega, by rw [st1]; exact hn, fun _ => hL⟩
      · refine hP _ _ _ ?_
        unfold wX7_lookThrough_p2_b
        simp only [hge, true_implies, not_false_eq_true, false_implies, true_and]
        refine X1 _ ?_
        simp only [true_implies, not_true_eq_false, false_implies, and_true]; exact hQ
      · refine hP _ _ _ ?_
        unfold wX10_lookThrough_p2_b
        simp only [hge, true_implies, not_false_eq_true, false_implies, true_and]
        refine M1 m _ ?_
        simp only [i32_01, true_implies, not_false_eq_true, false_implies, true_and]; exact hQ
/-- the roots from r on are marked -/
def rtV (s : gS) : Nat → Nat → List Nat → List Nat
  | _, 0, l => l
  | r, d + 1, l => rtV s (r + 1) d (visit l (s (20 + r)))
theorem begin_loop : ∀ (d r : Nat) (c : gMem) (s : gS), r + d = 24 → aSR 1 c s → aS0 T s → s 3 = 1 → zL s = 0 → (∀ k, k < zK s → ∀ i, i < aTh s (aOd s k) → aMk s (aLn s (aOd s k) i)) → (∀ q, q < r → aMk s (s (20 + q))) → (zK s = 0 ∨ aTh s (aOd s 0) = 0) → ∃ c' s', Dv (wX7_begin_p17 (nI r) c) c' ∧ (∀ m, Dv (wX10_begin_p24 (nI r) (mr m 1 s)) (mr m 1 s')) ∧ aSR 1 c' s' ∧ aSI T s' ∧ s' 3 = 1 ∧ hpE s s' ∧ (∀ i, i < 6 ∨ 11 < i → c' i = c i) ∧ Lst s' = rtV s r d (Lst s) ∧ zL s' = 0 ∧ (zK s' = 0 ∨ aTh s' (aOd s' 0) = 0) := by
  intro d
  induction d with
  | zero =>
    intro r c s hd hr h0 h3 hl hL1 hq hz
    have hr24 : r = 24 := by omega
    subst hr24
    refine ⟨c, s, fun Q hQ P hP => ?_, fun m Q hQ P hP => ?_, hr, ⟨h0, hL1, fun _ q hq' => hq q hq'⟩, h3, hpE.rf, fun _ _ => rfl, rfl, hl, hz⟩
    · refine hP _ _ ?_
      unfold wX7_begin_p17_b
      simp only [show (24 : Int32) ≤ nI 24 by decide, true_implies, not_true_eq_false, false_implies, and_true]; exact hQ
    · refine hP _ _ ?_
      unfold wX10_begin_p24_b
      simp only [show (24 : Int32) ≤ nI 24 by decide, true_implies, not_true_eq_false, false_implies, and_true]; exact hQ
  | succ d ih =>
    intro r c s hd hr h0 h3 hl hL1 hq hz
    have hr24 : r < 24 := by omega
    have hv : aHv s (s (20 + r)) := h0.1.2.2.2.2.1 r hr24
    have hc : c 20 r = s (20 + r) := hr.2.2.2.2.2.2.2.2.2.1 r hr24
    obtain ⟨X1, M1, R1, S1, MS1, F1⟩ := sim_mark2 (w := 0) (a := nI r) (b := -1) hr h0 hv h3
    have hlst := mkF_list (w := 0) (a := nI r) (b := -1) h0.1 h0.2.1 hv
    have L11 := MS1.L1 h0 hL1
    generalize hs1 : mkF s (s (20 + r)) 0 (nI r) (-1) = s1 at *
    obtain ⟨E1, o1, zl1, zk1, od1, th1, mk1, mx1⟩ := id MS1
    have hz1 : zK s1 = 0 ∨ aTh s1 (aOd s1 0) = 0 := by
      by_cases h : 0 < zK s
      · right
        rw [(od1 0 h).1, (od1 0 h).2]
        exact hz.resolve_left (by omega)
      · by_cases h1 : zK s1 = 0
        · exact Or.inl h1
        · right; exact th1 0 (by omega) (by omega)
    obtain ⟨c2, s2, X2, M2, R2, I2, h32, E2, F2, b2, l2, z2⟩ := ih (r + 1) _ s1 (by omega) R1 S1 (by rw [o1 3 (by omega) (by omega) (by omega)]; exact h3) (by rw [zl1]; exact hl) L11 (fun q hq' => by
      rw [E1.2.1 _ (by omega) (by omega)]
      by_cases hqr : q = r
      · subst hqr; exact mx1
      · exact mk1 _ (hq q (by omega))) hz1
    refine ⟨c2, s2, fun Q hQ P hP => ?_, fun m Q hQ P hP => ?_, R2, I2, h32, E1.tr E2, fun i hi => by rw [F2 i hi, F1 i hi], ?_, l2, z2⟩
    · refine hP _ _ ?_
      unfold wX7_begin_p17_b
      rw [nI_clamp (by omega)]
      simp only [show ¬ (24 : Int32) ≤ nI r from nI_ge (b := 24) hr24 (by decide), vp_in_nI hr24 (show 24 < 2 ^ 31 by decide), forall_eq, hc, nI_1, true_implies, not_false_eq_true, false_implies, true_and]
      refine X1 _ ?_
      exact X2 Q hQ P hP
    · refine hP _ _ ?_
      unfold wX10_begin_p24_b
      rw [show (20 : Int32) + nI r = nI (20 + r) from nI_add 20 r, nI_clamp (by omega)]
      simp only [show ¬ (24 : Int32) ≤ nI r from nI_ge (b := 24) hr24 (by decide), vp_in_nI (show 20 + r < 26100 by omega) (show 26100 < 2 ^ 31 by decide), forall_eq, mr_s, nI_1, true_implies, not_false_eq_true, false_implies, true_and]
      refine M1 m _ ?_
      exact M2 m Q hQ P hP
    · rw [b2, hlst]
      have : ∀ (d r : Nat) (l : List Nat), r + d = 24 → rtV s1 r d l = rtV s r d l := by
        intro d
        induction d with
        | zero => intro r l _; rfl
        | succ d ih =>
          intro r l hrd
          show rtV s1 (r + 1) d (visit l (s1 (20 + r))) = rtV s (r + 1) d (visit l (s (20 + r)))
          rw [E1.2.1 _ (by omega) (by omega), ih _ _ (by omega)]
      rw [this d (r + 1) _ (by omega)]
      rfl
end L3

/-! end, its first half: given back, shelves cleared; what the fading begins with -/
section E1
variable {T : Nat} {c m : gMem} {s : gS}
theorem nd_kp {n : Nat} : ∀ j, j ≤ n → ndN s j + ckN s j = aCn s j := by
  intro j
  induction j with
  | zero => intro _; rfl
  | succ j ih =>
    intro hj
    have := ih (by omega)
    show ndN s j + (if ddB s j then 1 else 0) + (ckN s j + (if kpB s j then 1 else 0)) = aCn s j + (if s (1100 + 10 * j) = 1 then 1 else 0)
    by_cases hl : s (1100 + 10 * j) = 1
    · by_cases hm : s (1105 + 10 * j) = 0
      · rw [if_pos (ddB_t.mpr ⟨hl, hm⟩), if_neg (fun q => (kpB_t.mp q).2 hm), if_pos hl]; omega
      · rw [if_neg (fun q => hm (ddB_t.mp q).2), if_pos (kpB_t.mpr ⟨hl, hm⟩), if_pos hl]; omega
    · rw [if_neg (fun q => hl (ddB_t.mp q).1), if_neg (fun q => hl (kpB_t.mp q).1), if_neg hl]; omega
theorem kp_mem (hM : zM s ≤ 500) (hm : iM s ∧ iO s ∧ iU s) {h : Nat} (hh : h < zM s) : kpB s h = true ↔ h ∈ Lst s := by
  obtain ⟨im, io, iu⟩ := hm
  have hKM := im.2.2.1
  rw [Lst_mem, kpB_t]
  constructor
  · intro ⟨hl, h5⟩
    rcases iu h hh with q | q
    · exact absurd q h5
    · exact q
  · rintro ⟨k, hk, rfl⟩
    obtain ⟨o1, o2, o3, o4, -⟩ := io k hk
    exact ⟨o3, by rw [o4]; exact fun q => absurd (nI_inj (b := 0) (by omega) (by decide) q) (by omega)⟩
theorem ck_K (hM : zM s ≤ 500) (hm : iM s ∧ iO s ∧ iU s) : ckN s (zM s) = zK s := by
  have e : ∀ j, ckN s j = sumN (fun h => if kpB s h then 1 else 0) j := by
    intro j
    induction j with
    | zero => rfl
    | succ j ih => show ckN s j + _ = sumN _ j + _; rw [ih]
  have h2 := sumN_list (f := fun _ => 1) (n := zM s) (Lst s) (Lst_nodup hm.2.1 hM hm.1.2.2.1) (Lst_lt hm.2.1)
  have h3 : ∀ l : List Nat, (l.map (fun _ => 1)).sum = l.length := by
    intro l
    induction l with
    | nil => rfl
    | cons a l ih => simp [ih]; omega
  rw [e, ← Lst_len (s := s), ← h3, ← h2]
  refine sumN_cong _ (fun h hh => ?_)
  by_cases q : kpB s h = true
  · rw [if_pos q, if_pos ((kp_mem hM hm hh).mp q)]
  · rw [if_neg q, if_neg (fun z => q ((kp_mem hM hm hh).mpr z))]
theorem ps_L (hM : zM s ≤ 500) (hm : iM s ∧ iO s ∧ iU s) : psK s (zM s) = ((Lst s).map (aSz s)).sum := by
  have e : ∀ j, psK s j = sumN (fun h => if kpB s h then aSz s h else 0) j := by
    intro j
    induction j with
    | zero => rfl
    | succ j ih => show psK s j + _ = sumN _ j + _; rw [ih]
  have h2 := sumN_list (f := aSz s) (n := zM s) (Lst s) (Lst_nodup hm.2.1 hM hm.1.2.2.1) (Lst_lt hm.2.1)
  rw [e, ← h2]
  refine sumN_cong _ (fun h hh => ?_)
  by_cases q : kpB s h = true
  · rw [if_pos q, if_pos ((kp_mem hM hm hh).mp q)]
  · rw [if_neg q, if_neg (fun z => q ((kp_mem hM hm hh).mpr z))]
theorem gb_sim {c0 m0 : gMem} (hr : rH 1 c0 s ∧ rW 1 c0 s ∧ rC 1 c0 s ∧ rK 1 c0 s ∧ rR 1 c0 s) (h12 : (∀ k, k = 0 ∨ k = 4 ∨ k = 5 → c0 12 k = s (5 + k)) ∧ ∀ k, k < 300 → k < 3 * zT s → c0 13 k = s (100 + k)) (h0 : aS0 T s) (h7 : s 7 = 0) (h65 : c0 65 5 = 0) (h64 : ∀ b, b < 14 → c0 64 b = m0 4 b) (hm0 : m0 1 = s) :
    ∃ c2 m1, Dv (wX7_giveBackUnmarked_p7 0 c0) c2 ∧ Dv (wX10_giveBack m0) m1 ∧ fdF c2 m1 s ∧ fdR c2 m1 s T 0 c2 m1 ∧ m1 1 = gvS s (zM s) ∧ (∀ i, i ≠ 1 → i ≠ 4 → i ≠ 5 → m1 i = m0 i) ∧ (∀ i, i ≠ 2 → i ≠ 4 → i ≠ 12 → i ≠ 21 → i ≠ 64 → i ≠ 65 → i ≠ 66 → c2 i = c0 i) ∧ (∀ k, k ≠ 3 → c2 2 k = c0 2 k) ∧ c2 2 3 = m1 1 2 ∧ (∀ q, q < 32 → c2 21 q = m1 1 (44 + q)) ∧ c2 12 0 = s 5 ∧ c2 12 1 = c2 2 3 ∧ c2 12 2 = nI (ndN s (zM s)) ∧ c2 12 4 = s 9 + nI (ndN s (zM s)) ∧ c2 65 5 = nI (ndN s (zM s)) ∧ ∀ q, q < ndN s (zM s) → c2 66 q = m1 5 q := by
  obtain ⟨r1, r2, r3, r6, r10⟩ := hr
  obtain ⟨hp, hmk, it, ip, ig⟩ := id h0
  obtain ⟨a1, a2, a3, a4, a5, a6, a7, a8, a9⟩ := id hp.1
  have hU : zU s ≤ 4000 := by omega
  have c22 : c0 2 2 = nI (zM s) := by rw [← a4]; exact r1.2.2.1
  have hlv : ∀ h, h < zM s → s (1100 + 10 * h) = 0 ∨ s (1100 + 10 * h) = 1 := fun h hh => by
    rcases hp.2.1 h hh with q | q
    · exact Or.inl q
    · exact Or.inr q.1
  have F : gbF c0 s := by
    refine ⟨a5, a4, c22, hlv, fun h hh hl => ?_, fun h hh hl => (r3 h hh).2 hl, fun h hh => r6.1 h hh⟩
    obtain ⟨k1, k2, k3, k4, k5, k6, k7, k8, k9, k10, k11⟩ := hp_cell hp hh hl
    refine ⟨k1, k2, aPl s h, by omega, ?_, ?_⟩
    · rw [← k3]; exact ((r3 h hh).1 hl).1
    · rw [← k7]; exact r2.1 _ (by omega)
  have hR0 : gbR c0 m0 s 0 c0 m0 := by
    refine ⟨hm0, fun _ _ _ _ => rfl, fun _ _ _ _ _ _ => rfl, fun _ _ => rfl, ?_, fun h hh => ?_, h64, h65, fun q hq => absurd hq (Nat.not_lt_zero _)⟩
    · rw [hm0]; exact r1.2.2.2
    · rw [if_neg (by omega)]
  obtain ⟨c1, m1, X1, M1, g1, g2, g3, g4, g5, g6, g7, g8, g9⟩ := gb_all F h7 (zM s) 0 c0 m0 (by omega) hR0
  have hnd := ndN_le (s := s) (zM s)
  have kd : ∀ h, h < zM s → (ddB s h = true ↔ aLv s h ∧ ¬ kpB s h = true) := by
    intro h hh
    rw [ddB_t, kpB_t]
    constructor
    · rintro ⟨q1, q2⟩; exact ⟨q1, fun z => z.2 q2⟩
    · rintro ⟨q1, q2⟩; exact ⟨q1, Decidable.byContradiction (fun z => q2 ⟨q1, z⟩)⟩
  have c14 : ∀ h, h < zM s → c1 4 h = (if kpB s h then nI (aPl s h) else -1) := by
    intro h hh
    rw [g6 h (by omega)]
    by_cases hl : aLv s h
    · obtain ⟨k1, k2, k3, -⟩ := hp_cell hp hh hl
      by_cases hk : kpB s h = true
      · rw [if_pos hk, if_neg (fun q => ((kd h hh).mp q.2).2 hk), ← k3]; exact ((r3 h hh).1 hl).1
      · rw [if_neg hk, if_pos ⟨hh, (kd h hh).mpr ⟨hl, hk⟩⟩]
    · rw [if_neg (fun q => hl ((kd h hh).mp q.2).1), if_neg (fun q => hl (kpB_t.mp q).1)]; exact (r3 h hh).2 hl
  have m10 : ∀ h, h < zM s → m1 1 (1100 + 10 * h) = (if kpB s h then 1 else 0) := by
    intro h hh
    rw [g1, gv_is]
    by_cases hk : kpB s h = true
    · rw [if_pos hk, if_neg (fun q => ((kd h hh).mp q.2).2 hk)]; exact (kpB_t.mp hk).1
    · rw [if_neg hk]
      by_cases hl : aLv s h
      · rw [if_pos ⟨hh, (kd h hh).mpr ⟨hl, hk⟩⟩]
      · rw [if_neg (fun q => hl ((kd h hh).mp q.2).1)]; exact (hlv h hh).resolve_right hl
  have m1o : ∀ k, k ≠ 2 → k ≠ 7 → ¬ (44 ≤ k ∧ k < 76) → (∀ h, h < 500 → k ≠ 1100 + 10 * h) → m1 1 k = s k := fun k k2 k7 k4 kh => by
    rw [g1]; exact gv_o k2 k7 k4 _ (fun h hh => kh h (by omega))
  have c1o := g3
  have c122 : c1 2 2 = nI (zM s) := by rw [g4 2 (by decide)]; exact c22
  -- shelves
  have hsh : ∀ q, q < 32 → aHv s (s (44 + q)) := fun q hq => hp.2.2.2.2.2.1 q hq
  have c21 : c1 21 = c0 21 := c1o 21 (by decide) (by decide) (by decide) (by decide) (by decide)
  have c0s : ∀ q, q < 32 → c1 21 q = s (44 + q) := fun q hq => by rw [c21]; exact r10.2 q hq
  have fsh : ∀ q, q < 32 → (∃ t, t < zM s ∧ s (44 + q) = nI t ∧ kpB s t = true ∧ m1 1 (44 + q) = s (44 + q)) ∨ (m1 1 (44 + q) = -1 ∧ (s (44 + q) = -1 ∨ ∃ t, t < zM s ∧ s (44 + q) = nI t ∧ ¬ kpB s t = true)) := by
    intro q hq
    obtain ⟨G1, G2⟩ := gvs_sh (s := s) (k := 44 + q) (by omega) (zM s)
    rw [← g1] at G1 G2
    rcases hsh q hq with e | ⟨t, ht, e, hl⟩
    · right
      refine ⟨?_, Or.inl e⟩
      rw [G2 (fun h hh hd => by rw [e]; exact fun z => nI_m1 (by omega) z.symm)]; exact e
    · by_cases hk : kpB s t = true
      · left
        refine ⟨t, ht, e, hk, G2 (fun h hh hd z => ?_)⟩
        have : h = t := nI_inj (by omega) (by omega) (z.symm.trans e)
        subst this
        exact ((kd h hh).mp hd).2 hk
      · right
        exact ⟨G1 ⟨t, ht, (kd t ht).mpr ⟨hl, hk⟩, e⟩, Or.inr ⟨t, ht, e, hk⟩⟩
  have hx : ∀ (c : gMem) (k : Nat), k < 32 → (∀ i, i ≠ 21 → c i = c1 i) → ∀ Q : Int32 → gMem → Prop, wX2_has (c1 21 k) c Q = Q (if m1 1 (44 + k) = c1 21 k ∧ ¬ m1 1 (44 + k) = -1 then 1 else 0) c := by
    intro c k hk hc Q
    have d22 : c 2 2 = nI (zM s) := by rw [hc 2 (by decide)]; exact c122
    rw [c0s k hk]
    rcases fsh k hk with ⟨t, ht, e, hkt, e2⟩ | ⟨e2, e | ⟨t, ht, e, hkt⟩⟩
    · have dt : c 4 t = nI (aPl s t) := by rw [hc 4 (by decide), c14 t ht, if_pos hkt]
      obtain ⟨-, -, -, -, -, -, -, -, t9, t10, t11⟩ := hp_cell hp ht (kpB_t.mp hkt).1
      rw [if_pos ⟨e2, by rw [e2, e]; exact nI_m1 (by omega)⟩, e, x_has1 d22 a5 ht dt (by omega)]
    · rw [if_neg (fun z => z.2 e2), e, x_hasN]
    · have dt : c 4 t = -1 := by rw [hc 4 (by decide), c14 t ht, if_neg hkt]
      rw [if_neg (fun z => z.2 e2), e, x_has0 d22 a5 ht dt]
  obtain ⟨cc, XC, cco, cc21⟩ := x_clear (f := fun k => m1 1 (44 + k)) c1 hx (fun k hk => by
    rcases fsh k hk with ⟨t, ht, e, hkt, e2⟩ | ⟨e2, -⟩
    · left; show m1 1 (44 + k) = _; rw [e2, c0s k hk]
    · right; exact e2) 32 0 c1 (by omega) (fun _ _ => rfl) (fun q hq => by rw [if_neg (by omega)])
  have cc23 : cc 2 3 = m1 1 2 := by rw [cco 2 (by decide)]; exact g5
  have cc65 : cc 65 5 = nI (ndN s (zM s)) := by rw [cco 65 (by decide)]; exact g8
  have cc12 : cc 12 = c0 12 := by rw [cco 12 (by decide)]; exact c1o 12 (by decide) (by decide) (by decide) (by decide) (by decide)
  have hfin : ∃ c2, (∀ Q : gMem → Prop, Q c2 → wX7_giveBackUnmarked_p7 0 c0 Q) ∧ (∀ i, i ≠ 12 → c2 i = cc i) ∧ c2 12 = upd (upd (upd (c0 12) 1 (m1 1 2)) 2 (nI (ndN s (zM s)))) 4 (c0 12 4 + nI (ndN s (zM s))) := by
    refine ⟨mp (mp (mp cc 12 1 (m1 1 2)) 12 2 (nI (ndN s (zM s)))) 12 4 (c0 12 4 + nI (ndN s (zM s))), fun Q hQ => X1 Q (fun P hP => hP _ _ ?_), fun i hi => by rw [mp_n hi, mp_n hi, mp_n hi], by rw [mp_s, mp_s, mp_s, cc12]⟩
    unfold wX7_giveBackUnmarked_p7_b wX7_clearShelves
    simp only [forall_eq, c122, Int32.le_refl, true_implies, not_true_eq_false, false_implies, and_true]
    refine XC _ ?_
    rw [cc23, mp_n (show (65 : Nat) ≠ 12 by decide), cc65, mp_n (show (65 : Nat) ≠ 12 by decide), mp_n (show (65 : Nat) ≠ 12 by decide), cc65, mp_s, mp_s, up_n (by decide), up_n (by decide), cc12]
    exact hQ
  obtain ⟨c2, X2, c2o, c212⟩ := hfin
  have c2f : ∀ i, i ≠ 2 → i ≠ 4 → i ≠ 12 → i ≠ 21 → i ≠ 64 → i ≠ 65 → i ≠ 66 → c2 i = c0 i := fun i i2 i4 i12 i21 i64 i65 i66 => by
    rw [c2o i i12, cco i i21]; exact c1o i i2 i4 i64 i65 i66
  have w3 : c2 3 = c0 3 := c2f 3 (by decide) (by decide) (by decide) (by decide) (by decide) (by decide) (by decide)
  have e120 : c2 12 0 = s 5 := by rw [c212, up_n (by decide), up_n (by decide), up_n (by decide)]; exact h12.1 0 (by omega)
  refine ⟨c2, m1, X2, fun Q hQ => M1 Q (fun P hP => hP _ _ ?_), ⟨hp, ?_, ?_, fun h hh => ⟨m10 h hh, ?_, m1o _ (by omega) (by omega) (by omega) (by omega), m1o _ (by omega) (by omega) (by omega) (by omega)⟩, ?_⟩, ⟨fun _ _ _ _ => rfl, fun _ _ _ => rfl, fun _ _ _ _ _ => rfl, ⟨fun _ _ => rfl, ?_, ⟨zT s, ?_, it.2, fun k k1 k2 => ?_⟩, fun b hb => ?_⟩, ⟨fun k hk => ?_, fun k hk => ⟨rfl, rfl⟩⟩, fun h hh hl i hi hw => ?_, fun h hh kh wh => ⟨fun q => absurd q (Nat.not_lt_zero _), fun _ => ?_⟩⟩, g1, g2, c2f, fun k hk => ?_, ?_, fun q hq => ?_, e120, ?_, ?_, ?_, ?_, fun q hq => ?_⟩
  · unfold wX10_giveBack_p2_b
    have : m1 1 1 = nI (zM s) := by rw [m1o 1 (by decide) (by decide) (by omega) (by omega)]; exact a4
    simp only [forall_eq, this, Int32.le_refl, true_implies, not_true_eq_false, false_implies, and_true]
    exact hQ
  · rw [c2o 2 (by decide), cco 2 (by decide)]; exact c122
  · rw [m1o 1 (by decide) (by decide) (by omega) (by omega)]; exact a4
  · rw [c2o 4 (by decide), cco 4 (by decide)]; exact c14 h hh
  · rw [e120, m1o 5 (by decide) (by decide) (by omega) (by omega)]
  · rw [c212, up_n (by decide), up_n (by decide), up_n (by decide), m1o 10 (by decide) (by decide) (by omega) (by omega)]; exact h12.1 5 (by omega)
  · rw [m1o 10 (by decide) (by decide) (by omega) (by omega)]; exact it.1
  · rw [c2f 13 (by decide) (by decide) (by decide) (by decide) (by decide) (by decide) (by decide), m1o _ (by omega) (by omega) (by omega) (by omega)]; exact h12.2 k k1 k2
  · rw [c2o 64 (by decide), cco 64 (by decide)]; exact g7 b hb
  · rw [w3, m1o _ (by omega) (by omega) (by omega) (by omega)]; exact r2.1 k hk
  · exact m1o _ (by omega) (by omega) (by omega) (fun q hq => by omega)
  · exact m1o _ (by omega) (by omega) (by omega) (fun q hq => by omega)
  · rw [c2o 2 (by decide), cco 2 (by decide)]; exact g4 k hk
  · rw [c2o 2 (by decide)]; exact cc23
  · rw [c2o 21 (by decide)]; exact cc21 q hq
  · rw [c212, up_n (by decide), up_n (by decide), up_s, c2o 2 (by decide)]; exact cc23.symm
  · rw [c212, up_n (by decide), up_s]
  · rw [c212, up_s, h12.1 4 (by omega)]
  · rw [c2o 65 (by decide)]; exact cc65
  · rw [c2o 66 (by decide), cco 66 (by decide)]; exact g9 q hq
end E1

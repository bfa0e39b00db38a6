/-! states that become others -/
theorem cpy_in {f g : Nat → Int32} {n k : Nat} (h : k < n) : va_cpy f g 0 0 n k = f k := by
  rw [pk_cpy_in (Nat.zero_le _) (by omega)]; congr 1; omega
theorem cpy_out {f g : Nat → Int32} {n k : Nat} (h : n ≤ k) : va_cpy f g 0 0 n k = g k := pk_cpy_out (by omega)
/-- what becoming leaves: t is the State's cell that changes, b the one that is copied -/
def bcm (t b : Nat) (c c' : gMem) (s : gS) : Prop := (∀ i, i ≤ t ∨ t + 20 < i → c' i = c i) ∧ aSR t c' s ∧ aCI t c'
section BC
variable {T : Nat} {c : gMem} {s : gS}
theorem bc2_43_1 {u v : Nat} (hu : c 2 1 = nI u) (hu4 : u ≤ 4000) (hv : c 44 1 = nI v) (hv4 : v ≤ 4000) (hz : ∀ k, v ≤ k → k < 4000 → c 45 k = 0) : ∃ c', Dv (wX2_copyFrom c) c' ∧ (∀ i, i ≠ 44 → i ≠ 45 → i ≠ 46 → i ≠ 47 → c' i = c i) ∧ (∀ k, k < 4 → c' 44 k = c 2 k) ∧ (∀ k, k < u → c' 45 k = c 3 k) ∧ (∀ k, u ≤ k → k < 4000 → c' 45 k = 0) ∧ (∀ k, k < 500 → c' 46 k = c 4 k) ∧ ∀ k, k < 500 → c' 47 k = c 5 k := by
  have key : ∀ d : gMem, (∀ i, i ≠ 45 → d i = c i) → (∀ k, u ≤ k → k < 4000 → d 45 k = 0) → ∃ c', Dv (wX2_copyFrom_p27 d) c' ∧ (∀ i, i ≠ 44 → i ≠ 45 → i ≠ 46 → i ≠ 47 → c' i = c i) ∧ (∀ k, k < 4 → c' 44 k = c 2 k) ∧ (∀ k, k < u → c' 45 k = c 3 k) ∧ (∀ k, u ≤ k → k < 4000 → c' 45 k = 0) ∧ (∀ k, k < 500 → c' 46 k = c 4 k) ∧ ∀ k, k < 500 → c' 47 k = c 5 k := by
    intro d hd hz2
    apply Exists.intro
    apply And.intro
    · intro Q hQ
      unfold wX2_copyFrom_p27
      simp only [forall_eq]
      rw [hd 2 (by decide), hu, nI_clamp (by omega)]
      refine ⟨⟨by decide, by decide, nI_pos (by omega), by omega, by omega⟩, ⟨by decide, by decide, by decide, by decide, by decide⟩, ⟨by decide, by decide, by decide, by decide, by decide⟩, ?_⟩
      exact hQ
    · refine ⟨fun i h1 h2 h3 h4 => ?_, fun k hk => ?_, fun k hk => ?_, fun k h1 h2 => ?_, fun k hk => ?_, fun k hk => ?_⟩
      · rw [mp_n h1, mp_n h1, mp_n h1, mp_n h1, mr_n h4, mr_n h3, mr_n h2, hd i h2]
      · rcases (by omega : k = 0 ∨ k = 1 ∨ k = 2 ∨ k = 3) with rfl | rfl | rfl | rfl
        · simp [mp_s, mp_n, mr_n, up_s, up_n, hd 2 (by decide)]
        · simp [mp_s, mp_n, mr_n, up_s, up_n, hd 2 (by decide)]
        · simp [mp_s, mp_n, mr_n, up_s, up_n, hd 2 (by decide)]
        · simp [mp_s, mp_n, mr_n, up_s, up_n, hd 2 (by decide)]
      · rw [mp_n (by decide), mp_n (by decide), mp_n (by decide), mp_n (by decide), mr_n (by decide), mr_n (by decide), mr_s, cpy_in hk, hd 3 (by decide)]
      · rw [mp_n (by decide), mp_n (by decide), mp_n (by decide), mp_n (by decide), mr_n (by decide), mr_n (by decide), mr_s, cpy_out h1, hz2 k h1 h2]
      · rw [mp_n (by decide), mp_n (by decide), mp_n (by decide), mp_n (by decide), mr_n (by decide), mr_s, cpy_in hk, mr_n (by decide), hd 4 (by decide)]
      · rw [mp_n (by decide), mp_n (by decide), mp_n (by decide), mp_n (by decide), mr_s, cpy_in hk, mr_n (by decide), mr_n (by decide), hd 5 (by decide)]
  by_cases hvu : v ≤ u
  · obtain ⟨c', X, r⟩ := key c (fun _ _ => rfl) (fun k h1 h2 => hz k (by omega) h2)
    refine ⟨c', fun Q hQ => ?_, r⟩
    unfold wX2_copyFrom
    simp only [forall_eq, hu, hv, nI_le hvu (show u < 2 ^ 31 by omega), true_implies, not_true_eq_false, not_false_eq_true, false_implies, true_and, and_true]
    exact X Q hQ
  · obtain ⟨c', X, r⟩ := key (mr c 45 (fun j => if u ≤ j ∧ j < v then 0 else c 45 j)) (fun i hi => mr_n hi) (fun k h1 h2 => by
      rw [mr_s]
      by_cases hk : k < v
      · rw [if_pos ⟨h1, hk⟩]
      · rw [if_neg (by omega)]; exact hz k (by omega) h2)
    refine ⟨c', fun Q hQ => ?_, r⟩
    unfold wX2_copyFrom
    simp only [forall_eq, hu, hv, nI_ge (show u < v by omega) (show v < 2 ^ 31 by omega), true_implies, not_true_eq_false, not_false_eq_true, false_implies, true_and, and_true]
    exact ⟨u, v, rfl, rfl, by omega, hv4, X Q hQ⟩
theorem bc3_43_1 (h01 : c 6 0 = 0 ∨ c 6 0 = 1) : ∃ c', Dv (wX3_copyFrom c) c' ∧ (∀ i, i < 48 ∨ 53 < i → c' i = c i) ∧ (∀ k, k < 4 → c' 48 k = c 6 k) ∧ (∀ k, k < 500 → c' 49 k = c 7 k) ∧ (∀ k, k < 500 → c' 50 k = c 8 k) ∧ (∀ k, k < 500 → c' 51 k = c 9 k) ∧ (∀ k, k < 500 → c' 52 k = c 10 k) ∧ (∀ k, k < 500 → c' 53 k = c 11 k) := by
  apply Exists.intro
  apply And.intro
  · intro Q hQ
    unfold wX3_copyFrom
    simp only [forall_eq]
    refine ⟨h01, ⟨by decide, by decide, by decide, by decide, by decide⟩, ⟨by decide, by decide, by decide, by decide, by decide⟩, ⟨by decide, by decide, by decide, by decide, by decide⟩, ⟨by decide, by decide, by decide, by decide, by decide⟩, ⟨by decide, by decide, by decide, by decide, by decide⟩, ?_⟩
    exact hQ
  · refine ⟨fun i hi => ?_, fun k hk => ?_, fun k hk => ?_, fun k hk => ?_, fun k hk => ?_, fun k hk => ?_, fun k hk => ?_⟩
    · rw [mr_n (by omega), mr_n (by omega), mr_n (by omega), mr_n (by omega), mr_n (by omega), mp_n (by omega), mp_n (by omega), mp_n (by omega), mp_n (by omega)]
    · rcases (by omega : k = 0 ∨ k = 1 ∨ k = 2 ∨ k = 3) with rfl | rfl | rfl | rfl <;> simp [mp_s, mp_n, mr_n, up_s, up_n]
    · simp [mp_n, mr_n, mr_s, cpy_in hk]
    · simp [mp_n, mr_n, mr_s, cpy_in hk]
    · simp [mp_n, mr_n, mr_s, cpy_in hk]
    · simp [mp_n, mr_n, mr_s, cpy_in hk]
    · simp [mp_n, mr_n, mr_s, cpy_in hk]
theorem bc8_43_1 : ∃ c', Dv (wX8_copyFrom c) c' ∧ (∀ i, i < 54 ∨ 55 < i → c' i = c i) ∧ (∀ k, k < 6 → c' 54 k = c 12 k) ∧ ∀ k, k < 300 → c' 55 k = c 13 k := by
  apply Exists.intro
  apply And.intro
  · intro Q hQ
    unfold wX8_copyFrom
    simp only [forall_eq]
    refine ⟨⟨by decide, by decide, by decide, by decide, by decide⟩, ?_⟩
    exact hQ
  · refine ⟨fun i hi => ?_, fun k hk => ?_, fun k hk => ?_⟩
    · rw [mr_n (by omega), mp_n (by omega), mp_n (by omega), mp_n (by omega), mp_n (by omega), mp_n (by omega), mp_n (by omega)]
    · rcases (by omega : k = 0 ∨ k = 1 ∨ k = 2 ∨ k = 3 ∨ k = 4 ∨ k = 5) with rfl | rfl | rfl | rfl | rfl | rfl <;> simp [mp_s, mp_n, mr_n, up_s, up_n]
    · simp [mp_n, mr_n, mr_s, cpy_in hk]
theorem bc4_43_1 {r : Nat} (hr : c 14 0 = nI r) (hr6 : r ≤ 6527) : ∃ c', Dv (wX4_copyFrom c) c' ∧ (∀ i, i < 56 ∨ 58 < i → c' i = c i) ∧ c' 56 0 = c 14 0 ∧ (∀ k, k < r → c' 57 k = c 15 k) ∧ ∀ k, k < r → c' 58 k = c 16 k := by
  apply Exists.intro
  apply And.intro
  · intro Q hQ
    unfold wX4_copyFrom
    simp only [forall_eq, mp_s, up_s, mr_n (show (56 : Nat) ≠ 57 by decide), hr, nI_clamp (show r < 2 ^ 31 by omega)]
    refine ⟨⟨by decide, by decide, nI_pos (by omega), by omega, by omega⟩, ⟨by decide, by decide, nI_pos (by omega), by omega, by omega⟩, ?_⟩
    exact hQ
  · refine ⟨fun i hi => ?_, ?_, fun k hk => ?_, fun k hk => ?_⟩
    · rw [mr_n (by omega), mr_n (by omega), mp_n (by omega)]
    · simp [mp_s, mp_n, mr_n, up_s, up_n, hr]
    · simp [mp_n, mr_n, mr_s, cpy_in hk]
    · simp [mp_n, mr_n, mr_s, cpy_in hk]
theorem bc5_43_1 : ∃ c', Dv (wX5_copyFrom c) c' ∧ (∀ i, i < 59 ∨ 61 < i → c' i = c i) ∧ (∀ k, k < 4 → c' 59 k = c 17 k) ∧ (∀ k, k < 200 → c' 60 k = c 18 k) ∧ ∀ k, k < 8 → c' 61 k = c 19 k := by
  apply Exists.intro
  apply And.intro
  · intro Q hQ
    unfold wX5_copyFrom
    simp only [forall_eq]
    refine ⟨⟨by decide, by decide, by decide, by decide, by decide⟩, ⟨by decide, by decide, by decide, by decide, by decide⟩, ?_⟩
    exact hQ
  · refine ⟨fun i hi => ?_, fun k hk => ?_, fun k hk => ?_, fun k hk => ?_⟩
    · rw [mr_n (by omega), mr_n (by omega), mp_n (by omega), mp_n (by omega), mp_n (by omega), mp_n (by omega)]
    · rcases (by omega : k = 0 ∨ k = 1 ∨ k = 2 ∨ k = 3) with rfl | rfl | rfl | rfl <;> simp [mp_s, mp_n, mr_n, up_s, up_n]
    · simp [mp_n, mr_n, mr_s, cpy_in hk]
    · simp [mp_n, mr_n, mr_s, cpy_in hk]
theorem bcm_43_1 (hr : aSR 1 c s) (h0 : aS0 T s) (hci : aCI 43 c) : ∃ c', Dv (wX6_become c) c' ∧ bcm 43 1 c c' s := by
  obtain ⟨hp, hmk, it, ip, ig⟩ := h0
  obtain ⟨a1, a2, a3, a4, a5, a6, a7, a8, a9⟩ := id hp.1
  obtain ⟨r1, r2, r3, r4, r5, r6, r7, r8, r9, r10⟩ := hr
  obtain ⟨v, v1, v2, v3⟩ := hci
  have hu : c 2 1 = nI (zU s) := by rw [← a6]; exact r1.2.1
  have h01 : c 6 0 = 0 ∨ c 6 0 = 1 := by rw [show c 6 0 = s 3 from r4.1]; exact hmk.1.1
  have hrr : c 14 0 = nI (zR s) := by rw [← ip.1]; exact r8.1
  obtain ⟨c1, X1, F1, A1, B1, C1, D1, E1⟩ := bc2_43_1 hu (by omega) v2 v1 v3
  obtain ⟨c2, X2, F2, A2, B2, C2, D2, E2, G2⟩ := bc3_43_1 (c := c1) (by rw [F1 _ (by decide) (by decide) (by decide) (by decide)]; exact h01)
  obtain ⟨c3, X3, F3, A3, B3⟩ := bc8_43_1 (c := c2)
  obtain ⟨c4, X4, F4, A4, B4, C4⟩ := bc4_43_1 (c := c3) (r := zR s) (by rw [F3 _ (by decide), F2 _ (by decide), F1 _ (by decide) (by decide) (by decide) (by decide)]; exact hrr) ip.2.2
  obtain ⟨c5, X5, F5, A5, B5, C5⟩ := bc5_43_1 (c := c4)
  refine ⟨mr (mr c5 62 (va_cpy (c5 20) (c5 62) 0 0 24)) 63 (va_cpy (mr c5 62 (va_cpy (c5 20) (c5 62) 0 0 24) 21) (mr c5 62 (va_cpy (c5 20) (c5 62) 0 0 24) 63) 0 0 32), fun Q hQ => ?_, ?_⟩
  · unfold wX6_become
    refine X1 _ (X2 _ (X3 _ (X4 _ (X5 _ ⟨⟨by decide, by decide, by decide, by decide, by decide⟩, fun c7 e7 => ⟨⟨by decide, by decide, by decide, by decide, by decide⟩, fun c9 e9 => ?_⟩⟩))))
    rw [e9, e7]; exact hQ
  have hf5 : ∀ i, i ≠ 62 → i ≠ 63 → mr (mr c5 62 (va_cpy (c5 20) (c5 62) 0 0 24)) 63 (va_cpy (mr c5 62 (va_cpy (c5 20) (c5 62) 0 0 24) 21) (mr c5 62 (va_cpy (c5 20) (c5 62) 0 0 24) 63) 0 0 32) i = c5 i := fun i h1 h2 => by rw [mr_n h2, mr_n h1]
  have hR : mr (mr c5 62 (va_cpy (c5 20) (c5 62) 0 0 24)) 63 (va_cpy (mr c5 62 (va_cpy (c5 20) (c5 62) 0 0 24) 21) (mr c5 62 (va_cpy (c5 20) (c5 62) 0 0 24) 63) 0 0 32) 62 = va_cpy (c5 20) (c5 62) 0 0 24 := by rw [mr_n (by decide), mr_s]
  have hS : mr (mr c5 62 (va_cpy (c5 20) (c5 62) 0 0 24)) 63 (va_cpy (mr c5 62 (va_cpy (c5 20) (c5 62) 0 0 24) 21) (mr c5 62 (va_cpy (c5 20) (c5 62) 0 0 24) 63) 0 0 32) 63 = va_cpy (c5 21) (mr c5 62 (va_cpy (c5 20) (c5 62) 0 0 24) 63) 0 0 32 := by rw [mr_s, mr_n (show (21 : Nat) ≠ 62 by decide)]
  generalize mr (mr c5 62 (va_cpy (c5 20) (c5 62) 0 0 24)) 63 (va_cpy (mr c5 62 (va_cpy (c5 20) (c5 62) 0 0 24) 21) (mr c5 62 (va_cpy (c5 20) (c5 62) 0 0 24) 63) 0 0 32) = c9 at hf5 hR hS ⊢
  have f5 : ∀ i, i < 59 ∨ 61 < i → i ≠ 62 → i ≠ 63 → c9 i = c4 i := fun i h h1 h2 => by rw [hf5 i h1 h2, F5 i h]
  have src4 : ∀ i, 1 < i → i ≤ 21 → c4 i = c i := fun i h1 h2 => by rw [F4 i (by omega), F3 i (by omega), F2 i (by omega), F1 i (by omega) (by omega) (by omega) (by omega)]
  have src3 : ∀ i, 1 < i → i ≤ 21 → c3 i = c i := fun i h1 h2 => by rw [F3 i (by omega), F2 i (by omega), F1 i (by omega) (by omega) (by omega) (by omega)]
  have src2 : ∀ i, 1 < i → i ≤ 21 → c2 i = c i := fun i h1 h2 => by rw [F2 i (by omega), F1 i (by omega) (by omega) (by omega) (by omega)]
  have src1 : ∀ i, 1 < i → i ≤ 21 → c1 i = c i := fun i h1 h2 => F1 i (by omega) (by omega) (by omega) (by omega)
  have src5 : ∀ i, 1 < i → i ≤ 21 → c5 i = c i := fun i h1 h2 => by rw [F5 i (by omega), src4 i h1 h2]
  have eid : hpE s s := ⟨hqE.rf, fun _ _ _ => rfl, fun _ _ _ => rfl⟩
  have fid : mkE s s := ⟨fun _ _ => rfl, fun _ _ _ => rfl, fun _ _ _ _ _ => rfl⟩
  have k1 : c9 44 = c1 44 := by rw [f5 _ (by decide) (by decide) (by decide), F4 _ (by decide), F3 _ (by decide), F2 _ (by decide)]
  have k2 : c9 45 = c1 45 := by rw [f5 _ (by decide) (by decide) (by decide), F4 _ (by decide), F3 _ (by decide), F2 _ (by decide)]
  have k3 : c9 46 = c1 46 := by rw [f5 _ (by decide) (by decide) (by decide), F4 _ (by decide), F3 _ (by decide), F2 _ (by decide)]
  have k4 : c9 47 = c1 47 := by rw [f5 _ (by decide) (by decide) (by decide), F4 _ (by decide), F3 _ (by decide), F2 _ (by decide)]
  have m5 : ∀ i, 48 ≤ i → i ≤ 53 → c9 i = c2 i := fun i h1 h2 => by rw [f5 i (by omega) (by omega) (by omega), F4 i (by omega), F3 i (by omega)]
  have n5 : ∀ i, 54 ≤ i → i ≤ 55 → c9 i = c3 i := fun i h1 h2 => by rw [f5 i (by omega) (by omega) (by omega), F4 i (by omega)]
  have o5 : ∀ i, 56 ≤ i → i ≤ 58 → c9 i = c4 i := fun i h1 h2 => f5 i (by omega) (by omega) (by omega)
  refine ⟨fun i hi => ?_, ⟨?_, ?_, ?_, ?_, ?_, ?_, ?_, ?_, ?_, ?_⟩, zU s, by omega, ?_, fun k h1 h2 => ?_⟩
  · rw [f5 i (by omega) (by omega) (by omega), F4 i (by omega), F3 i (by omega), F2 i (by omega), F1 i (by omega) (by omega) (by omega) (by omega)]
  · exact rH_cong (b := 1) eid.1 (fun k hk => by show c9 44 k = c 2 k; rw [k1, A1 k hk]) r1
  · refine ⟨fun k hk => ?_, fun k h1 h2 => ?_⟩
    · show c9 45 k = _
      rw [k2, B1 k hk]; exact r2.1 k hk
    · show c9 45 k = _
      rw [k2, C1 k h1 h2]
  · exact rC_cong (b := 1) eid.1 a5 (fun k hk => by show c9 46 k = c 4 k; rw [k3, D1 k hk]) (fun k hk => by show c9 47 k = c 5 k; rw [k4, E1 k hk]) r3
  · exact rM_cong (b := 1) fid hmk a5 (fun k hk => by show c9 48 k = c 6 k; rw [m5 _ (by decide) (by decide), A2 k hk, src1 _ (by decide) (by decide)]) r4
  · exact rO_cong (b := 1) fid hmk a5 (fun k hk => by show c9 49 k = c 7 k; rw [m5 _ (by decide) (by decide), B2 k hk, src1 _ (by decide) (by decide)]) (fun k hk => by show c9 51 k = c 9 k; rw [m5 _ (by decide) (by decide), D2 k hk, src1 _ (by decide) (by decide)]) (fun k hk => by show c9 52 k = c 10 k; rw [m5 _ (by decide) (by decide), E2 k hk, src1 _ (by decide) (by decide)]) (fun k hk => by show c9 53 k = c 11 k; rw [m5 _ (by decide) (by decide), G2 k hk, src1 _ (by decide) (by decide)]) r5
  · exact rK_cong (b := 1) fid rfl a5 (fun k hk => by show c9 50 k = c 8 k; rw [m5 _ (by decide) (by decide), C2 k hk, src1 _ (by decide) (by decide)]) r6
  · exact rT_cong (b := 1) ⟨fun _ _ _ => rfl, fun _ _ _ => rfl⟩ (fun k hk => by show c9 54 k = c 12 k; rw [n5 _ (by decide) (by decide), A3 k hk, src2 _ (by decide) (by decide)]) (fun k hk => by show c9 55 k = c 13 k; rw [n5 _ (by decide) (by decide), B3 k hk, src2 _ (by decide) (by decide)]) r7
  · exact rP_cong (b := 1) ⟨rfl, fun _ _ => ⟨rfl, rfl⟩⟩ (by show c9 56 0 = c 14 0; rw [o5 _ (by decide) (by decide), A4, src3 _ (by decide) (by decide)]) (fun k hk => by show c9 57 k = c 15 k; rw [o5 _ (by decide) (by decide), B4 k hk, src3 _ (by decide) (by decide)]) (fun k hk => by show c9 58 k = c 16 k; rw [o5 _ (by decide) (by decide), C4 k hk, src3 _ (by decide) (by decide)]) r8
  · exact rG_cong (b := 1) ⟨fun _ _ _ => rfl, fun _ _ _ => rfl, fun _ _ _ => rfl⟩ ig (fun k hk => by show c9 59 k = c 17 k; rw [hf5 _ (by decide) (by decide), A5 k hk, src4 _ (by decide) (by decide)]) (fun k hk => by show c9 60 k = c 18 k; rw [hf5 _ (by decide) (by decide), B5 k hk, src4 _ (by decide) (by decide)]) (fun k hk => by show c9 61 k = c 19 k; rw [hf5 _ (by decide) (by decide), C5 k hk, src4 _ (by decide) (by decide)]) r9
  · exact rR_cong (b := 1) (fun _ _ _ => rfl) (fun k hk => by show c9 62 k = c 20 k; rw [hR, cpy_in hk, src5 _ (by decide) (by decide)]) (fun k hk => by show c9 63 k = c 21 k; rw [hS, cpy_in hk, src5 _ (by decide) (by decide)]) r10
  · show c9 44 1 = _
    rw [k1, A1 1 (by decide)]; exact hu
  · show c9 45 k = _
    rw [k2, C1 k h1 h2]
theorem bc2_22_1 {u v : Nat} (hu : c 2 1 = nI u) (hu4 : u ≤ 4000) (hv : c 23 1 = nI v) (hv4 : v ≤ 4000) (hz : ∀ k, v ≤ k → k < 4000 → c 24 k = 0) : ∃ c', Dv (wX2_copyFrom_23_2 c) c' ∧ (∀ i, i ≠ 23 → i ≠ 24 → i ≠ 25 → i ≠ 26 → c' i = c i) ∧ (∀ k, k < 4 → c' 23 k = c 2 k) ∧ (∀ k, k < u → c' 24 k = c 3 k) ∧ (∀ k, u ≤ k → k < 4000 → c' 24 k = 0) ∧ (∀ k, k < 500 → c' 25 k = c 4 k) ∧ ∀ k, k < 500 → c' 26 k = c 5 k := by
  have key : ∀ d : gMem, (∀ i, i ≠ 24 → d i = c i) → (∀ k, u ≤ k → k < 4000 → d 24 k = 0) → ∃ c', Dv (wX2_copyFrom_23_2_p27 d) c' ∧ (∀ i, i ≠ 23 → i ≠ 24 → i ≠ 25 → i ≠ 26 → c' i = c i) ∧ (∀ k, k < 4 → c' 23 k = c 2 k) ∧ (∀ k, k < u → c' 24 k = c 3 k) ∧ (∀ k, u ≤ k → k < 4000 → c' 24 k = 0) ∧ (∀ k, k < 500 → c' 25 k = c 4 k) ∧ ∀ k, k < 500 → c' 26 k = c 5 k := by
    intro d hd hz2
    apply Exists.intro
    apply And.intro
    · intro Q hQ
      unfold wX2_copyFrom_23_2_p27
      simp only [forall_eq]
      rw [hd 2 (by decide), hu, nI_clamp (by omega)]
      refine ⟨⟨by decide, by decide, nI_pos (by omega), by omega, by omega⟩, ⟨by decide, by decide, by decide, by decide, by decide⟩, ⟨by decide, by decide, by decide, by decide, by decide⟩, ?_⟩
      exact hQ
    · refine ⟨fun i h1 h2 h3 h4 => ?_, fun k hk => ?_, fun k hk => ?_, fun k h1 h2 => ?_, fun k hk => ?_, fun k hk => ?_⟩
      · rw [mp_n h1, mp_n h1, mp_n h1, mp_n h1, mr_n h4, mr_n h3, mr_n h2, hd i h2]
      · rcases (by omega : k = 0 ∨ k = 1 ∨ k = 2 ∨ k = 3) with rfl | rfl | rfl | rfl
        · simp [mp_s, mp_n, mr_n, up_s, up_n, hd 2 (by decide)]
        · simp [mp_s, mp_n, mr_n, up_s, up_n, hd 2 (by decide)]
        · simp [mp_s, mp_n, mr_n, up_s, up_n, hd 2 (by decide)]
        · simp [mp_s, mp_n, mr_n, up_s, up_n, hd 2 (by decide)]
      · rw [mp_n (by decide), mp_n (by decide), mp_n (by decide), mp_n (by decide), mr_n (by decide), mr_n (by decide), mr_s, cpy_in hk, hd 3 (by decide)]
      · rw [mp_n (by decide), mp_n (by decide), mp_n (by decide), mp_n (by decide), mr_n (by decide), mr_n (by decide), mr_s, cpy_out h1, hz2 k h1 h2]
      · rw [mp_n (by decide), mp_n (by decide), mp_n (by decide), mp_n (by decide), mr_n (by decide), mr_s, cpy_in hk, mr_n (by decide), hd 4 (by decide)]
      · rw [mp_n (by decide), mp_n (by decide), mp_n (by decide), mp_n (by decide), mr_s, cpy_in hk, mr_n (by decide), mr_n (by decide), hd 5 (by decide)]
  by_cases hvu : v ≤ u
  · obtain ⟨c', X, r⟩ := key c (fun _ _ => rfl) (fun k h1 h2 => hz k (by omega) h2)
    refine ⟨c', fun Q hQ => ?_, r⟩
    unfold wX2_copyFrom_23_2
    simp only [forall_eq, hu, hv, nI_le hvu (show u < 2 ^ 31 by omega), true_implies, not_true_eq_false, not_false_eq_true, false_implies, true_and, and_true]
    exact X Q hQ
  · obtain ⟨c', X, r⟩ := key (mr c 24 (fun j => if u ≤ j ∧ j < v then 0 else c 24 j)) (fun i hi => mr_n hi) (fun k h1 h2 => by
      rw [mr_s]
      by_cases hk : k < v
      · rw [if_pos ⟨h1, hk⟩]
      · rw [if_neg (by omega)]; exact hz k (by omega) h2)
    refine ⟨c', fun Q hQ => ?_, r⟩
    unfold wX2_copyFrom_23_2
    simp only [forall_eq, hu, hv, nI_ge (show u < v by omega) (show v < 2 ^ 31 by omega), true_implies, not_true_eq_false, not_false_eq_true, false_implies, true_and, and_true]
    exact ⟨u, v, rfl, rfl, by omega, hv4, X Q hQ⟩
theorem bc3_22_1 (h01 : c 6 0 = 0 ∨ c 6 0 = 1) : ∃ c', Dv (wX3_copyFrom_27_6 c) c' ∧ (∀ i, i < 27 ∨ 32 < i → c' i = c i) ∧ (∀ k, k < 4 → c' 27 k = c 6 k) ∧ (∀ k, k < 500 → c' 28 k = c 7 k) ∧ (∀ k, k < 500 → c' 29 k = c 8 k) ∧ (∀ k, k < 500 → c' 30 k = c 9 k) ∧ (∀ k, k < 500 → c' 31 k = c 10 k) ∧ (∀ k, k < 500 → c' 32 k = c 11 k) := by
  apply Exists.intro
  apply And.intro
  · intro Q hQ
    unfold wX3_copyFrom_27_6
    simp only [forall_eq]
    refine ⟨h01, ⟨by decide, by decide, by decide, by decide, by decide⟩, ⟨by decide, by decide, by decide, by decide, by decide⟩, ⟨by decide, by decide, by decide, by decide, by decide⟩, ⟨by decide, by decide, by decide, by decide, by decide⟩, ⟨by decide, by decide, by decide, by decide, by decide⟩, ?_⟩
    exact hQ
  · refine ⟨fun i hi => ?_, fun k hk => ?_, fun k hk => ?_, fun k hk => ?_, fun k hk => ?_, fun k hk => ?_, fun k hk => ?_⟩
    · rw [mr_n (by omega), mr_n (by omega), mr_n (by omega), mr_n (by omega), mr_n (by omega), mp_n (by omega), mp_n (by omega), mp_n (by omega), mp_n (by omega)]
    · rcases (by omega : k = 0 ∨ k = 1 ∨ k = 2 ∨ k = 3) with rfl | rfl | rfl | rfl <;> simp [mp_s, mp_n, mr_n, up_s, up_n]
    · simp [mp_n, mr_n, mr_s, cpy_in hk]
    · simp [mp_n, mr_n, mr_s, cpy_in hk]
    · simp [mp_n, mr_n, mr_s, cpy_in hk]
    · simp [mp_n, mr_n, mr_s, cpy_in hk]
    · simp [mp_n, mr_n, mr_s, cpy_in hk]
theorem bc8_22_1 : ∃ c', Dv (wX8_copyFrom_33_12 c) c' ∧ (∀ i, i < 33 ∨ 34 < i → c' i = c i) ∧ (∀ k, k < 6 → c' 33 k = c 12 k) ∧ ∀ k, k < 300 → c' 34 k = c 13 k := by
  apply Exists.intro
  apply And.intro
  · intro Q hQ
    unfold wX8_copyFrom_33_12
    simp only [forall_eq]
    refine ⟨⟨by decide, by decide, by decide, by decide, by decide⟩, ?_⟩
    exact hQ
  · refine ⟨fun i hi => ?_, fun k hk => ?_, fun k hk => ?_⟩
    · rw [mr_n (by omega), mp_n (by omega), mp_n (by omega), mp_n (by omega), mp_n (by omega), mp_n (by omega), mp_n (by omega)]
    · rcases (by omega : k = 0 ∨ k = 1 ∨ k = 2 ∨ k = 3 ∨ k = 4 ∨ k = 5) with rfl | rfl | rfl | rfl | rfl | rfl <;> simp [mp_s, mp_n, mr_n, up_s, up_n]
    · simp [mp_n, mr_n, mr_s, cpy_in hk]
theorem bc4_22_1 {r : Nat} (hr : c 14 0 = nI r) (hr6 : r ≤ 6527) : ∃ c', Dv (wX4_copyFrom_35_14 c) c' ∧ (∀ i, i < 35 ∨ 37 < i → c' i = c i) ∧ c' 35 0 = c 14 0 ∧ (∀ k, k < r → c' 36 k = c 15 k) ∧ ∀ k, k < r → c' 37 k = c 16 k := by
  apply Exists.intro
  apply And.intro
  · intro Q hQ
    unfold wX4_copyFrom_35_14
    simp only [forall_eq, mp_s, up_s, mr_n (show (35 : Nat) ≠ 36 by decide), hr, nI_clamp (show r < 2 ^ 31 by omega)]
    refine ⟨⟨by decide, by decide, nI_pos (by omega), by omega, by omega⟩, ⟨by decide, by decide, nI_pos (by omega), by omega, by omega⟩, ?_⟩
    exact hQ
  · refine ⟨fun i hi => ?_, ?_, fun k hk => ?_, fun k hk => ?_⟩
    · rw [mr_n (by omega), mr_n (by omega), mp_n (by omega)]
    · simp [mp_s, mp_n, mr_n, up_s, up_n, hr]
    · simp [mp_n, mr_n, mr_s, cpy_in hk]
    · simp [mp_n, mr_n, mr_s, cpy_in hk]
theorem bc5_22_1 : ∃ c', Dv (wX5_copyFrom_38_17 c) c' ∧ (∀ i, i < 38 ∨ 40 < i → c' i = c i) ∧ (∀ k, k < 4 → c' 38 k = c 17 k) ∧ (∀ k, k < 200 → c' 39 k = c 18 k) ∧ ∀ k, k < 8 → c' 40 k = c 19 k := by
  apply Exists.intro
  apply And.intro
  · intro Q hQ
    unfold wX5_copyFrom_38_17
    simp only [forall_eq]
    refine ⟨⟨by decide, by decide, by decide, by decide, by decide⟩, ⟨by decide, by decide, by decide, by decide, by decide⟩, ?_⟩
    exact hQ
  · refine ⟨fun i hi => ?_, fun k hk => ?_, fun k hk => ?_, fun k hk => ?_⟩
    · rw [mr_n (by omega), mr_n (by omega), mp_n (by omega), mp_n (by omega), mp_n (by omega), mp_n (by omega)]
    · rcases (by omega : k = 0 ∨ k = 1 ∨ k = 2 ∨ k = 3) with rfl | rfl | rfl | rfl <;> simp [mp_s, mp_n, mr_n, up_s, up_n]
    · simp [mp_n, mr_n, mr_s, cpy_in hk]
    · simp [mp_n, mr_n, mr_s, cpy_in hk]
theorem bcm_22_1 (hr : aSR 1 c s) (h0 : aS0 T s) (hci : aCI 22 c) : ∃ c', Dv (wX6_become_22_1 c) c' ∧ bcm 22 1 c c' s := by
  obtain ⟨hp, hmk, it, ip, ig⟩ := h0
  obtain ⟨a1, a2, a3, a4, a5, a6, a7, a8, a9⟩ := id hp.1
  obtain ⟨r1, r2, r3, r4, r5, r6, r7, r8, r9, r10⟩ := hr
  obtain ⟨v, v1, v2, v3⟩ := hci
  have hu : c 2 1 = nI (zU s) := by rw [← a6]; exact r1.2.1
  have h01 : c 6 0 = 0 ∨ c 6 0 = 1 := by rw [show c 6 0 = s 3 from r4.1]; exact hmk.1.1
  have hrr : c 14 0 = nI (zR s) := by rw [← ip.1]; exact r8.1
  obtain ⟨c1, X1, F1, A1, B1, C1, D1, E1⟩ := bc2_22_1 hu (by omega) v2 v1 v3
  obtain ⟨c2, X2, F2, A2, B2, C2, D2, E2, G2⟩ := bc3_22_1 (c := c1) (by rw [F1 _ (by decide) (by decide) (by decide) (by decide)]; exact h01)
  obtain ⟨c3, X3, F3, A3, B3⟩ := bc8_22_1 (c := c2)
  obtain ⟨c4, X4, F4, A4, B4, C4⟩ := bc4_22_1 (c := c3) (r := zR s) (by rw [F3 _ (by decide), F2 _ (by decide), F1 _ (by decide) (by decide) (by decide) (by decide)]; exact hrr) ip.2.2
  obtain ⟨c5, X5, F5, A5, B5, C5⟩ := bc5_22_1 (c := c4)
  refine ⟨mr (mr c5 41 (va_cpy (c5 20) (c5 41) 0 0 24)) 42 (va_cpy (mr c5 41 (va_cpy (c5 20) (c5 41) 0 0 24) 21) (mr c5 41 (va_cpy (c5 20) (c5 41) 0 0 24) 42) 0 0 32), fun Q hQ => ?_, ?_⟩
  · unfold wX6_become_22_1
    refine X1 _ (X2 _ (X3 _ (X4 _ (X5 _ ⟨⟨by decide, by decide, by decide, by decide, by decide⟩, fun c7 e7 => ⟨⟨by decide, by decide, by decide, by decide, by decide⟩, fun c9 e9 => ?_⟩⟩))))
    rw [e9, e7]; exact hQ
  have hf5 : ∀ i, i ≠ 41 → i ≠ 42 → mr (mr c5 41 (va_cpy (c5 20) (c5 41) 0 0 24)) 42 (va_cpy (mr c5 41 (va_cpy (c5 20) (c5 41) 0 0 24) 21) (mr c5 41 (va_cpy (c5 20) (c5 41) 0 0 24) 42) 0 0 32) i = c5 i := fun i h1 h2 => by rw [mr_n h2, mr_n h1]
  have hR : mr (mr c5 41 (va_cpy (c5 20) (c5 41) 0 0 24)) 42 (va_cpy (mr c5 41 (va_cpy (c5 20) (c5 41) 0 0 24) 21) (mr c5 41 (va_cpy (c5 20) (c5 41) 0 0 24) 42) 0 0 32) 41 = va_cpy (c5 20) (c5 41) 0 0 24 := by rw [mr_n (by decide), mr_s]
  have hS : mr (mr c5 41 (va_cpy (c5 20) (c5 41) 0 0 24)) 42 (va_cpy (mr c5 41 (va_cpy (c5 20) (c5 41) 0 0 24) 21) (mr c5 41 (va_cpy (c5 20) (c5 41) 0 0 24) 42) 0 0 32) 42 = va_cpy (c5 21) (mr c5 41 (va_cpy (c5 20) (c5 41) 0 0 24) 42) 0 0 32 := by rw [mr_s, mr_n (show (21 : Nat) ≠ 41 by decide)]
  generalize mr (mr c5 41 (va_cpy (c5 20) (c5 41) 0 0 24)) 42 (va_cpy (mr c5 41 (va_cpy (c5 20) (c5 41) 0 0 24) 21) (mr c5 41 (va_cpy (c5 20) (c5 41) 0 0 24) 42) 0 0 32) = c9 at hf5 hR hS ⊢
  have f5 : ∀ i, i < 38 ∨ 40 < i → i ≠ 41 → i ≠ 42 → c9 i = c4 i := fun i h h1 h2 => by rw [hf5 i h1 h2, F5 i h]
  have src4 : ∀ i, 1 < i → i ≤ 21 → c4 i = c i := fun i h1 h2 => by rw [F4 i (by omega), F3 i (by omega), F2 i (by omega), F1 i (by omega) (by omega) (by omega) (by omega)]
  have src3 : ∀ i, 1 < i → i ≤ 21 → c3 i = c i := fun i h1 h2 => by rw [F3 i (by omega), F2 i (by omega), F1 i (by omega) (by omega) (by omega) (by omega)]
  have src2 : ∀ i, 1 < i → i ≤ 21 → c2 i = c i := fun i h1 h2 => by rw [F2 i (by omega), F1 i (by omega) (by omega) (by omega) (by omega)]
  have src1 : ∀ i, 1 < i → i ≤ 21 → c1 i = c i := fun i h1 h2 => F1 i (by omega) (by omega) (by omega) (by omega)
  have src5 : ∀ i, 1 < i → i ≤ 21 → c5 i = c i := fun i h1 h2 => by rw [F5 i (by omega), src4 i h1 h2]
  have eid : hpE s s := ⟨hqE.rf, fun _ _ _ => rfl, fun _ _ _ => rfl⟩
  have fid : mkE s s := ⟨fun _ _ => rfl, fun _ _ _ => rfl, fun _ _ _ _ _ => rfl⟩
  have k1 : c9 23 = c1 23 := by rw [f5 _ (by decide) (by decide) (by decide), F4 _ (by decide), F3 _ (by decide), F2 _ (by decide)]
  have k2 : c9 24 = c1 24 := by rw [f5 _ (by decide) (by decide) (by decide), F4 _ (by decide), F3 _ (by decide), F2 _ (by decide)]
  have k3 : c9 25 = c1 25 := by rw [f5 _ (by decide) (by decide) (by decide), F4 _ (by decide), F3 _ (by decide), F2 _ (by decide)]
  have k4 : c9 26 = c1 26 := by rw [f5 _ (by decide) (by decide) (by decide), F4 _ (by decide), F3 _ (by decide), F2 _ (by decide)]
  have m5 : ∀ i, 27 ≤ i → i ≤ 32 → c9 i = c2 i := fun i h1 h2 => by rw [f5 i (by omega) (by omega) (by omega), F4 i (by omega), F3 i (by omega)]
  have n5 : ∀ i, 33 ≤ i → i ≤ 34 → c9 i = c3 i := fun i h1 h2 => by rw [f5 i (by omega) (by omega) (by omega), F4 i (by omega)]
  have o5 : ∀ i, 35 ≤ i → i ≤ 37 → c9 i = c4 i := fun i h1 h2 => f5 i (by omega) (by omega) (by omega)
  refine ⟨fun i hi => ?_, ⟨?_, ?_, ?_, ?_, ?_, ?_, ?_, ?_, ?_, ?_⟩, zU s, by omega, ?_, fun k h1 h2 => ?_⟩
  · rw [f5 i (by omega) (by omega) (by omega), F4 i (by omega), F3 i (by omega), F2 i (by omega), F1 i (by omega) (by omega) (by omega) (by omega)]
  · exact rH_cong (b := 1) eid.1 (fun k hk => by show c9 23 k = c 2 k; rw [k1, A1 k hk]) r1
  · refine ⟨fun k hk => ?_, fun k h1 h2 => ?_⟩
    · show c9 24 k = _
      rw [k2, B1 k hk]; exact r2.1 k hk
    · show c9 24 k = _
      rw [k2, C1 k h1 h2]
  · exact rC_cong (b := 1) eid.1 a5 (fun k hk => by show c9 25 k = c 4 k; rw [k3, D1 k hk]) (fun k hk => by show c9 26 k = c 5 k; rw [k4, E1 k hk]) r3
  · exact rM_cong (b := 1) fid hmk a5 (fun k hk => by show c9 27 k = c 6 k; rw [m5 _ (by decide) (by decide), A2 k hk, src1 _ (by decide) (by decide)]) r4
  · exact rO_cong (b := 1) fid hmk a5 (fun k hk => by show c9 28 k = c 7 k; rw [m5 _ (by decide) (by decide), B2 k hk, src1 _ (by decide) (by decide)]) (fun k hk => by show c9 30 k = c 9 k; rw [m5 _ (by decide) (by decide), D2 k hk, src1 _ (by decide) (by decide)]) (fun k hk => by show c9 31 k = c 10 k; rw [m5 _ (by decide) (by decide), E2 k hk, src1 _ (by decide) (by decide)]) (fun k hk => by show c9 32 k = c 11 k; rw [m5 _ (by decide) (by decide), G2 k hk, src1 _ (by decide) (by decide)]) r5
  · exact rK_cong (b := 1) fid rfl a5 (fun k hk => by show c9 29 k = c 8 k; rw [m5 _ (by decide) (by decide), C2 k hk, src1 _ (by decide) (by decide)]) r6
  · exact rT_cong (b := 1) ⟨fun _ _ _ => rfl, fun _ _ _ => rfl⟩ (fun k hk => by show c9 33 k = c 12 k; rw [n5 _ (by decide) (by decide), A3 k hk, src2 _ (by decide) (by decide)]) (fun k hk => by show c9 34 k = c 13 k; rw [n5 _ (by decide) (by decide), B3 k hk, src2 _ (by decide) (by decide)]) r7
  · exact rP_cong (b := 1) ⟨rfl, fun _ _ => ⟨rfl, rfl⟩⟩ (by show c9 35 0 = c 14 0; rw [o5 _ (by decide) (by decide), A4, src3 _ (by decide) (by decide)]) (fun k hk => by show c9 36 k = c 15 k; rw [o5 _ (by decide) (by decide), B4 k hk, src3 _ (by decide) (by decide)]) (fun k hk => by show c9 37 k = c 16 k; rw [o5 _ (by decide) (by decide), C4 k hk, src3 _ (by decide) (by decide)]) r8
  · exact rG_cong (b := 1) ⟨fun _ _ _ => rfl, fun _ _ _ => rfl, fun _ _ _ => rfl⟩ ig (fun k hk => by show c9 38 k = c 17 k; rw [hf5 _ (by decide) (by decide), A5 k hk, src4 _ (by decide) (by decide)]) (fun k hk => by show c9 39 k = c 18 k; rw [hf5 _ (by decide) (by decide), B5 k hk, src4 _ (by decide) (by decide)]) (fun k hk => by show c9 40 k = c 19 k; rw [hf5 _ (by decide) (by decide), C5 k hk, src4 _ (by decide) (by decide)]) r9
  · exact rR_cong (b := 1) (fun _ _ _ => rfl) (fun k hk => by show c9 41 k = c 20 k; rw [hR, cpy_in hk, src5 _ (by decide) (by decide)]) (fun k hk => by show c9 42 k = c 21 k; rw [hS, cpy_in hk, src5 _ (by decide) (by decide)]) r10
  · show c9 23 1 = _
    rw [k1, A1 1 (by decide)]; exact hu
  · show c9 24 k = _
    rw [k2, C1 k h1 h2]
theorem bc2_1_22 {u v : Nat} (hu : c 23 1 = nI u) (hu4 : u ≤ 4000) (hv : c 2 1 = nI v) (hv4 : v ≤ 4000) (hz : ∀ k, v ≤ k → k < 4000 → c 3 k = 0) : ∃ c', Dv (wX2_copyFrom_2_23 c) c' ∧ (∀ i, i ≠ 2 → i ≠ 3 → i ≠ 4 → i ≠ 5 → c' i = c i) ∧ (∀ k, k < 4 → c' 2 k = c 23 k) ∧ (∀ k, k < u → c' 3 k = c 24 k) ∧ (∀ k, u ≤ k → k < 4000 → c' 3 k = 0) ∧ (∀ k, k < 500 → c' 4 k = c 25 k) ∧ ∀ k, k < 500 → c' 5 k = c 26 k := by
  have key : ∀ d : gMem, (∀ i, i ≠ 3 → d i = c i) → (∀ k, u ≤ k → k < 4000 → d 3 k = 0) → ∃ c', Dv (wX2_copyFrom_2_23_p27 d) c' ∧ (∀ i, i ≠ 2 → i ≠ 3 → i ≠ 4 → i ≠ 5 → c' i = c i) ∧ (∀ k, k < 4 → c' 2 k = c 23 k) ∧ (∀ k, k < u → c' 3 k = c 24 k) ∧ (∀ k, u ≤ k → k < 4000 → c' 3 k = 0) ∧ (∀ k, k < 500 → c' 4 k = c 25 k) ∧ ∀ k, k < 500 → c' 5 k = c 26 k := by
    intro d hd hz2
    apply Exists.intro
    apply And.intro
    · intro Q hQ
      unfold wX2_copyFrom_2_23_p27
      simp only [forall_eq]
      rw [hd 23 (by decide), hu, nI_clamp (by omega)]
      refine ⟨⟨by decide, by decide, nI_pos (by omega), by omega, by omega⟩, ⟨by decide, by decide, by decide, by decide, by decide⟩, ⟨by decide, by decide, by decide, by decide, by decide⟩, ?_⟩
      exact hQ
    · refine ⟨fun i h1 h2 h3 h4 => ?_, fun k hk => ?_, fun k hk => ?_, fun k h1 h2 => ?_, fun k hk => ?_, fun k hk => ?_⟩
      · rw [mp_n h1, mp_n h1, mp_n h1, mp_n h1, mr_n h4, mr_n h3, mr_n h2, hd i h2]
      · rcases (by omega : k = 0 ∨ k = 1 ∨ k = 2 ∨ k = 3) with rfl | rfl | rfl | rfl
        · simp [mp_s, mp_n, mr_n, up_s, up_n, hd 23 (by decide)]
        · simp [mp_s, mp_n, mr_n, up_s, up_n, hd 23 (by decide)]
        · simp [mp_s, mp_n, mr_n, up_s, up_n, hd 23 (by decide)]
        · simp [mp_s, mp_n, mr_n, up_s, up_n, hd 23 (by decide)]
      · rw [mp_n (by decide), mp_n (by decide), mp_n (by decide), mp_n (by decide), mr_n (by decide), mr_n (by decide), mr_s, cpy_in hk, hd 24 (by decide)]
      · rw [mp_n (by decide), mp_n (by decide), mp_n (by decide), mp_n (by decide), mr_n (by decide), mr_n (by decide), mr_s, cpy_out h1, hz2 k h1 h2]
      · rw [mp_n (by decide), mp_n (by decide), mp_n (by decide), mp_n (by decide), mr_n (by decide), mr_s, cpy_in hk, mr_n (by decide), hd 25 (by decide)]
      · rw [mp_n (by decide), mp_n (by decide), mp_n (by decide), mp_n (by decide), mr_s, cpy_in hk, mr_n (by decide), mr_n (by decide), hd 26 (by decide)]
  by_cases hvu : v ≤ u
  · obtain ⟨c', X, r⟩ := key c (fun _ _ => rfl) (fun k h1 h2 => hz k (by omega) h2)
    refine ⟨c', fun Q hQ => ?_, r⟩
    unfold wX2_copyFrom_2_23
    simp only [forall_eq, hu, hv, nI_le hvu (show u < 2 ^ 31 by omega), true_implies, not_true_eq_false, not_false_eq_true, false_implies, true_and, and_true]
    exact X Q hQ
  · obtain ⟨c', X, r⟩ := key (mr c 3 (fun j => if u ≤ j ∧ j < v then 0 else c 3 j)) (fun i hi => mr_n hi) (fun k h1 h2 => by
      rw [mr_s]
      by_cases hk : k < v
      · rw [if_pos ⟨h1, hk⟩]
      · rw [if_neg (by omega)]; exact hz k (by omega) h2)
    refine ⟨c', fun Q hQ => ?_, r⟩
    unfold wX2_copyFrom_2_23
    simp only [forall_eq, hu, hv, nI_ge (show u < v by omega) (show v < 2 ^ 31 by omega), true_implies, not_true_eq_false, not_false_eq_true, false_implies, true_and, and_true]
    exact ⟨u, v, rfl, rfl, by omega, hv4, X Q hQ⟩
theorem bc3_1_22 (h01 : c 27 0 = 0 ∨ c 27 0 = 1) : ∃ c', Dv (wX3_copyFrom_6_27 c) c' ∧ (∀ i, i < 6 ∨ 11 < i → c' i = c i) ∧ (∀ k, k < 4 → c' 6 k = c 27 k) ∧ (∀ k, k < 500 → c' 7 k = c 28 k) ∧ (∀ k, k < 500 → c' 8 k = c 29 k) ∧ (∀ k, k < 500 → c' 9 k = c 30 k) ∧ (∀ k, k < 500 → c' 10 k = c 31 k) ∧ (∀ k, k < 500 → c' 11 k = c 32 k) := by
  apply Exists.intro
  apply And.intro
  · intro Q hQ
    unfold wX3_copyFrom_6_27
    simp only [forall_eq]
    refine ⟨h01, ⟨by decide, by decide, by decide, by decide, by decide⟩, ⟨by decide, by decide, by decide, by decide, by decide⟩, ⟨by decide, by decide, by decide, by decide, by decide⟩, ⟨by decide, by decide, by decide, by decide, by decide⟩, ⟨by decide, by decide, by decide, by decide, by decide⟩, ?_⟩
    exact hQ
  · refine ⟨fun i hi => ?_, fun k hk => ?_, fun k hk => ?_, fun k hk => ?_, fun k hk => ?_, fun k hk => ?_, fun k hk => ?_⟩
    · rw [mr_n (by omega), mr_n (by omega), mr_n (by omega), mr_n (by omega), mr_n (by omega), mp_n (by omega), mp_n (by omega), mp_n (by omega), mp_n (by omega)]
    · rcases (by omega : k = 0 ∨ k = 1 ∨ k = 2 ∨ k = 3) with rfl | rfl | rfl | rfl <;> simp [mp_s, mp_n, mr_n, up_s, up_n]
    · simp [mp_n, mr_n, mr_s, cpy_in hk]
    · simp [mp_n, mr_n, mr_s, cpy_in hk]
    · simp [mp_n, mr_n, mr_s, cpy_in hk]
    · simp [mp_n, mr_n, mr_s, cpy_in hk]
    · simp [mp_n, mr_n, mr_s, cpy_in hk]
theorem bc8_1_22 : ∃ c', Dv (wX8_copyFrom_12_33 c) c' ∧ (∀ i, i < 12 ∨ 13 < i → c' i = c i) ∧ (∀ k, k < 6 → c' 12 k = c 33 k) ∧ ∀ k, k < 300 → c' 13 k = c 34 k := by
  apply Exists.intro
  apply And.intro
  · intro Q hQ
    unfold wX8_copyFrom_12_33
    simp only [forall_eq]
    refine ⟨⟨by decide, by decide, by decide, by decide, by decide⟩, ?_⟩
    exact hQ
  · refine ⟨fun i hi => ?_, fun k hk => ?_, fun k hk => ?_⟩
    · rw [mr_n (by omega), mp_n (by omega), mp_n (by omega), mp_n (by omega), mp_n (by omega), mp_n (by omega), mp_n (by omega)]
    · rcases (by omega : k = 0 ∨ k = 1 ∨ k = 2 ∨ k = 3 ∨ k = 4 ∨ k = 5) with rfl | rfl | rfl | rfl | rfl | rfl <;> simp [mp_s, mp_n, mr_n, up_s, up_n]
    · simp [mp_n, mr_n, mr_s, cpy_in hk]
theorem bc4_1_22 {r : Nat} (hr : c 35 0 = nI r) (hr6 : r ≤ 6527) : ∃ c', Dv (wX4_copyFrom_14_35 c) c' ∧ (∀ i, i < 14 ∨ 16 < i → c' i = c i) ∧ c' 14 0 = c 35 0 ∧ (∀ k, k < r → c' 15 k = c 36 k) ∧ ∀ k, k < r → c' 16 k = c 37 k := by
  apply Exists.intro
  apply And.intro
  · intro Q hQ
    unfold wX4_copyFrom_14_35
    simp only [forall_eq, mp_s, up_s, mr_n (show (14 : Nat) ≠ 15 by decide), hr, nI_clamp (show r < 2 ^ 31 by omega)]
    refine ⟨⟨by decide, by decide, nI_pos (by omega), by omega, by omega⟩, ⟨by decide, by decide, nI_pos (by omega), by omega, by omega⟩, ?_⟩
    exact hQ
  · refine ⟨fun i hi => ?_, ?_, fun k hk => ?_, fun k hk => ?_⟩
    · rw [mr_n (by omega), mr_n (by omega), mp_n (by omega)]
    · simp [mp_s, mp_n, mr_n, up_s, up_n, hr]
    · simp [mp_n, mr_n, mr_s, cpy_in hk]
    · simp [mp_n, mr_n, mr_s, cpy_in hk]
theorem bc5_1_22 : ∃ c', Dv (wX5_copyFrom_17_38 c) c' ∧ (∀ i, i < 17 ∨ 19 < i → c' i = c i) ∧ (∀ k, k < 4 → c' 17 k = c 38 k) ∧ (∀ k, k < 200 → c' 18 k = c 39 k) ∧ ∀ k, k < 8 → c' 19 k = c 40 k := by
  apply Exists.intro
  apply And.intro
  · intro Q hQ
    unfold wX5_copyFrom_17_38
    simp only [forall_eq]
    refine ⟨⟨by decide, by decide, by decide, by decide, by decide⟩, ⟨by decide, by decide, by decide, by decide, by decide⟩, ?_⟩
    exact hQ
  · refine ⟨fun i hi => ?_, fun k hk => ?_, fun k hk => ?_, fun k hk => ?_⟩
    · rw [mr_n (by omega), mr_n (by omega), mp_n (by omega), mp_n (by omega), mp_n (by omega), mp_n (by omega)]
    · rcases (by omega : k = 0 ∨ k = 1 ∨ k = 2 ∨ k = 3) with rfl | rfl | rfl | rfl <;> simp [mp_s, mp_n, mr_n, up_s, up_n]
    · simp [mp_n, mr_n, mr_s, cpy_in hk]
    · simp [mp_n, mr_n, mr_s, cpy_in hk]
theorem bcm_1_22 (hr : aSR 22 c s) (h0 : aS0 T s) (hci : aCI 1 c) : ∃ c', Dv (wX6_become_1_22 c) c' ∧ bcm 1 22 c c' s := by
  obtain ⟨hp, hmk, it, ip, ig⟩ := h0
  obtain ⟨a1, a2, a3, a4, a5, a6, a7, a8, a9⟩ := id hp.1
  obtain ⟨r1, r2, r3, r4, r5, r6, r7, r8, r9, r10⟩ := hr
  obtain ⟨v, v1, v2, v3⟩ := hci
  have hu : c 23 1 = nI (zU s) := by rw [← a6]; exact r1.2.1
  have h01 : c 27 0 = 0 ∨ c 27 0 = 1 := by rw [show c 27 0 = s 3 from r4.1]; exact hmk.1.1
  have hrr : c 35 0 = nI (zR s) := by rw [← ip.1]; exact r8.1
  obtain ⟨c1, X1, F1, A1, B1, C1, D1, E1⟩ := bc2_1_22 hu (by omega) v2 v1 v3
  obtain ⟨c2, X2, F2, A2, B2, C2, D2, E2, G2⟩ := bc3_1_22 (c := c1) (by rw [F1 _ (by decide) (by decide) (by decide) (by decide)]; exact h01)
  obtain ⟨c3, X3, F3, A3, B3⟩ := bc8_1_22 (c := c2)
  obtain ⟨c4, X4, F4, A4, B4, C4⟩ := bc4_1_22 (c := c3) (r := zR s) (by rw [F3 _ (by decide), F2 _ (by decide), F1 _ (by decide) (by decide) (by decide) (by decide)]; exact hrr) ip.2.2
  obtain ⟨c5, X5, F5, A5, B5, C5⟩ := bc5_1_22 (c := c4)
  refine ⟨mr (mr c5 20 (va_cpy (c5 41) (c5 20) 0 0 24)) 21 (va_cpy (mr c5 20 (va_cpy (c5 41) (c5 20) 0 0 24) 42) (mr c5 20 (va_cpy (c5 41) (c5 20) 0 0 24) 21) 0 0 32), fun Q hQ => ?_, ?_⟩
  · unfold wX6_become_1_22
    refine X1 _ (X2 _ (X3 _ (X4 _ (X5 _ ⟨⟨by decide, by decide, by decide, by decide, by decide⟩, fun c7 e7 => ⟨⟨by decide, by decide, by decide, by decide, by decide⟩, fun c9 e9 => ?_⟩⟩))))
    rw [e9, e7]; exact hQ
  have hf5 : ∀ i, i ≠ 20 → i ≠ 21 → mr (mr c5 20 (va_cpy (c5 41) (c5 20) 0 0 24)) 21 (va_cpy (mr c5 20 (va_cpy (c5 41) (c5 20) 0 0 24) 42) (mr c5 20 (va_cpy (c5 41) (c5 20) 0 0 24) 21) 0 0 32) i = c5 i := fun i h1 h2 => by rw [mr_n h2, mr_n h1]
  have hR : mr (mr c5 20 (va_cpy (c5 41) (c5 20) 0 0 24)) 21 (va_cpy (mr c5 20 (va_cpy (c5 41) (c5 20) 0 0 24) 42) (mr c5 20 (va_cpy (c5 41) (c5 20) 0 0 24) 21) 0 0 32) 20 = va_cpy (c5 41) (c5 20) 0 0 24 := by rw [mr_n (by decide), mr_s]
  have hS : mr (mr c5 20 (va_cpy (c5 41) (c5 20) 0 0 24)) 21 (va_cpy (mr c5 20 (va_cpy (c5 41) (c5 20) 0 0 24) 42) (mr c5 20 (va_cpy (c5 41) (c5 20) 0 0 24) 21) 0 0 32) 21 = va_cpy (c5 42) (mr c5 20 (va_cpy (c5 41) (c5 20) 0 0 24) 21) 0 0 32 := by rw [mr_s, mr_n (show (42 : Nat) ≠ 20 by decide)]
  generalize mr (mr c5 20 (va_cpy (c5 41) (c5 20) 0 0 24)) 21 (va_cpy (mr c5 20 (va_cpy (c5 41) (c5 20) 0 0 24) 42) (mr c5 20 (va_cpy (c5 41) (c5 20) 0 0 24) 21) 0 0 32) = c9 at hf5 hR hS ⊢
  have f5 : ∀ i, i < 17 ∨ 19 < i → i ≠ 20 → i ≠ 21 → c9 i = c4 i := fun i h h1 h2 => by rw [hf5 i h1 h2, F5 i h]
  have src4 : ∀ i, 22 < i → i ≤ 42 → c4 i = c i := fun i h1 h2 => by rw [F4 i (by omega), F3 i (by omega), F2 i (by omega), F1 i (by omega) (by omega) (by omega) (by omega)]
  have src3 : ∀ i, 22 < i → i ≤ 42 → c3 i = c i := fun i h1 h2 => by rw [F3 i (by omega), F2 i (by omega), F1 i (by omega) (by omega) (by omega) (by omega)]
  have src2 : ∀ i, 22 < i → i ≤ 42 → c2 i = c i := fun i h1 h2 => by rw [F2 i (by omega), F1 i (by omega) (by omega) (by omega) (by omega)]
  have src1 : ∀ i, 22 < i → i ≤ 42 → c1 i = c i := fun i h1 h2 => F1 i (by omega) (by omega) (by omega) (by omega)
  have src5 : ∀ i, 22 < i → i ≤ 42 → c5 i = c i := fun i h1 h2 => by rw [F5 i (by omega), src4 i h1 h2]
  have eid : hpE s s := ⟨hqE.rf, fun _ _ _ => rfl, fun _ _ _ => rfl⟩
  have fid : mkE s s := ⟨fun _ _ => rfl, fun _ _ _ => rfl, fun _ _ _ _ _ => rfl⟩
  have k1 : c9 2 = c1 2 := by rw [f5 _ (by decide) (by decide) (by decide), F4 _ (by decide), F3 _ (by decide), F2 _ (by decide)]
  have k2 : c9 3 = c1 3 := by rw [f5 _ (by decide) (by decide) (by decide), F4 _ (by decide), F3 _ (by decide), F2 _ (by decide)]
  have k3 : c9 4 = c1 4 := by rw [f5 _ (by decide) (by decide) (by decide), F4 _ (by decide), F3 _ (by decide), F2 _ (by decide)]
  have k4 : c9 5 = c1 5 := by rw [f5 _ (by decide) (by decide) (by decide), F4 _ (by decide), F3 _ (by decide), F2 _ (by decide)]
  have m5 : ∀ i, 6 ≤ i → i ≤ 11 → c9 i = c2 i := fun i h1 h2 => by rw [f5 i (by omega) (by omega) (by omega), F4 i (by omega), F3 i (by omega)]
  have n5 : ∀ i, 12 ≤ i → i ≤ 13 → c9 i = c3 i := fun i h1 h2 => by rw [f5 i (by omega) (by omega) (by omega), F4 i (by omega)]
  have o5 : ∀ i, 14 ≤ i → i ≤ 16 → c9 i = c4 i := fun i h1 h2 => f5 i (by omega) (by omega) (by omega)
  refine ⟨fun i hi => ?_, ⟨?_, ?_, ?_, ?_, ?_, ?_, ?_, ?_, ?_, ?_⟩, zU s, by omega, ?_, fun k h1 h2 => ?_⟩
  · rw [f5 i (by omega) (by omega) (by omega), F4 i (by omega), F3 i (by omega), F2 i (by omega), F1 i (by omega) (by omega) (by omega) (by omega)]
  · exact rH_cong (b := 22) eid.1 (fun k hk => by show c9 2 k = c 23 k; rw [k1, A1 k hk]) r1
  · refine ⟨fun k hk => ?_, fun k h1 h2 => ?_⟩
    · show c9 3 k = _
      rw [k2, B1 k hk]; exact r2.1 k hk
    · show c9 3 k = _
      rw [k2, C1 k h1 h2]
  · exact rC_cong (b := 22) eid.1 a5 (fun k hk => by show c9 4 k = c 25 k; rw [k3, D1 k hk]) (fun k hk => by show c9 5 k = c 26 k; rw [k4, E1 k hk]) r3
  · exact rM_cong (b := 22) fid hmk a5 (fun k hk => by show c9 6 k = c 27 k; rw [m5 _ (by decide) (by decide), A2 k hk, src1 _ (by decide) (by decide)]) r4
  · exact rO_cong (b := 22) fid hmk a5 (fun k hk => by show c9 7 k = c 28 k; rw [m5 _ (by decide) (by decide), B2 k hk, src1 _ (by decide) (by decide)]) (fun k hk => by show c9 9 k = c 30 k; rw [m5 _ (by decide) (by decide), D2 k hk, src1 _ (by decide) (by decide)]) (fun k hk => by show c9 10 k = c 31 k; rw [m5 _ (by decide) (by decide), E2 k hk, src1 _ (by decide) (by decide)]) (fun k hk => by show c9 11 k = c 32 k; rw [m5 _ (by decide) (by decide), G2 k hk, src1 _ (by decide) (by decide)]) r5
  · exact rK_cong (b := 22) fid rfl a5 (fun k hk => by show c9 8 k = c 29 k; rw [m5 _ (by decide) (by decide), C2 k hk, src1 _ (by decide) (by decide)]) r6
  · exact rT_cong (b := 22) ⟨fun _ _ _ => rfl, fun _ _ _ => rfl⟩ (fun k hk => by show c9 12 k = c 33 k; rw [n5 _ (by decide) (by decide), A3 k hk, src2 _ (by decide) (by decide)]) (fun k hk => by show c9 13 k = c 34 k; rw [n5 _ (by decide) (by decide), B3 k hk, src2 _ (by decide) (by decide)]) r7
  · exact rP_cong (b := 22) ⟨rfl, fun _ _ => ⟨rfl, rfl⟩⟩ (by show c9 14 0 = c 35 0; rw [o5 _ (by decide) (by decide), A4, src3 _ (by decide) (by decide)]) (fun k hk => by show c9 15 k = c 36 k; rw [o5 _ (by decide) (by decide), B4 k hk, src3 _ (by decide) (by decide)]) (fun k hk => by show c9 16 k = c 37 k; rw [o5 _ (by decide) (by decide), C4 k hk, src3 _ (by decide) (by decide)]) r8
  · exact rG_cong (b := 22) ⟨fun _ _ _ => rfl, fun _ _ _ => rfl, fun _ _ _ => rfl⟩ ig (fun k hk => by show c9 17 k = c 38 k; rw [hf5 _ (by decide) (by decide), A5 k hk, src4 _ (by decide) (by decide)]) (fun k hk => by show c9 18 k = c 39 k; rw [hf5 _ (by decide) (by decide), B5 k hk, src4 _ (by decide) (by decide)]) (fun k hk => by show c9 19 k = c 40 k; rw [hf5 _ (by decide) (by decide), C5 k hk, src4 _ (by decide) (by decide)]) r9
  · exact rR_cong (b := 22) (fun _ _ _ => rfl) (fun k hk => by show c9 20 k = c 41 k; rw [hR, cpy_in hk, src5 _ (by decide) (by decide)]) (fun k hk => by show c9 21 k = c 42 k; rw [hS, cpy_in hk, src5 _ (by decide) (by decide)]) r10
  · show c9 2 1 = _
    rw [k1, A1 1 (by decide)]; exact hu
  · show c9 3 k = _
    rw [k2, C1 k h1 h2]
theorem bc2_1_43 {u v : Nat} (hu : c 44 1 = nI u) (hu4 : u ≤ 4000) (hv : c 2 1 = nI v) (hv4 : v ≤ 4000) (hz : ∀ k, v ≤ k → k < 4000 → c 3 k = 0) : ∃ c', Dv (wX2_copyFrom_2_44 c) c' ∧ (∀ i, i ≠ 2 → i ≠ 3 → i ≠ 4 → i ≠ 5 → c' i = c i) ∧ (∀ k, k < 4 → c' 2 k = c 44 k) ∧ (∀ k, k < u → c' 3 k = c 45 k) ∧ (∀ k, u ≤ k → k < 4000 → c' 3 k = 0) ∧ (∀ k, k < 500 → c' 4 k = c 46 k) ∧ ∀ k, k < 500 → c' 5 k = c 47 k := by
  have key : ∀ d : gMem, (∀ i, i ≠ 3 → d i = c i) → (∀ k, u ≤ k → k < 4000 → d 3 k = 0) → ∃ c', Dv (wX2_copyFrom_2_44_p27 d) c' ∧ (∀ i, i ≠ 2 → i ≠ 3 → i ≠ 4 → i ≠ 5 → c' i = c i) ∧ (∀ k, k < 4 → c' 2 k = c 44 k) ∧ (∀ k, k < u → c' 3 k = c 45 k) ∧ (∀ k, u ≤ k → k < 4000 → c' 3 k = 0) ∧ (∀ k, k < 500 → c' 4 k = c 46 k) ∧ ∀ k, k < 500 → c' 5 k = c 47 k := by
    intro d hd hz2
    apply Exists.intro
    apply And.intro
    · intro Q hQ
      unfold wX2_copyFrom_2_44_p27
      simp only [forall_eq]
      rw [hd 44 (by decide), hu, nI_clamp (by omega)]
      refine ⟨⟨by decide, by decide, nI_pos (by omega), by omega, by omega⟩, ⟨by decide, by decide, by decide, by decide, by decide⟩, ⟨by decide, by decide, by decide, by decide, by decide⟩, ?_⟩
      exact hQ
    · refine ⟨fun i h1 h2 h3 h4 => ?_, fun k hk => ?_, fun k hk => ?_, fun k h1 h2 => ?_, fun k hk => ?_, fun k hk => ?_⟩
      · rw [mp_n h1, mp_n h1, mp_n h1, mp_n h1, mr_n h4, mr_n h3, mr_n h2, hd i h2]
      · rcases (by omega : k = 0 ∨ k = 1 ∨ k = 2 ∨ k = 3) with rfl | rfl | rfl | rfl
        · simp [mp_s, mp_n, mr_n, up_s, up_n, hd 44 (by decide)]
        · simp [mp_s, mp_n, mr_n, up_s, up_n, hd 44 (by decide)]
        · simp [mp_s, mp_n, mr_n, up_s, up_n, hd 44 (by decide)]
        · simp [mp_s, mp_n, mr_n, up_s, up_n, hd 44 (by decide)]
      · rw [mp_n (by decide), mp_n (by decide), mp_n (by decide), mp_n (by decide), mr_n (by decide), mr_n (by decide), mr_s, cpy_in hk, hd 45 (by decide)]
      · rw [mp_n (by decide), mp_n (by decide), mp_n (by decide), mp_n (by decide), mr_n (by decide), mr_n (by decide), mr_s, cpy_out h1, hz2 k h1 h2]
      · rw [mp_n (by decide), mp_n (by decide), mp_n (by decide), mp_n (by decide), mr_n (by decide), mr_s, cpy_in hk, mr_n (by decide), hd 46 (by decide)]
      · rw [mp_n (by decide), mp_n (by decide), mp_n (by decide), mp_n (by decide), mr_s, cpy_in hk, mr_n (by decide), mr_n (by decide), hd 47 (by decide)]
  by_cases hvu : v ≤ u
  · obtain ⟨c', X, r⟩ := key c (fun _ _ => rfl) (fun k h1 h2 => hz k (by omega) h2)
    refine ⟨c', fun Q hQ => ?_, r⟩
    unfold wX2_copyFrom_2_44
    simp only [forall_eq, hu, hv, nI_le hvu (show u < 2 ^ 31 by omega), true_implies, not_true_eq_false, not_false_eq_true, false_implies, true_and, and_true]
    exact X Q hQ
  · obtain ⟨c', X, r⟩ := key (mr c 3 (fun j => if u ≤ j ∧ j < v then 0 else c 3 j)) (fun i hi => mr_n hi) (fun k h1 h2 => by
      rw [mr_s]
      by_cases hk : k < v
      · rw [if_pos ⟨h1, hk⟩]
      · rw [if_neg (by omega)]; exact hz k (by omega) h2)
    refine ⟨c', fun Q hQ => ?_, r⟩
    unfold wX2_copyFrom_2_44
    simp only [forall_eq, hu, hv, nI_ge (show u < v by omega) (show v < 2 ^ 31 by omega), true_implies, not_true_eq_false, not_false_eq_true, false_implies, true_and, and_true]
    exact ⟨u, v, rfl, rfl, by omega, hv4, X Q hQ⟩
theorem bc3_1_43 (h01 : c 48 0 = 0 ∨ c 48 0 = 1) : ∃ c', Dv (wX3_copyFrom_6_48 c) c' ∧ (∀ i, i < 6 ∨ 11 < i → c' i = c i) ∧ (∀ k, k < 4 → c' 6 k = c 48 k) ∧ (∀ k, k < 500 → c' 7 k = c 49 k) ∧ (∀ k, k < 500 → c' 8 k = c 50 k) ∧ (∀ k, k < 500 → c' 9 k = c 51 k) ∧ (∀ k, k < 500 → c' 10 k = c 52 k) ∧ (∀ k, k < 500 → c' 11 k = c 53 k) := by
  apply Exists.intro
  apply And.intro
  · intro Q hQ
    unfold wX3_copyFrom_6_48
    simp only [forall_eq]
    refine ⟨h01, ⟨by decide, by decide, by decide, by decide, by decide⟩, ⟨by decide, by decide, by decide, by decide, by decide⟩, ⟨by decide, by decide, by decide, by decide, by decide⟩, ⟨by decide, by decide, by decide, by decide, by decide⟩, ⟨by decide, by decide, by decide, by decide, by decide⟩, ?_⟩
    exact hQ
  · refine ⟨fun i hi => ?_, fun k hk => ?_, fun k hk => ?_, fun k hk => ?_, fun k hk => ?_, fun k hk => ?_, fun k hk => ?_⟩
    · rw [mr_n (by omega), mr_n (by omega), mr_n (by omega), mr_n (by omega), mr_n (by omega), mp_n (by omega), mp_n (by omega), mp_n (by omega), mp_n (by omega)]
    · rcases (by omega : k = 0 ∨ k = 1 ∨ k = 2 ∨ k = 3) with rfl | rfl | rfl | rfl <;> simp [mp_s, mp_n, mr_n, up_s, up_n]
    · simp [mp_n, mr_n, mr_s, cpy_in hk]
    · simp [mp_n, mr_n, mr_s, cpy_in hk]
    · simp [mp_n, mr_n, mr_s, cpy_in hk]
    · simp [mp_n, mr_n, mr_s, cpy_in hk]
    · simp [mp_n, mr_n, mr_s, cpy_in hk]
theorem bc8_1_43 : ∃ c', Dv (wX8_copyFrom_12_54 c) c' ∧ (∀ i, i < 12 ∨ 13 < i → c' i = c i) ∧ (∀ k, k < 6 → c' 12 k = c 54 k) ∧ ∀ k, k < 300 → c' 13 k = c 55 k := by
  apply Exists.intro
  apply And.intro
  · intro Q hQ
    unfold wX8_copyFrom_12_54
    simp only [forall_eq]
    refine ⟨⟨by decide, by decide, by decide, by decide, by decide⟩, ?_⟩
    exact hQ
  · refine ⟨fun i hi => ?_, fun k hk => ?_, fun k hk => ?_⟩
    · rw [mr_n (by omega), mp_n (by omega), mp_n (by omega), mp_n (by omega), mp_n (by omega), mp_n (by omega), mp_n (by omega)]
    · rcases (by omega : k = 0 ∨ k = 1 ∨ k = 2 ∨ k = 3 ∨ k = 4 ∨ k = 5) with rfl | rfl | rfl | rfl | rfl | rfl <;> simp [mp_s, mp_n, mr_n, up_s, up_n]
    · simp [mp_n, mr_n, mr_s, cpy_in hk]
theorem bc4_1_43 {r : Nat} (hr : c 56 0 = nI r) (hr6 : r ≤ 6527) : ∃ c', Dv (wX4_copyFrom_14_56 c) c' ∧ (∀ i, i < 14 ∨ 16 < i → c' i = c i) ∧ c' 14 0 = c 56 0 ∧ (∀ k, k < r → c' 15 k = c 57 k) ∧ ∀ k, k < r → c' 16 k = c 58 k := by
  apply Exists.intro
  apply And.intro
  · intro Q hQ
    unfold wX4_copyFrom_14_56
    simp only [forall_eq, mp_s, up_s, mr_n (show (14 : Nat) ≠ 15 by decide), hr, nI_clamp (show r < 2 ^ 31 by omega)]
    refine ⟨⟨by decide, by decide, nI_pos (by omega), by omega, by omega⟩, ⟨by decide, by decide, nI_pos (by omega), by omega, by omega⟩, ?_⟩
    exact hQ
  · refine ⟨fun i hi => ?_, ?_, fun k hk => ?_, fun k hk => ?_⟩
    · rw [mr_n (by omega), mr_n (by omega), mp_n (by omega)]
    · simp [mp_s, mp_n, mr_n, up_s, up_n, hr]
    · simp [mp_n, mr_n, mr_s, cpy_in hk]
    · simp [mp_n, mr_n, mr_s, cpy_in hk]
theorem bc5_1_43 : ∃ c', Dv (wX5_copyFrom_17_59 c) c' ∧ (∀ i, i < 17 ∨ 19 < i → c' i = c i) ∧ (∀ k, k < 4 → c' 17 k = c 59 k) ∧ (∀ k, k < 200 → c' 18 k = c 60 k) ∧ ∀ k, k < 8 → c' 19 k = c 61 k := by
  apply Exists.intro
  apply And.intro
  · intro Q hQ
    unfold wX5_copyFrom_17_59
    simp only [forall_eq]
    refine ⟨⟨by decide, by decide, by decide, by decide, by decide⟩, ⟨by decide, by decide, by decide, by decide, by decide⟩, ?_⟩
    exact hQ
  · refine ⟨fun i hi => ?_, fun k hk => ?_, fun k hk => ?_, fun k hk => ?_⟩
    · rw [mr_n (by omega), mr_n (by omega), mp_n (by omega), mp_n (by omega), mp_n (by omega), mp_n (by omega)]
    · rcases (by omega : k = 0 ∨ k = 1 ∨ k = 2 ∨ k = 3) with rfl | rfl | rfl | rfl <;> simp [mp_s, mp_n, mr_n, up_s, up_n]
    · simp [mp_n, mr_n, mr_s, cpy_in hk]
    · simp [mp_n, mr_n, mr_s, cpy_in hk]
theorem bcm_1_43 (hr : aSR 43 c s) (h0 : aS0 T s) (hci : aCI 1 c) : ∃ c', Dv (wX6_become_1_43 c) c' ∧ bcm 1 43 c c' s := by
  obtain ⟨hp, hmk, it, ip, ig⟩ := h0
  obtain ⟨a1, a2, a3, a4, a5, a6, a7, a8, a9⟩ := id hp.1
  obtain ⟨r1, r2, r3, r4, r5, r6, r7, r8, r9, r10⟩ := hr
  obtain ⟨v, v1, v2, v3⟩ := hci
  have hu : c 44 1 = nI (zU s) := by rw [← a6]; exact r1.2.1
  have h01 : c 48 0 = 0 ∨ c 48 0 = 1 := by rw [show c 48 0 = s 3 from r4.1]; exact hmk.1.1
  have hrr : c 56 0 = nI (zR s) := by rw [← ip.1]; exact r8.1
  obtain ⟨c1, X1, F1, A1, B1, C1, D1, E1⟩ := bc2_1_43 hu (by omega) v2 v1 v3
  obtain ⟨c2, X2, F2, A2, B2, C2, D2, E2, G2⟩ := bc3_1_43 (c := c1) (by rw [F1 _ (by decide) (by decide) (by decide) (by decide)]; exact h01)
  obtain ⟨c3, X3, F3, A3, B3⟩ := bc8_1_43 (c := c2)
  obtain ⟨c4, X4, F4, A4, B4, C4⟩ := bc4_1_43 (c := c3) (r := zR s) (by rw [F3 _ (by decide), F2 _ (by decide), F1 _ (by decide) (by decide) (by decide) (by decide)]; exact hrr) ip.2.2
  obtain ⟨c5, X5, F5, A5, B5, C5⟩ := bc5_1_43 (c := c4)
  refine ⟨mr (mr c5 20 (va_cpy (c5 62) (c5 20) 0 0 24)) 21 (va_cpy (mr c5 20 (va_cpy (c5 62) (c5 20) 0 0 24) 63) (mr c5 20 (va_cpy (c5 62) (c5 20) 0 0 24) 21) 0 0 32), fun Q hQ => ?_, ?_⟩
  · unfold wX6_become_1_43
    refine X1 _ (X2 _ (X3 _ (X4 _ (X5 _ ⟨⟨by decide, by decide, by decide, by decide, by decide⟩, fun c7 e7 => ⟨⟨by decide, by decide, by decide, by decide, by decide⟩, fun c9 e9 => ?_⟩⟩))))
    rw [e9, e7]; exact hQ
  have hf5 : ∀ i, i ≠ 20 → i ≠ 21 → mr (mr c5 20 (va_cpy (c5 62) (c5 20) 0 0 24)) 21 (va_cpy (mr c5 20 (va_cpy (c5 62) (c5 20) 0 0 24) 63) (mr c5 20 (va_cpy (c5 62) (c5 20) 0 0 24) 21) 0 0 32) i = c5 i := fun i h1 h2 => by rw [mr_n h2, mr_n h1]
  have hR : mr (mr c5 20 (va_cpy (c5 62) (c5 20) 0 0 24)) 21 (va_cpy (mr c5 20 (va_cpy (c5 62) (c5 20) 0 0 24) 63) (mr c5 20 (va_cpy (c5 62) (c5 20) 0 0 24) 21) 0 0 32) 20 = va_cpy (c5 62) (c5 20) 0 0 24 := by rw [mr_n (by decide), mr_s]
  have hS : mr (mr c5 20 (va_cpy (c5 62) (c5 20) 0 0 24)) 21 (va_cpy (mr c5 20 (va_cpy (c5 62) (c5 20) 0 0 24) 63) (mr c5 20 (va_cpy (c5 62) (c5 20) 0 0 24) 21) 0 0 32) 21 = va_cpy (c5 63) (mr c5 20 (va_cpy (c5 62) (c5 20) 0 0 24) 21) 0 0 32 := by rw [mr_s, mr_n (show (63 : Nat) ≠ 20 by decide)]
  generalize mr (mr c5 20 (va_cpy (c5 62) (c5 20) 0 0 24)) 21 (va_cpy (mr c5 20 (va_cpy (c5 62) (c5 20) 0 0 24) 63) (mr c5 20 (va_cpy (c5 62) (c5 20) 0 0 24) 21) 0 0 32) = c9 at hf5 hR hS ⊢
  have f5 : ∀ i, i < 17 ∨ 19 < i → i ≠ 20 → i ≠ 21 → c9 i = c4 i := fun i h h1 h2 => by rw [hf5 i h1 h2, F5 i h]
  have src4 : ∀ i, 43 < i → i ≤ 63 → c4 i = c i := fun i h1 h2 => by rw [F4 i (by omega), F3 i (by omega), F2 i (by omega), F1 i (by omega) (by omega) (by omega) (by omega)]
  have src3 : ∀ i, 43 < i → i ≤ 63 → c3 i = c i := fun i h1 h2 => by rw [F3 i (by omega), F2 i (by omega), F1 i (by omega) (by omega) (by omega) (by omega)]
  have src2 : ∀ i, 43 < i → i ≤ 63 → c2 i = c i := fun i h1 h2 => by rw [F2 i (by omega), F1 i (by omega) (by omega) (by omega) (by omega)]
  have src1 : ∀ i, 43 < i → i ≤ 63 → c1 i = c i := fun i h1 h2 => F1 i (by omega) (by omega) (by omega) (by omega)
  have src5 : ∀ i, 43 < i → i ≤ 63 → c5 i = c i := fun i h1 h2 => by rw [F5 i (by omega), src4 i h1 h2]
  have eid : hpE s s := ⟨hqE.rf, fun _ _ _ => rfl, fun _ _ _ => rfl⟩
  have fid : mkE s s := ⟨fun _ _ => rfl, fun _ _ _ => rfl, fun _ _ _ _ _ => rfl⟩
  have k1 : c9 2 = c1 2 := by rw [f5 _ (by decide) (by decide) (by decide), F4 _ (by decide), F3 _ (by decide), F2 _ (by decide)]
  have k2 : c9 3 = c1 3 := by rw [f5 _ (by decide) (by decide) (by decide), F4 _ (by decide), F3 _ (by decide), F2 _ (by decide)]
  have k3 : c9 4 = c1 4 := by rw [f5 _ (by decide) (by decide) (by decide), F4 _ (by decide), F3 _ (by decide), F2 _ (by decide)]
  have k4 : c9 5 = c1 5 := by rw [f5 _ (by decide) (by decide) (by decide), F4 _ (by decide), F3 _ (by decide), F2 _ (by decide)]
  have m5 : ∀ i, 6 ≤ i → i ≤ 11 → c9 i = c2 i := fun i h1 h2 => by rw [f5 i (by omega) (by omega) (by omega), F4 i (by omega), F3 i (by omega)]
  have n5 : ∀ i, 12 ≤ i → i ≤ 13 → c9 i = c3 i := fun i h1 h2 => by rw [f5 i (by omega) (by omega) (by omega), F4 i (by omega)]
  have o5 : ∀ i, 14 ≤ i → i ≤ 16 → c9 i = c4 i := fun i h1 h2 => f5 i (by omega) (by omega) (by omega)
  refine ⟨fun i hi => ?_, ⟨?_, ?_, ?_, ?_, ?_, ?_, ?_, ?_, ?_, ?_⟩, zU s, by omega, ?_, fun k h1 h2 => ?_⟩
  · rw [f5 i (by omega) (by omega) (by omega), F4 i (by omega), F3 i (by omega), F2 i (by omega), F1 i (by omega) (by omega) (by omega) (by omega)]
  · exact rH_cong (b := 43) eid.1 (fun k hk => by show c9 2 k = c 44 k; rw [k1, A1 k hk]) r1
  · refine ⟨fun k hk => ?_, fun k h1 h2 => ?_⟩
    · show c9 3 k = _
      rw [k2, B1 k hk]; exact r2.1 k hk
    · show c9 3 k = _
      rw [k2, C1 k h1 h2]
  · exact rC_cong (b := 43) eid.1 a5 (fun k hk => by show c9 4 k = c 46 k; rw [k3, D1 k hk]) (fun k hk => by show c9 5 k = c 47 k; rw [k4, E1 k hk]) r3
  · exact rM_cong (b := 43) fid hmk a5 (fun k hk => by show c9 6 k = c 48 k; rw [m5 _ (by decide) (by decide), A2 k hk, src1 _ (by decide) (by decide)]) r4
  · exact rO_cong (b := 43) fid hmk a5 (fun k hk => by show c9 7 k = c 49 k; rw [m5 _ (by decide) (by decide), B2 k hk, src1 _ (by decide) (by decide)]) (fun k hk => by show c9 9 k = c 51 k; rw [m5 _ (by decide) (by decide), D2 k hk, src1 _ (by decide) (by decide)]) (fun k hk => by show c9 10 k = c 52 k; rw [m5 _ (by decide) (by decide), E2 k hk, src1 _ (by decide) (by decide)]) (fun k hk => by show c9 11 k = c 53 k; rw [m5 _ (by decide) (by decide), G2 k hk, src1 _ (by decide) (by decide)]) r5
  · exact rK_cong (b := 43) fid rfl a5 (fun k hk => by show c9 8 k = c 50 k; rw [m5 _ (by decide) (by decide), C2 k hk, src1 _ (by decide) (by decide)]) r6
  · exact rT_cong (b := 43) ⟨fun _ _ _ => rfl, fun _ _ _ => rfl⟩ (fun k hk => by show c9 12 k = c 54 k; rw [n5 _ (by decide) (by decide), A3 k hk, src2 _ (by decide) (by decide)]) (fun k hk => by show c9 13 k = c 55 k; rw [n5 _ (by decide) (by decide), B3 k hk, src2 _ (by decide) (by decide)]) r7
  · exact rP_cong (b := 43) ⟨rfl, fun _ _ => ⟨rfl, rfl⟩⟩ (by show c9 14 0 = c 56 0; rw [o5 _ (by decide) (by decide), A4, src3 _ (by decide) (by decide)]) (fun k hk => by show c9 15 k = c 57 k; rw [o5 _ (by decide) (by decide), B4 k hk, src3 _ (by decide) (by decide)]) (fun k hk => by show c9 16 k = c 58 k; rw [o5 _ (by decide) (by decide), C4 k hk, src3 _ (by decide) (by decide)]) r8
  · exact rG_cong (b := 43) ⟨fun _ _ _ => rfl, fun _ _ _ => rfl, fun _ _ _ => rfl⟩ ig (fun k hk => by show c9 17 k = c 59 k; rw [hf5 _ (by decide) (by decide), A5 k hk, src4 _ (by decide) (by decide)]) (fun k hk => by show c9 18 k = c 60 k; rw [hf5 _ (by decide) (by decide), B5 k hk, src4 _ (by decide) (by decide)]) (fun k hk => by show c9 19 k = c 61 k; rw [hf5 _ (by decide) (by decide), C5 k hk, src4 _ (by decide) (by decide)]) r9
  · exact rR_cong (b := 43) (fun _ _ _ => rfl) (fun k hk => by show c9 20 k = c 62 k; rw [hR, cpy_in hk, src5 _ (by decide) (by decide)]) (fun k hk => by show c9 21 k = c 63 k; rw [hS, cpy_in hk, src5 _ (by decide) (by decide)]) r10
  · show c9 2 1 = _
    rw [k1, A1 1 (by decide)]; exact hu
  · show c9 3 k = _
    rw [k2, C1 k h1 h2]
end BC

/-! a cell is made -/
def nwW (k n h o : Nat) : Int32 := if o = 0 then nI (8 * h + k) else if k = 1 ∨ k = 2 ∨ k = 5 then (if o = 1 then nI n else if k ≠ 2 ∧ o < 2 + n then -1 else 0) else (if o < 3 then -1 else 0)
def adE (s s' : gS) (k n : Nat) : Prop := s' 1 = nI (zM s + 1) ∧ s' 2 = nI (aCn s (zM s) + 1) ∧ s' 16 = nI (zU s + szN k n) ∧ (s' (1100 + 10 * zM s) = 1 ∧ s' (1101 + 10 * zM s) = nI k ∧ s' (1102 + 10 * zM s) = nI (zU s) ∧ s' (1103 + 10 * zM s) = nI n ∧ s' (1104 + 10 * zM s) = 0 ∧ s' (1105 + 10 * zM s) = 0) ∧ (∀ o, o < szN k n → s' (6100 + (zU s + o)) = nwW k n (zM s) o) ∧ ∀ j, j ≠ 1 → j ≠ 2 → j ≠ 16 → ¬ (1100 + 10 * zM s ≤ j ∧ j ≤ 1105 + 10 * zM s) → ¬ (6100 + zU s ≤ j ∧ j < 6100 + zU s + szN k n) → s' j = s j
theorem nw_link {k n h i : Nat} (hk : k ≤ 5) (hi : i < lkN k n) : nwW k n h (loN k + i) = -1 := by
  rcases (by omega : k = 0 ∨ k = 1 ∨ k = 2 ∨ k = 3 ∨ k = 4 ∨ k = 5) with rfl | rfl | rfl | rfl | rfl | rfl
  · have hi : i < 2 := hi
    show nwW 0 n h (1 + i) = -1
    unfold nwW
    rw [if_neg (show ¬ 1 + i = 0 by omega), if_neg (by decide), if_pos (show 1 + i < 3 by omega)]
  · have hi : i < n := hi
    show nwW 1 n h (2 + i) = -1
    unfold nwW
    rw [if_neg (show ¬ 2 + i = 0 by omega), if_pos (by decide), if_neg (show ¬ 2 + i = 1 by omega), if_pos ⟨by decide, by omega⟩]
  · have hi : i < 0 := hi
    omega
  · have hi : i < 1 := hi
    show nwW 3 n h (1 + i) = -1
    unfold nwW
    rw [if_neg (show ¬ 1 + i = 0 by omega), if_neg (by decide), if_pos (show 1 + i < 3 by omega)]
  · have hi : i < 1 := hi
    show nwW 4 n h (1 + i) = -1
    unfold nwW
    rw [if_neg (show ¬ 1 + i = 0 by omega), if_neg (by decide), if_pos (show 1 + i < 3 by omega)]
  · have hi : i < n := hi
    show nwW 5 n h (2 + i) = -1
    unfold nwW
    rw [if_neg (show ¬ 2 + i = 0 by omega), if_pos (by decide), if_neg (show ¬ 2 + i = 1 by omega), if_pos ⟨by decide, by omega⟩]
section AD
variable {T : Nat} {c m : gMem} {s s' : gS} {k n : Nat}
theorem ad_SI (hI : aSI T s) (hk : k ≤ 5) (hn : n ≤ 300) (hM : zM s < 500) (hU : zU s + szN k n ≤ zA s) (e : adE s s' k n) : aSI T s' := by
  obtain ⟨⟨hp, hmk, it, ip, ig⟩, l1, l2⟩ := id hI
  obtain ⟨im, io, iu⟩ := id hmk
  obtain ⟨a1, a2, a3, a4, a5, a6, a7, a8, a9⟩ := id hp.1
  obtain ⟨e1, e2, e3, ⟨g0, g1, g2, g3, g4, g5⟩, ew, eo⟩ := e
  have hz2 := szN_ge (n := n) hk
  have zm : zM s' = zM s + 1 := nn_nI e1 (by omega)
  have za : zA s' = zA s := nn_cong (eo 0 (by decide) (by decide) (by decide) (by omega) (by omega))
  have zu : zU s' = zU s + szN k n := nn_nI e3 (by omega)
  have zk : zK s' = zK s := nn_cong (eo 4 (by decide) (by decide) (by decide) (by omega) (by omega))
  have zl : zL s' = zL s := nn_cong (eo 17 (by decide) (by decide) (by decide) (by omega) (by omega))
  have oc : ∀ h w, h < zM s → w < 10 → s' (1100 + w + 10 * h) = s (1100 + w + 10 * h) := fun h w hh hw => eo _ (by omega) (by omega) (by omega) (by omega) (by omega)
  have lv : ∀ h, h < zM s → (aLv s' h ↔ aLv s h) := fun h hh => by show s' _ = 1 ↔ s _ = 1; rw [show s' (1100 + 10 * h) = s (1100 + 10 * h) from oc h 0 hh (by decide)]
  have kd : ∀ h, h < zM s → aKd s' h = aKd s h := fun h hh => nn_cong (oc h 1 hh (by decide))
  have pl : ∀ h, h < zM s → aPl s' h = aPl s h := fun h hh => nn_cong (oc h 2 hh (by decide))
  have mn : ∀ h, h < zM s → aMn s' h = aMn s h := fun h hh => nn_cong (oc h 3 hh (by decide))
  have sz : ∀ h, h < zM s → aSz s' h = aSz s h := fun h hh => by unfold aSz; rw [kd h hh, mn h hh]
  have lk : ∀ h, h < zM s → aLk s' h = aLk s h := fun h hh => by unfold aLk; rw [kd h hh, mn h hh]
  have lo : ∀ h, h < zM s → aLo s' h = aLo s h := fun h hh => by unfold aLo; rw [kd h hh]
  have th : ∀ h, h < zM s → aTh s' h = aTh s h := fun h hh => nn_cong (oc h 9 hh (by decide))
  have od : ∀ q, q < 500 → aOd s' q = aOd s q := fun q hq => nn_cong (eo _ (by omega) (by omega) (by omega) (by omega) (by omega))
  have od1 : ∀ q, q < 500 → s' (600 + q) = s (600 + q) := fun q hq => eo _ (by omega) (by omega) (by omega) (by omega) (by omega)
  have w : ∀ q, q < zU s → s' (6100 + q) = s (6100 + q) := fun q hq => eo _ (by omega) (by omega) (by omega) (by omega) (by omega)
  have nk : aKd s' (zM s) = k := nn_nI g1 (by omega)
  have nm : aMn s' (zM s) = n := nn_nI g3 (by omega)
  have np : aPl s' (zM s) = zU s := nn_nI g2 (by omega)
  have nlv : aLv s' (zM s) := g0
  have ps : ∀ j, j ≤ zM s → aPs s' j = aPs s j := by
    intro j
    induction j with
    | zero => intro _; rfl
    | succ j ih =>
      intro hj
      by_cases h : aLv s j
      · rw [aPs_lv h, aPs_lv ((lv j (by omega)).mpr h), ih (by omega), sz j (by omega)]
      · rw [aPs_dead h, aPs_dead (fun z => h ((lv j (by omega)).mp z)), ih (by omega)]
  have cn : ∀ j, j ≤ zM s → aCn s' j = aCn s j := by
    intro j
    induction j with
    | zero => intro _; rfl
    | succ j ih =>
      intro hj
      show aCn s' j + (if s' (1100 + 10 * j) = 1 then 1 else 0) = aCn s j + (if s (1100 + 10 * j) = 1 then 1 else 0)
      rw [ih (by omega), show s' (1100 + 10 * j) = s (1100 + 10 * j) from oc j 0 (by omega) (by decide)]
  have hv : ∀ x, aHv s x → aHv s' x := by
    rintro x (h | ⟨t, ht, h, hl⟩)
    · exact Or.inl h
    · exact Or.inr ⟨t, by omega, h, (lv t ht).mpr hl⟩
  have mk : ∀ x, aMk s x → aMk s' x := by
    rintro x (h | ⟨q, hq, h⟩)
    · exact Or.inl h
    · exact Or.inr ⟨q, by omega, by rw [od q (by have := im.2.2.1; omega)]; exact h⟩
  have ln : ∀ h, h < zM s → aLv s h → ∀ i, i < aLk s h → aLn s' h i = aLn s h i := by
    intro h hh hl i hi
    obtain ⟨n1, n2, n3⟩ := aLn_in hp.1 hp.2.1 hh hl hi
    unfold aLn
    rw [pl h hh, lo h hh, show 6100 + aPl s h + aLo s h + i = 6100 + (aPl s h + aLo s h + i) by omega]
    exact w _ n1
  have hK := im.2.2.1
  have hLK := im.2.2.2.2.1
  refine ⟨⟨⟨⟨?_, by omega, by omega, ?_, by omega, ?_, ?_, by omega, ?_⟩, fun h hh => ?_, fun q q1 q2 => ?_, fun h hh hl => ?_, fun r hr => ?_, fun q hq => ?_, fun r hr => ?_⟩, ⟨⟨?_, ?_, by omega, ?_, by omega, ?_⟩, fun q hq => ?_, fun h hh => ?_⟩, iT_cong (eo _ (by decide) (by decide) (by decide) (by omega) (by omega)) it, iP_cong (eo _ (by decide) (by decide) (by decide) (by omega) (by omega)) ip, iG_cong ⟨fun q h1 h2 => eo _ (by omega) (by omega) (by omega) (by omega) (by omega), fun q h1 h2 => eo _ (by omega) (by omega) (by omega) (by omega) (by omega), fun q h1 h2 => eo _ (by omega) (by omega) (by omega) (by omega) (by omega)⟩ ig⟩, fun q hq i hi => ?_, fun h3 r hr => ?_⟩
  · rw [za, eo 0 (by decide) (by decide) (by decide) (by omega) (by omega)]; exact a1
  · rw [zm]; exact e1
  · rw [zu]; exact e3
  · rw [zu, zm, aPs_lv nlv, ps _ (Nat.le_refl _), ← a7]; unfold aSz; rw [nk, nm]
  · rw [zm]
    show s' 2 = nI (aCn s' (zM s) + (if s' (1100 + 10 * zM s) = 1 then 1 else 0))
    rw [if_pos g0, cn _ (Nat.le_refl _)]; exact e2
  · rw [zm] at hh
    by_cases e : h = zM s
    · subst e
      right
      refine ⟨nlv, by rw [nk]; exact g1, by omega, by rw [np]; exact g2, by rw [np, ps _ (Nat.le_refl _)]; exact a7, by rw [nm]; exact g3, by omega, ?_, fun q => ?_⟩
      · rw [np, nk]
        have := ew 0 (by omega)
        unfold nwW at this
        rw [if_pos rfl] at this
        exact this
      · rw [np, nm, show 6100 + zU s + 1 = 6100 + (zU s + 1) by omega, ew 1 (by omega)]
        unfold nwW
        rw [nk] at q
        unfold aMany at q
        rw [if_neg (by omega), if_pos (by omega), if_pos rfl]
    · have hh' : h < zM s := by omega
      rcases hp.2.1 h hh' with q | ⟨b1, b2, b3, b4, b5, b6, b7, b8, b9⟩
      · left; rw [show s' (1100 + 10 * h) = s (1100 + 10 * h) from oc h 0 hh' (by decide)]; exact q
      · right
        have hfit := aPs_fit (s := s) b1 hh'
        have hs2 := (szN_ge (n := aMn s h) b3).2
        have hse : aSz s h = szN (aKd s h) (aMn s h) := rfl
        refine ⟨(lv h hh').mpr b1, by rw [kd h hh', show s' (1101 + 10 * h) = s (1101 + 10 * h) from oc h 1 hh' (by decide)]; exact b2, by rw [kd h hh']; exact b3, by rw [pl h hh', show s' (1102 + 10 * h) = s (1102 + 10 * h) from oc h 2 hh' (by decide)]; exact b4, by rw [pl h hh', ps h (by omega)]; exact b5, by rw [mn h hh', show s' (1103 + 10 * h) = s (1103 + 10 * h) from oc h 3 hh' (by decide)]; exact b6, by rw [mn h hh']; exact b7, ?_, fun q => ?_⟩
        · rw [pl h hh', kd h hh', w _ (by omega)]; exact b8
        · rw [pl h hh', mn h hh', show 6100 + aPl s h + 1 = 6100 + (aPl s h + 1) by omega, w _ (by omega)]
          rw [kd h hh'] at q; exact b9 q
  · rw [zu] at q1; rw [za] at q2
    rw [eo _ (by omega) (by omega) (by omega) (by omega) (by omega)]; exact hp.2.2.1 q (by omega) q2
  · rw [zm] at hh
    by_cases e : h = zM s
    · subst e
      have hlo : aLo s' (zM s) = loN k := by unfold aLo; rw [nk]
      have hlk : aLk s' (zM s) = lkN k n := by unfold aLk; rw [nk, nm]
      refine ⟨fun i hi => Or.inl ?_, fun q => Or.inl ?_⟩
      · rw [hlk] at hi
        unfold aLn
        rw [np, hlo, show 6100 + zU s + loN k + i = 6100 + (zU s + (loN k + i)) by omega, ew _ (by omega)]
        exact nw_link hk hi
      · rw [nk] at q
        rw [np, show 6100 + zU s + 2 = 6100 + (zU s + 2) by omega]
        rcases q with rfl | rfl
        · rw [ew 2 (by show 2 < 3; decide)]; rfl
        · rw [ew 2 (by show 2 < 4; decide)]; rfl
    · have hh' : h < zM s := by omega
      have hl' := (lv h hh').mp hl
      refine ⟨fun i hi => ?_, fun q => ?_⟩
      · rw [lk h hh'] at hi
        rw [ln h hh' hl' i hi]; exact hv _ ((hp.2.2.2.1 h hh' hl').1 i hi)
      · rw [kd h hh'] at q
        have hc := hp_cell hp hh' hl'
        have := sz_weak (s := s) q
        rw [pl h hh', show 6100 + aPl s h + 2 = 6100 + (aPl s h + 2) by omega, w _ (by omega)]
        exact hv _ ((hp.2.2.2.1 h hh' hl').2 q)
  · rw [eo _ (by omega) (by omega) (by omega) (by omega) (by omega)]; exact hv _ (hp.2.2.2.2.1 r hr)
  · rw [eo _ (by omega) (by omega) (by omega) (by omega) (by omega)]; exact hv _ (hp.2.2.2.2.2.1 q hq)
  · rw [eo _ (by omega) (by omega) (by omega) (by omega) (by omega)]
    rcases hp.2.2.2.2.2.2 r hr with q | ⟨t, ht, q⟩
    · exact Or.inl q
    · exact Or.inr ⟨t, by omega, q⟩
  · rw [eo 3 (by decide) (by decide) (by decide) (by omega) (by omega)]; exact im.1
  · rw [zk, eo 4 (by decide) (by decide) (by decide) (by omega) (by omega)]; exact im.2.1
  · rw [zl, eo 17 (by decide) (by decide) (by decide) (by omega) (by omega)]; exact im.2.2.2.1
  · rw [zk, eo 3 (by decide) (by decide) (by decide) (by omega) (by omega)]; exact im.2.2.2.2.2
  · rw [zk] at hq
    obtain ⟨o1, o2, o3, o4, o5, o6, o7, o8⟩ := io q hq
    rw [od q (by omega), od1 q (by omega), zm, zl, th _ o2, lk _ o2, show s' (1105 + 10 * aOd s q) = s (1105 + 10 * aOd s q) from oc _ 5 o2 (by decide), show s' (1109 + 10 * aOd s q) = s (1109 + 10 * aOd s q) from oc _ 9 o2 (by decide)]
    exact ⟨o1, by omega, (lv _ o2).mpr o3, o4, o5, o6, o7, o8⟩
  · rw [zm] at hh
    by_cases e : h = zM s
    · subst e; exact Or.inl g5
    · have hh' : h < zM s := by omega
      rw [show s' (1105 + 10 * h) = s (1105 + 10 * h) from oc h 5 hh' (by decide)]
      rcases iu h hh' with q | ⟨q, hq, eq⟩
      · exact Or.inl q
      · exact Or.inr ⟨q, by omega, by rw [od q (by omega)]; exact eq⟩
  · rw [zk] at hq
    obtain ⟨o1, o2, o3, o4, o5, o6, o7, o8⟩ := io q hq
    rw [od q (by omega), th _ o2] at hi
    rw [od q (by omega), ln _ o2 o3 i (by omega)]
    exact mk _ (l1 q hq i hi)
  · rw [eo 3 (by decide) (by decide) (by decide) (by omega) (by omega)] at h3
    rw [eo _ (by omega) (by omega) (by omega) (by omega) (by omega)]; exact mk _ (l2 h3 r hr)
theorem ad_SR {c' : gMem} (hI : aSI T s) (hr : aSR 1 c s) (hk : k ≤ 5) (hn : n ≤ 300) (hM : zM s < 500) (hU : zU s + szN k n ≤ zA s) (e : adE s s' k n) (co : ∀ i, i ≠ 2 → i ≠ 3 → i ≠ 4 → i ≠ 5 → c' i = c i) (c20 : c' 2 0 = c 2 0) (c21 : c' 2 1 = nI (zU s + szN k n)) (c22 : c' 2 2 = nI (zM s + 1)) (c23 : c' 2 3 = nI (aCn s (zM s) + 1)) (c3a : ∀ o, o < szN k n → c' 3 (zU s + o) = nwW k n (zM s) o) (c3b : ∀ q, q < zU s ∨ zU s + szN k n ≤ q → c' 3 q = c 3 q) (c4a : c' 4 (zM s) = nI (zU s)) (c4b : ∀ h, h ≠ zM s → c' 4 h = c 4 h) (c5a : c' 5 (zM s) = 0) (c5b : ∀ h, h ≠ zM s → c' 5 h = c 5 h) : aSR 1 c' s' := by
  obtain ⟨⟨hp, hmk, it, ip, ig⟩, l1, l2⟩ := id hI
  obtain ⟨im, io, iu⟩ := id hmk
  obtain ⟨a1, a2, a3, a4, a5, a6, a7, a8, a9⟩ := id hp.1
  obtain ⟨e1, e2, e3, ⟨g0, g1, g2, g3, g4, g5⟩, ew, eo⟩ := e
  obtain ⟨r1, r2, r3, r4, r5, r6, r7, r8, r9, r10⟩ := id hr
  have hK := im.2.2.1
  have zm : zM s' = zM s + 1 := nn_nI e1 (by omega)
  have zu : zU s' = zU s + szN k n := nn_nI e3 (by omega)
  have zk : zK s' = zK s := nn_cong (eo 4 (by decide) (by decide) (by decide) (by omega) (by omega))
  have zl : zL s' = zL s := nn_cong (eo 17 (by decide) (by decide) (by decide) (by omega) (by omega))
  have oc : ∀ h w, h < zM s → w < 10 → s' (1100 + w + 10 * h) = s (1100 + w + 10 * h) := fun h w hh hw => eo _ (by omega) (by omega) (by omega) (by omega) (by omega)
  have od : ∀ q, q < 500 → aOd s' q = aOd s q := fun q hq => nn_cong (eo _ (by omega) (by omega) (by omega) (by omega) (by omega))
  have od1 : ∀ q, q < 500 → s' (600 + q) = s (600 + q) := fun q hq => eo _ (by omega) (by omega) (by omega) (by omega) (by omega)
  refine ⟨⟨?_, ?_, ?_, ?_⟩, ⟨fun q hq => ?_, fun q q1 q2 => ?_⟩, fun h hh => ?_, ⟨?_, ?_, ?_, ?_⟩, fun q hq => ?_, ⟨fun h hh => ?_, fun h h1 h2 => ?_⟩, rT_cong ⟨fun q _ _ => eo _ (by omega) (by omega) (by omega) (by omega) (by omega), fun q _ _ => eo _ (by omega) (by omega) (by omega) (by omega) (by omega)⟩ (fun q _ => by rw [co _ (by decide) (by decide) (by decide) (by decide)]) (fun q _ => by rw [co _ (by decide) (by decide) (by decide) (by decide)]) r7, rP_cong ⟨eo _ (by decide) (by decide) (by decide) (by omega) (by omega), fun q hq => ⟨eo _ (by omega) (by omega) (by omega) (by omega) (by omega), eo _ (by omega) (by omega) (by omega) (by omega) (by omega)⟩⟩ (by rw [co _ (by decide) (by decide) (by decide) (by decide)]) (fun q _ => by rw [co _ (by decide) (by decide) (by decide) (by decide)]) (fun q _ => by rw [co _ (by decide) (by decide) (by decide) (by decide)]) r8, rG_cong ⟨fun q _ _ => eo _ (by omega) (by omega) (by omega) (by omega) (by omega), fun q _ _ => eo _ (by omega) (by omega) (by omega) (by omega) (by omega), fun q _ _ => eo _ (by omega) (by omega) (by omega) (by omega) (by omega)⟩ ig (fun q _ => by rw [co _ (by decide) (by decide) (by decide) (by decide)]) (fun q _ => by rw [co _ (by decide) (by decide) (by decide) (by decide)]) (fun q _ => by rw [co _ (by decide) (by decide) (by decide) (by decide)]) r9, rR_cong (fun q _ _ => eo _ (by omega) (by omega) (by omega) (by omega) (by omega)) (fun q _ => by rw [co _ (by decide) (by decide) (by decide) (by decide)]) (fun q _ => by rw [co _ (by decide) (by decide) (by decide) (by decide)]) r10⟩
  · show c' 2 0 = _
    rw [c20, eo 0 (by decide) (by decide) (by decide) (by omega) (by omega)]; exact r1.1
  · show c' 2 1 = _
    rw [c21, e3]
  · show c' 2 2 = _
    rw [c22, e1]
  · show c' 2 3 = _
    rw [c23, e2]
  · rw [zu] at hq
    show c' 3 q = _
    by_cases z : q < zU s
    · rw [c3b q (Or.inl z), eo _ (by omega) (by omega) (by omega) (by omega) (by omega)]; exact r2.1 q z
    · obtain ⟨o, rfl⟩ : ∃ o, q = zU s + o := ⟨q - zU s, by omega⟩
      rw [c3a o (by omega), ew o (by omega)]
  · rw [zu] at q1
    show c' 3 q = 0
    rw [c3b q (Or.inr q1)]; exact r2.2 q (by omega) q2
  · rw [zm] at hh
    show (aLv s' h → c' 4 h = _ ∧ c' 5 h = _) ∧ (¬ aLv s' h → c' 4 h = -1)
    by_cases z : h = zM s
    · subst z
      refine ⟨fun _ => ⟨by rw [c4a, g2], by rw [c5a, g4]⟩, fun q => absurd g0 q⟩
    · have hh' : h < zM s := by omega
      rw [c4b h z, c5b h z]
      have e0 : s' (1100 + 10 * h) = s (1100 + 10 * h) := oc h 0 hh' (by decide)
      rw [show s' (1102 + 10 * h) = s (1102 + 10 * h) from oc h 2 hh' (by decide), show s' (1104 + 10 * h) = s (1104 + 10 * h) from oc h 4 hh' (by decide)]
      have := r3 h hh'
      unfold aLv at this ⊢
      rw [e0]; exact this
  · show c' 6 0 = _
    rw [co 6 (by decide) (by decide) (by decide) (by decide), eo 3 (by decide) (by decide) (by decide) (by omega) (by omega)]; exact r4.1
  · show c' 6 1 = _
    rw [co 6 (by decide) (by decide) (by decide) (by decide), eo 4 (by decide) (by decide) (by decide) (by omega) (by omega)]; exact r4.2.1
  · show c' 6 2 = _
    rw [co 6 (by decide) (by decide) (by decide) (by decide), eo 17 (by decide) (by decide) (by decide) (by omega) (by omega)]; exact r4.2.2.1
  · show c' 6 3 = _
    rw [co 6 (by decide) (by decide) (by decide) (by decide), zk, zl]
    have := r4.2.2.2
    by_cases z : zL s < zK s
    · rw [if_pos z] at this ⊢
      have ho := (io _ z).2.1
      rw [od _ (by omega), show s' (1109 + 10 * aOd s (zL s)) = s (1109 + 10 * aOd s (zL s)) from oc _ 9 ho (by decide)]
      exact this
    · rw [if_neg z] at this ⊢; exact this
  · rw [zk] at hq
    have ho := (io q hq).2.1
    show c' 7 q = _ ∧ c' 9 _ = _ ∧ c' 10 _ = _ ∧ c' 11 _ = _
    rw [co 7 (by decide) (by decide) (by decide) (by decide), co 9 (by decide) (by decide) (by decide) (by decide), co 10 (by decide) (by decide) (by decide) (by decide), co 11 (by decide) (by decide) (by decide) (by decide), od1 q (by omega), od q (by omega), show s' (1106 + 10 * aOd s q) = s (1106 + 10 * aOd s q) from oc _ 6 ho (by decide), show s' (1107 + 10 * aOd s q) = s (1107 + 10 * aOd s q) from oc _ 7 ho (by decide), show s' (1108 + 10 * aOd s q) = s (1108 + 10 * aOd s q) from oc _ 8 ho (by decide)]
    exact r5 q hq
  · rw [zm] at hh
    show c' 8 h = _
    rw [co 8 (by decide) (by decide) (by decide) (by decide)]
    by_cases z : h = zM s
    · subst z; rw [g5]; exact r6.2 _ (Nat.le_refl _) hM
    · have hh' : h < zM s := by omega
      rw [show s' (1105 + 10 * h) = s (1105 + 10 * h) from oc h 5 hh' (by decide)]; exact r6.1 h hh'
  · rw [zm] at h1
    show c' 8 h = 0
    rw [co 8 (by decide) (by decide) (by decide) (by decide)]; exact r6.2 h (by omega) h2
end AD

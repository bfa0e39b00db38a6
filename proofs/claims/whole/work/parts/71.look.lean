/-! looking through links -/
def bstep (s : gS) (q : List Nat × Nat × Nat) : List Nat × Nat × Nat :=
  match q.1[q.2.1]? with
  | none => q
  | some h => if q.2.2 < aLk s h then (visit q.1 (aLn s h q.2.2), q.2.1, q.2.2 + 1) else (q.1, q.2.1 + 1, 0)
def bit (s : gS) : Nat → List Nat × Nat × Nat → List Nat × Nat × Nat
  | 0, q => q
  | n + 1, q => bit s n (bstep s q)
theorem bit_add {s : gS} : ∀ (a b : Nat) (q : List Nat × Nat × Nat), bit s (a + b) q = bit s b (bit s a q) := by
  intro a
  induction a with
  | zero => intro b q; rw [Nat.zero_add]; rfl
  | succ a ih => intro b q; rw [show a + 1 + b = (a + b) + 1 by omega]; exact ih b (bstep s q)
def bst (s : gS) : List Nat × Nat × Nat := (Lst s, zL s, if zL s < zK s then aTh s (aOd s (zL s)) else 0)
def sth (s : gS) : Nat := ((Lst s).map (aTh s)).sum
theorem hpE.rf {s : gS} : hpE s s := ⟨hqE.rf, fun _ _ _ => rfl, fun _ _ _ => rfl⟩
theorem hpE.tr {s s1 s2 : gS} (h1 : hpE s s1) (h2 : hpE s1 s2) : hpE s s2 := ⟨h1.1.tr h2.1, fun j a b => (h2.2.1 j a b).trans (h1.2.1 j a b), fun j a b => (h2.2.2 j a b).trans (h1.2.2 j a b)⟩
theorem sumN_upd {f g : Nat → Nat} {a n : Nat} (ha : a < n) (h1 : g a = f a + 1) (h2 : ∀ h, h < n → h ≠ a → g h = f h) : sumN g n = sumN f n + 1 := by
  have e : sumN g n = sumN (fun h => f h + (if h = a then 1 else 0)) n := sumN_cong n (fun h hh => by
    by_cases q : h = a
    · subst q; rw [if_pos rfl, h1]
    · rw [if_neg q, h2 h hh q, Nat.add_zero])
  rw [e, sumN_add, sumN_one (f := fun _ => 1) n ha]
section LO
variable {T : Nat} {c : gMem} {s : gS}
/-- one cell is looked through: on to the next -/
theorem adv_all (hr : aSR 1 c s) (hI : aSI T s) (hL : zL s < zK s) (hth : aTh s (aOd s (zL s)) = aLk s (aOd s (zL s))) : aSR 1 (mp (mp c 6 2 (nI (zL s + 1))) 6 3 0) (upd s 17 (nI (zL s + 1))) ∧ aSI T (upd s 17 (nI (zL s + 1))) ∧ hpE s (upd s 17 (nI (zL s + 1))) ∧ zL (upd s 17 (nI (zL s + 1))) = zL s + 1 ∧ zK (upd s 17 (nI (zL s + 1))) = zK s ∧ bst (upd s 17 (nI (zL s + 1))) = bstep s (bst s) ∧ sth (upd s 17 (nI (zL s + 1))) = sth s := by
  obtain ⟨⟨hp, hmk, it, ip, ig⟩, l1, l2⟩ := id hI
  obtain ⟨im, io, iu⟩ := id hmk
  obtain ⟨a1, a2, a3, a4, a5, a6, a7, a8, a9⟩ := id hp.1
  obtain ⟨r1, r2, r3, r4, r5, r6, r7, r8, r9, r10⟩ := hr
  have hK := im.2.2.1
  have ho : ∀ j, j ≠ 17 → upd s 17 (nI (zL s + 1)) j = s j := fun j hj => up_n hj
  have e17 : upd s 17 (nI (zL s + 1)) 17 = nI (zL s + 1) := up_s
  generalize upd s 17 (nI (zL s + 1)) = s1 at ho e17 ⊢
  have e : hpE s s1 := ⟨⟨fun j hj => ho j (by omega), fun h w hh hw => ho _ (by omega)⟩, fun j a b => ho _ (by omega), fun j a b => ho _ (by omega)⟩
  have zl : zL s1 = zL s + 1 := nn_nI e17 (by omega)
  have zk : zK s1 = zK s := nn_cong (ho 4 (by decide))
  have zod : ∀ k, aOd s1 k = aOd s k := fun k => nn_cong (ho _ (by omega))
  have zth : ∀ h, aTh s1 h = aTh s h := fun h => nn_cong (ho _ (by omega))
  have zmk : ∀ x, aMk s x → aMk s1 x := fun x q => q.imp id (fun ⟨k, h1, h2⟩ => ⟨k, by rw [zk]; exact h1, by rw [zod]; exact h2⟩)
  have hlst : Lst s1 = Lst s := by unfold Lst; rw [zk]; exact List.map_congr_left (fun k _ => zod k)
  have hc : ∀ i, i ≠ 6 → mp (mp c 6 2 (nI (zL s + 1))) 6 3 0 i = c i := fun i hi => by rw [mp_n hi, mp_n hi]
  refine ⟨?_, ⟨⟨e.all hp, ⟨?_, ?_, ?_⟩, iT_cong (ho _ (by decide)) it, iP_cong (ho _ (by decide)) ip, iG_cong ⟨fun q h1 h2 => ho _ (by omega), fun q h1 h2 => ho _ (by omega), fun q h1 h2 => ho _ (by omega)⟩ ig⟩, ?_, ?_⟩, e, zl, zk, ?_, ?_⟩
  · refine ⟨rH_cong e.1 (fun k _ => by rw [hc _ (by decide)]) r1, rW_cong e.1.u (by omega) (fun k hk => e.2.2 _ (by omega) (by omega)) (fun k _ => by rw [hc _ (by decide)]) r2, rC_cong e.1 a5 (fun k _ => by rw [hc _ (by decide)]) (fun k _ => by rw [hc _ (by decide)]) r3, ?_, ?_, ?_, rT_cong ⟨fun q _ _ => ho _ (by omega), fun q _ _ => ho _ (by omega)⟩ (fun k _ => by rw [hc _ (by decide)]) (fun k _ => by rw [hc _ (by decide)]) r7, rP_cong ⟨ho _ (by decide), fun q hq => ⟨ho _ (by omega), ho _ (by omega)⟩⟩ (by rw [hc _ (by decide)]) (fun k _ => by rw [hc _ (by decide)]) (fun k _ => by rw [hc _ (by decide)]) r8, rG_cong ⟨fun q _ _ => ho _ (by omega), fun q _ _ => ho _ (by omega), fun q _ _ => ho _ (by omega)⟩ ig (fun k _ => by rw [hc _ (by decide)]) (fun k _ => by rw [hc _ (by decide)]) (fun k _ => by rw [hc _ (by decide)]) r9, rR_cong (fun q _ _ => ho _ (by omega)) (fun k _ => by rw [hc _ (by decide)]) (fun k _ => by rw [hc _ (by decide)]) r10⟩
    · unfold rM at *
      rw [show (1 + 5 : Nat) = 6 from rfl] at *
      rw [mp_s, mp_s, up_n (by decide), up_n (by decide), up_n (by decide), up_n (by decide), up_n (by decide), up_s, up_s, zl, zk, zod, e17, ho 3 (by decide), ho 4 (by decide), ho _ (by omega)]
      refine ⟨r4.1, r4.2.1, rfl, ?_⟩
      by_cases h1 : zL s + 1 < zK s
      · obtain ⟨o1, o2, o3, o4, o5, o6, o7, o8⟩ := io _ h1
        rw [if_pos h1, o5, o8 (by omega)]; rfl
      · rw [if_neg h1]
    · intro k hk
      rw [zk] at hk
      rw [zod, ho _ (by omega), ho _ (by omega), ho _ (by omega), ho _ (by omega), hc _ (by decide), hc _ (by decide), hc _ (by decide), hc _ (by decide)]
      exact r5 k hk
    · unfold rK at *
      rw [e.1.m, hc _ (by decide)]
      exact ⟨fun h hh => by rw [ho _ (by omega)]; exact r6.1 h hh, r6.2⟩
  · unfold iM
    rw [zk, zl, e.1.m, ho 3 (by decide), ho 4 (by decide), e17]
    exact ⟨im.1, im.2.1, im.2.2.1, rfl, by omega, im.2.2.2.2.2⟩
  · intro k hk
    rw [zk] at hk
    obtain ⟨o1, o2, o3, o4, o5, o6, o7, o8⟩ := io k hk
    rw [zod, zth, e.1.m, e.1.lk (by omega), zl, ho _ (by omega), ho _ (by omega), ho _ (by omega)]
    refine ⟨o1, o2, (e.1.lv (by omega)).mpr o3, o4, o5, o6, fun q => ?_, fun q => o8 (by omega)⟩
    by_cases hkl : k = zL s
    · subst hkl; exact hth
    · exact o7 (by omega)
  · intro h hh
    rw [e.1.m] at hh
    rw [ho _ (by omega), zk]
    simp only [zod]
    exact iu h hh
  · intro k hk i hi
    rw [zk] at hk
    obtain ⟨o1, o2, o3, o4, o5, o6, o7, o8⟩ := io k hk
    rw [zod, zth] at hi
    rw [zod, e.ln hp.1 hp.2.1 o2 o3 (by omega)]
    exact zmk _ (l1 k hk i hi)
  · intro h3 r hr
    rw [ho _ (by omega)] at h3 ⊢
    exact zmk _ (l2 h3 r hr)
  · have hb : bstep s (bst s) = (Lst s, zL s + 1, 0) := by
      unfold bstep bst
      simp only [Lst_get hL, if_pos hL]
      rw [if_neg (by omega)]
    rw [hb]
    unfold bst
    rw [hlst, zl, zk]
    by_cases h1 : zL s + 1 < zK s
    · rw [if_pos h1, zod, zth, (io _ h1).2.2.2.2.2.2.2 (by omega)]
    · rw [if_neg h1]
  · unfold sth; rw [hlst]
    congr 1
    exact List.map_congr_left (fun k _ => zth k)
theorem e_isLeft_b {m : gMem} (hI : aSI T s) : ∀ (Q : Int32 → gMem → Prop) (P : gMem → Prop), wX10_isLeft_p0_b P (mr m 1 s) Q = (if zK s ≤ zL s then Q 0 (mr m 1 s) else if aTh s (aOd s (zL s)) = aLk s (aOd s (zL s)) then P (mr m 1 (upd s 17 (nI (zL s + 1)))) else Q 1 (mr m 1 s)) := by
  intro Q P
  obtain ⟨⟨hp, hmk, it, ip, ig⟩, l1, l2⟩ := id hI
  obtain ⟨im, io, iu⟩ := id hmk
  obtain ⟨a1, a2, a3, a4, a5, a6, a7, a8, a9⟩ := id hp.1
  have hK := im.2.2.1
  have e17 := im.2.2.2.1
  have e4 := im.2.1
  unfold wX10_isLeft_p0_b wX10_isLeft_p75
  simp only [forall_eq, mr_s, e17, e4]
  have hll := im.2.2.2.2.1
  by_cases hL : zK s ≤ zL s
  · simp only [nI_le hL (show zL s < 2 ^ 31 by omega), hL, if_true, true_implies, not_true_eq_false, false_implies, and_true]
  · have hL' : zL s < zK s := by omega
    obtain ⟨o1, o2, o3, o4, o5, o6, o7, o8⟩ := io _ hL'
    rcases hp.2.1 _ o2 with q | ⟨q0, q1, q2, q3, q4, q5, q6, q7, q8⟩
    · rw [o3] at q; exact absurd q (by decide)
    have hsz : aSz s (aOd s (zL s)) ≤ 602 := szN_le q6
    have hlk : aLk s (aOd s (zL s)) ≤ aSz s (aOd s (zL s)) := by have := (szN_ge (n := aMn s (aOd s (zL s))) q2).1; show lkN _ _ ≤ szN _ _; omega
    rw [show (600 : Int32) + nI (zL s) = nI (600 + zL s) from nI_add 600 _, nI_clamp (by omega)]
    simp only [nI_ge hL' (show zK s < 2 ^ 31 by omega), hL, if_false, vp_in_nI (show 600 + zL s < 26100 by omega) (show 26100 < 2 ^ 31 by decide), o1, true_implies, not_false_eq_true, false_implies, true_and]
    rw [e_of9 (by omega), mr_s, o5]
    simp only [e17]
    rw [show (600 : Int32) + nI (zL s) = nI (600 + zL s) from nI_add 600 _, nI_clamp (by omega)]
    simp only [vp_in_nI (show 600 + zL s < 26100 by omega) (show 26100 < 2 ^ 31 by decide), o1, true_and]
    rw [e_linksOf (by omega) (by rw [mr_s]; exact q1) q2 (by rw [mr_s]; exact q5), mr_s]
    have hlk2 : lkN (aKd s (aOd s (zL s))) (aMn s (aOd s (zL s))) = aLk s (aOd s (zL s)) := rfl
    rw [hlk2, nI_eq (by omega) (by omega)]
    by_cases hth : aTh s (aOd s (zL s)) = aLk s (aOd s (zL s))
    · simp only [hth, if_true, true_implies, not_true_eq_false, false_implies, and_true, e17, nI_1, mp_mr]
    · simp only [hth, if_false, true_implies, not_false_eq_true, false_implies, true_and, e17, e4, nI_ge hL' (show zK s < 2 ^ 31 by omega)]
theorem x_goTo_b (hr : aSR 1 c s) (hI : aSI T s) : ∀ (Q : Int32 → gMem → Prop) (P : gMem → Prop), wX7_goToOpenLink_p0_b P c Q = (if zK s ≤ zL s then Q 0 c else if aTh s (aOd s (zL s)) = aLk s (aOd s (zL s)) then P (mp (mp c 6 2 (nI (zL s + 1))) 6 3 0) else Q 1 c) := by
  intro Q P
  obtain ⟨⟨hp, hmk, it, ip, ig⟩, l1, l2⟩ := id hI
  obtain ⟨im, io, iu⟩ := id hmk
  obtain ⟨a1, a2, a3, a4, a5, a6, a7, a8, a9⟩ := id hp.1
  have hK := im.2.2.1
  have c2 : c 6 2 = nI (zL s) := by rw [← im.2.2.2.1]; exact hr.2.2.2.1.2.2.1
  have c1 : c 6 1 = nI (zK s) := by rw [← im.2.1]; exact hr.2.2.2.1.2.1
  have hll := im.2.2.2.2.1
  unfold wX7_goToOpenLink_p0_b
  simp only [forall_eq, c2, c1]
  by_cases hL : zK s ≤ zL s
  · simp only [nI_le hL (show zL s < 2 ^ 31 by omega), hL, if_true, true_implies, not_true_eq_false, false_implies, and_true]
  · have hL' : zL s < zK s := by omega
    obtain ⟨o1, o2, o3, o4, o5, o6, o7, o8⟩ := io _ hL'
    obtain ⟨f1, f2, f3, f4, f5, f6, f7, f8, f9, f10, f11, f12, f13, f14, f15, f16⟩ := cF.of hp.1 hp.2.1 hr.2.1 hr.2.2.1 o2 o3
    have hsz : aSz s (aOd s (zL s)) ≤ 602 := szN_le f6
    have c3 : c 6 3 = nI (aTh s (aOd s (zL s))) := by
      have := hr.2.2.2.1.2.2.2
      rw [if_pos hL', o5] at this; exact this
    have c7 : c 7 (zL s) = nI (aOd s (zL s)) := by rw [← o1]; exact (hr.2.2.2.2.1 _ hL').1
    rw [nI_clamp (by omega)]
    simp only [nI_ge hL' (show zK s < 2 ^ 31 by omega), hL, if_false, vp_in_nI (show zL s < 500 by omega) (show 500 < 2 ^ 31 by decide), c7, c3, true_implies, not_false_eq_true, false_implies, true_and]
    rw [x_linksOf f1 f11 (by omega) f12 f3 (fun q => f13 (q.elim Or.inl (fun q => Or.inr (Or.inr q))))]
    have hlk2 : lkN (aKd s (aOd s (zL s))) (aMn s (aOd s (zL s))) = aLk s (aOd s (zL s)) := rfl
    rw [hlk2, nI_leI (by omega) (by omega)]
    by_cases hth : aTh s (aOd s (zL s)) = aLk s (aOd s (zL s))
    · simp only [hth, Nat.le_refl, if_true, true_implies, not_true_eq_false, false_implies, and_true, c2, nI_1]
    · simp only [hth, show ¬ aLk s (aOd s (zL s)) ≤ aTh s (aOd s (zL s)) by omega, if_false, true_implies, not_false_eq_true, false_implies, true_and]
theorem sim_isLeft : ∀ (d : Nat) (c : gMem) (s : gS), zK s - zL s = d → aSR 1 c s → aSI T s → ∃ r c' L' n, Di (wX7_goToOpenLink c) r c' ∧ (∀ m, Di (wX10_isLeft (mr m 1 s)) r (mr m 1 (upd s 17 (nI L')))) ∧ aSR 1 c' (upd s 17 (nI L')) ∧ aSI T (upd s 17 (nI L')) ∧ hpE s (upd s 17 (nI L')) ∧ (∀ i, i ≠ 6 → c' i = c i) ∧ bst (upd s 17 (nI L')) = bit s n (bst s) ∧ sth (upd s 17 (nI L')) = sth s ∧ (r = 1 ∧ zL (upd s 17 (nI L')) < zK (upd s 17 (nI L')) ∧ aTh (upd s 17 (nI L')) (aOd (upd s 17 (nI L')) (zL (upd s 17 (nI L')))) < aLk (upd s 17 (nI L')) (aOd (upd s 17 (nI L')) (zL (upd s 17 (nI L')))) ∨ r = 0 ∧ zL (upd s 17 (nI L')) = zK (upd s 17 (nI L'))) := by
  intro d
  induction d with
  | zero =>
    intro c s hd hr hI
    have hL : zK s ≤ zL s := by omega
    have im := hI.1.2.1.1
    have e : upd s 17 (nI (zL s)) = s := by
      funext j
      by_cases hj : j = 17
      · subst hj; rw [up_s]; exact im.2.2.2.1.symm
      · rw [up_n hj]
    refine ⟨0, c, zL s, 0, fun Q hQ P hP => ?_, fun m Q hQ P hP => ?_, by rw [e]; exact hr, by rw [e]; exact hI, by rw [e]; exact hpE.rf, fun _ _ => rfl, by rw [e]; rfl, by rw [e], Or.inr ⟨rfl, by rw [e]; have := im.2.2.2.2.1; omega⟩⟩
    · refine hP _ ?_
      rw [x_goTo_b hr hI, if_pos hL]; exact hQ
    · refine hP _ ?_
      rw [e] at hQ
      rw [e_isLeft_b hI, if_pos hL]; exact hQ
  | succ d ih =>
    intro c s hd hr hI
    have hL : zL s < zK s := by omega
    have im := hI.1.2.1.1
    by_cases hth : aTh s (aOd s (zL s)) = aLk s (aOd s (zL s))
    · obtain ⟨q1, q2, q3, q4, q5, q6, q7⟩ := adv_all hr hI hL hth
      obtain ⟨r, c', L', n, X, M, r1, r2, r3, r4, r5, r6, r7⟩ := ih _ _ (by omega) q1 q2
      have e : upd (upd s 17 (nI (zL s + 1))) 17 (nI L') = upd s 17 (nI L') := by
        funext j
        by_cases hj : j = 17
        · subst hj; rw [up_s, up_s]
        · rw [up_n hj, up_n hj, up_n hj]
      rw [e] at r1 r2 r3 r5 r6 r7 M
      have hbs : ∀ (n : Nat) (q : List Nat × Nat × Nat), bit (upd s 17 (nI (zL s + 1))) n q = bit s n q := by
        have hb1 : ∀ q, bstep (upd s 17 (nI (zL s + 1))) q = bstep s q := by
          intro q
          unfold bstep
          cases hq : q.1[q.2.1]? with
          | none => rfl
          | some h =>
            have z1 : ∀ j, j ≠ 17 → nn (upd s 17 (nI (zL s + 1))) j = nn s j := fun j hj => nn_cong (up_n hj)
            have z2 : aLk (upd s 17 (nI (zL s + 1))) h = aLk s h := by unfold aLk; rw [show aKd (upd s 17 (nI (zL s + 1))) h = aKd s h from z1 _ (by omega), show aMn (upd s 17 (nI (zL s + 1))) h = aMn s h from z1 _ (by omega)]
            have z3 : ∀ i, aLn (upd s 17 (nI (zL s + 1))) h i = aLn s h i := by
              intro i; unfold aLn aLo; rw [show aKd (upd s 17 (nI (zL s + 1))) h = aKd s h from z1 _ (by omega), show aPl (upd s 17 (nI (zL s + 1))) h = aPl s h from z1 _ (by omega), up_n (by omega)]
            simp only [z2, z3]
        intro n
        induction n with
        | zero => intro q; rfl
        | succ n ih => intro q; show bit _ n (bstep _ q) = bit _ n (bstep _ q); rw [hb1, ih]
      refine ⟨r, c', L', 1 + n, fun Q hQ P hP => ?_, fun m Q hQ P hP => ?_, r1, r2, q3.tr r3, fun i hi => by rw [r4 i hi, mp_n hi, mp_n hi], ?_, by rw [r6, q7], r7⟩
      · refine hP _ ?_
        rw [x_goTo_b hr hI, if_neg (by omega), if_pos hth]
        exact X Q hQ P hP
      · refine hP _ ?_
        rw [e_isLeft_b hI, if_neg (by omega), if_pos hth]
        exact M m Q hQ P hP
      · rw [r5, hbs, q6, bit_add]; rfl
    · have e : upd s 17 (nI (zL s)) = s := by
        funext j
        by_cases hj : j = 17
        · subst hj; rw [up_s]; exact im.2.2.2.1.symm
        · rw [up_n hj]
      refine ⟨1, c, zL s, 0, fun Q hQ P hP => ?_, fun m Q hQ P hP => ?_, by rw [e]; exact hr, by rw [e]; exact hI, by rw [e]; exact hpE.rf, fun _ _ => rfl, by rw [e]; rfl, by rw [e], Or.inl ⟨rfl, by rw [e]; exact hL, by rw [e]; have := (hI.1.2.1.2.1 _ hL).2.2.2.2.2.1; omega⟩⟩
      · refine hP _ ?_
        rw [x_goTo_b hr hI, if_neg (by omega), if_neg hth]; exact hQ
      · refine hP _ ?_
        rw [e] at hQ
        rw [e_isLeft_b hI, if_neg (by omega), if_neg hth]; exact hQ
end LO

/-! one link is looked at; lookThrough -/
theorem mkX_slot {c : gMem} {x w a b : Int32} : mkX c x w a b 6 3 = c 6 3 := by
  unfold mkX
  by_cases h1 : x = -1
  · rw [if_pos h1]
  · rw [if_neg h1]
    by_cases h2 : c 8 x.toNatClampNeg = 0
    · rw [if_pos h2, mkC_6, up_n (by decide)]
    · rw [if_neg h2]
theorem sth_sum {s : gS} (hO : iO s) (hM : zM s ≤ 500) (hK : zK s ≤ zM s) : sth s = sumN (fun h => if h ∈ Lst s then aTh s h else 0) (zM s) := (sumN_list _ (Lst_nodup hO hM hK) (Lst_lt hO)).symm
section L2
variable {T : Nat} {c : gMem} {s : gS}
theorem sth_le (hp : aHp s) (hm : iM s ∧ iO s ∧ iU s) : sth s ≤ zU s := by
  have hM := hp.1.2.2.2.2.1
  have hK := hm.1.2.2.1
  have h7 := hp.1.2.2.2.2.2.2.1
  rw [sth_sum hm.2.1 hM hK, h7, aPs_sum]
  refine sumN_le _ (fun h hh => ?_)
  by_cases hl : h ∈ Lst s
  · obtain ⟨k, hk, rfl⟩ := Lst_mem.mp hl
    obtain ⟨o1, o2, o3, o4, o5, o6, o7, o8⟩ := hm.2.1 k hk
    rcases hp.2.1 _ o2 with q | ⟨q0, q1, q2, q3, q4, q5, q6, q7, q8⟩
    · rw [o3] at q; exact absurd q (by decide)
    have := (szN_ge (n := aMn s (aOd s k)) q2).1
    rw [if_pos hl, if_pos o3]
    have e1 : aLk s (aOd s k) = lkN (aKd s (aOd s k)) (aMn s (aOd s k)) := rfl
    have e2 : aSz s (aOd s k) = szN (aKd s (aOd s k)) (aMn s (aOd s k)) := rfl
    omega
  · rw [if_neg hl]; exact Nat.zero_le _
theorem th_all (hr : aSR 1 c s) (hI : aSI T s) (hL : zL s < zK s) (hth : aTh s (aOd s (zL s)) < aLk s (aOd s (zL s))) : aSR 1 (mp c 6 3 (nI (aTh s (aOd s (zL s)) + 1))) (upd s (1109 + 10 * aOd s (zL s)) (nI (aTh s (aOd s (zL s)) + 1))) ∧ aS0 T (upd s (1109 + 10 * aOd s (zL s)) (nI (aTh s (aOd s (zL s)) + 1))) ∧ hpE s (upd s (1109 + 10 * aOd s (zL s)) (nI (aTh s (aOd s (zL s)) + 1))) := by
  obtain ⟨⟨hp, hmk, it, ip, ig⟩, l1, l2⟩ := id hI
  obtain ⟨im, io, iu⟩ := id hmk
  obtain ⟨a1, a2, a3, a4, a5, a6, a7, a8, a9⟩ := id hp.1
  obtain ⟨r1, r2, r3, r4, r5, r6, r7, r8, r9, r10⟩ := hr
  have hK := im.2.2.1
  obtain ⟨O1, O2, O3, O4, O5, O6, O7, O8⟩ := io _ hL
  rcases hp.2.1 _ O2 with q | ⟨q0, q1, q2, q3, q4, q5, q6, q7, q8⟩
  · rw [O3] at q; exact absurd q (by decide)
  have hsz : aSz s (aOd s (zL s)) ≤ 602 := szN_le q6
  have hlks : aLk s (aOd s (zL s)) ≤ aSz s (aOd s (zL s)) := by have := (szN_ge (n := aMn s (aOd s (zL s))) q2).1; show lkN _ _ ≤ szN _ _; omega
  have hs5 : aOd s (zL s) < 500 := by omega
  have ho : ∀ j, j ≠ 1109 + 10 * aOd s (zL s) → upd s (1109 + 10 * aOd s (zL s)) (nI (aTh s (aOd s (zL s)) + 1)) j = s j := fun j hj => up_n hj
  have eth : upd s (1109 + 10 * aOd s (zL s)) (nI (aTh s (aOd s (zL s)) + 1)) (1109 + 10 * aOd s (zL s)) = nI (aTh s (aOd s (zL s)) + 1) := up_s
  generalize upd s (1109 + 10 * aOd s (zL s)) (nI (aTh s (aOd s (zL s)) + 1)) = s1 at ho eth ⊢
  have e : hpE s s1 := ⟨⟨fun j hj => ho j (by omega), fun h w hh hw => ho _ (by omega)⟩, fun j a b => ho _ (by omega), fun j a b => ho _ (by omega)⟩
  have zl : zL s1 = zL s := nn_cong (ho 17 (by omega))
  have zk : zK s1 = zK s := nn_cong (ho 4 (by omega))
  have zod : ∀ k, k < 500 → aOd s1 k = aOd s k := fun k hk => nn_cong (ho _ (by omega))
  have zth : ∀ h, h ≠ aOd s (zL s) → aTh s1 h = aTh s h := fun h hh => nn_cong (ho _ (by omega))
  have zth2 : aTh s1 (aOd s (zL s)) = aTh s (aOd s (zL s)) + 1 := nn_nI eth (by omega)
  have hc : ∀ i, i ≠ 6 → mp c 6 3 (nI (aTh s (aOd s (zL s)) + 1)) i = c i := fun i hi => mp_n hi
  refine ⟨⟨rH_cong e.1 (fun k _ => by rw [hc _ (by decide)]) r1, rW_cong e.1.u (by omega) (fun k hk => e.2.2 _ (by omega) (by omega)) (fun k _ => by rw [hc _ (by decide)]) r2, rC_cong e.1 a5 (fun k _ => by rw [hc _ (by decide)]) (fun k _ => by rw [hc _ (by decide)]) r3, ?_, ?_, ?_, rT_cong ⟨fun q _ _ => ho _ (by omega), fun q _ _ => ho _ (by omega)⟩ (fun k _ => by rw [hc _ (by decide)]) (fun k _ => by rw [hc _ (by decide)]) r7, rP_cong ⟨ho _ (by omega), fun q hq => ⟨ho _ (by omega), ho _ (by omega)⟩⟩ (by rw [hc _ (by decide)]) (fun k _ => by rw [hc _ (by decide)]) (fun k _ => by rw [hc _ (by decide)]) r8, rG_cong ⟨fun q _ _ => ho _ (by omega), fun q _ _ => ho _ (by omega), fun q _ _ => ho _ (by omega)⟩ ig (fun k _ => by rw [hc _ (by decide)]) (fun k _ => by rw [hc _ (by decide)]) (fun k _ => by rw [hc _ (by decide)]) r9, rR_cong (fun q _ _ => ho _ (by omega)) (fun k _ => by rw [hc _ (by decide)]) (fun k _ => by rw [hc _ (by decide)]) r10⟩, ⟨e.all hp, ⟨?_, ?_, ?_⟩, iT_cong (ho _ (by omega)) it, iP_cong (ho _ (by omega)) ip, iG_cong ⟨fun q h1 h2 => ho _ (by omega), fun q h1 h2 => ho _ (by omega), fun q h1 h2 => ho _ (by omega)⟩ ig⟩, e⟩
  · unfold rM at *
    rw [show (1 + 5 : Nat) = 6 from rfl] at *
    rw [mp_s, up_n (by decide), up_n (by decide), up_n (by decide), up_s, zl, zk, zod _ (by omega), ho 3 (by omega), ho 4 (by omega), ho 17 (by omega), if_pos hL, eth]
    exact ⟨r4.1, r4.2.1, r4.2.2.1, rfl⟩
  · intro k hk
    rw [zk] at hk
    have := (io k hk).2.1
    rw [zod k (by omega), ho _ (by omega), ho _ (by omega), ho _ (by omega), ho _ (by omega), hc _ (by decide), hc _ (by decide), hc _ (by decide), hc _ (by decide)]
    exact r5 k hk
  · unfold rK at *
    rw [e.1.m, hc _ (by decide)]
    exact ⟨fun h hh => by rw [ho _ (by omega)]; exact r6.1 h hh, r6.2⟩
  · unfold iM
    rw [zk, zl, e.1.m, ho 3 (by omega), ho 4 (by omega), ho 17 (by omega)]
    exact im
  · intro k hk
    rw [zk] at hk
    obtain ⟨o1, o2, o3, o4, o5, o6, o7, o8⟩ := io k hk
    rw [zod k (by omega), e.1.m, e.1.lk (by omega), zl, ho (600 + k) (by omega), ho (1105 + 10 * aOd s k) (by omega)]
    by_cases hkl : k = zL s
    · subst hkl
      rw [eth, zth2]
      exact ⟨o1, o2, (e.1.lv (by omega)).mpr o3, o4, rfl, by omega, fun q => by omega, fun q => by omega⟩
    · have hne : aOd s k ≠ aOd s (zL s) := fun q => hkl (od_inj io a5 hK hk hL q)
      rw [zth _ hne, ho (1109 + 10 * aOd s k) (by omega)]
      exact ⟨o1, o2, (e.1.lv (by omega)).mpr o3, o4, o5, o6, o7, o8⟩
  · intro h hh
    rw [e.1.m] at hh
    rw [ho _ (by omega), zk]
    rcases iu h hh with g | ⟨k, hk, g⟩
    · exact Or.inl g
    · exact Or.inr ⟨k, hk, by rw [zod k (by omega)]; exact g⟩
/-- one link -/
theorem look_one (hr : aSR 1 c s) (hI : aSI T s) (h3 : s 3 = 1) (hL : zL s < zK s) (hth : aTh s (aOd s (zL s)) < aLk s (aOd s (zL s))) : ∃ c' s', (∀ Q : gMem → Prop, Q c' → wX2_linkPlace (nI (aOd s (zL s))) c (fun r10 c9 => vp_in (r10 + nI (aTh s (aOd s (zL s)))) 4000 ∧ ∀ v11, v11 = c9 3 (r10 + nI (aTh s (aOd s (zL s)))).toNatClampNeg → wX7_mark v11 1 (nI (aOd s (zL s))) (nI (aTh s (aOd s (zL s)))) c9 (fun c13 => ∀ v14, v14 = c13 6 3 → ∀ c15, c15 = mp c13 6 3 (v14 + 1) → Q c15))) ∧ (∀ m, ∀ Q : gMem → Prop, Q (mr m 1 s') → wX10_of (nI (aOd s (zL s))) 9 (mr m 1 s) (fun r9 c8 => wX10_lets (nI (aOd s (zL s))) 9 (r9 + 1) c8 (fun c10 => wX10_linkAt (nI (aOd s (zL s))) r9 c10 (fun r12 c11 => vp_in r12 26100 ∧ ∀ v13, v13 = c11 1 r12.toNatClampNeg → wX10_mark v13 1 (nI (aOd s (zL s))) r9 c11 Q)))) ∧ aSR 1 c' s' ∧ aSI T s' ∧ s' 3 = 1 ∧ hpE s s' ∧ (∀ i, i < 6 ∨ 11 < i → c' i = c i) ∧ bst s' = bstep s (bst s) ∧ sth s' = sth s + 1 := by
  obtain ⟨⟨hp, hmk, it, ip, ig⟩, l1, l2⟩ := id hI
  obtain ⟨im, io, iu⟩ := id hmk
  obtain ⟨a1, a2, a3, a4, a5, a6, a7, a8, a9⟩ := id hp.1
  have hK := im.2.2.1
  obtain ⟨O1, O2, O3, O4, O5, O6, O7, O8⟩ := io _ hL
  obtain ⟨f1, f2, f3, f4, f5, f6, f7, f8, f9, f10, f11, f12, f13, f14, f15, f16⟩ := cF.of hp.1 hp.2.1 hr.2.1 hr.2.2.1 O2 O3
  obtain ⟨R1, S1, E1⟩ := th_all hr hI hL hth
  have hin := aLn_in hp.1 hp.2.1 O2 O3 hth
  have hw := ln_word hr hp O2 O3 hth
  have hv : aHv s (aLn s (aOd s (zL s)) (aTh s (aOd s (zL s)))) := (hp.2.2.2.1 _ O2 O3).1 _ hth
  have hsz : aSz s (aOd s (zL s)) ≤ 602 := szN_le f6
  have hlo : aLo s (aOd s (zL s)) = loN (aKd s (aOd s (zL s))) := rfl
  obtain ⟨X0, -, -, -, -, -⟩ := sim_mark2 (w := 1) (a := nI (aOd s (zL s))) (b := nI (aTh s (aOd s (zL s)))) hr hI.1 hv h3
  have c63 : c 6 3 = nI (aTh s (aOd s (zL s))) := by
    have := hr.2.2.2.1.2.2.2
    rw [if_pos hL, O5] at this; exact this
  have ho1 : ∀ j, j ≠ 1109 + 10 * aOd s (zL s) → upd s (1109 + 10 * aOd s (zL s)) (nI (aTh s (aOd s (zL s)) + 1)) j = s j := fun j hj => up_n hj
  have eth : upd s (1109 + 10 * aOd s (zL s)) (nI (aTh s (aOd s (zL s)) + 1)) (1109 + 10 * aOd s (zL s)) = nI (aTh s (aOd s (zL s)) + 1) := up_s
  have emr : ∀ m : gMem, mp (mr m 1 s) 1 (1109 + 10 * aOd s (zL s)) (nI (aTh s (aOd s (zL s)) + 1)) = mr m 1 (upd s (1109 + 10 * aOd s (zL s)) (nI (aTh s (aOd s (zL s)) + 1))) := fun m => mp_mr
  generalize hs1 : upd s (1109 + 10 * aOd s (zL s)) (nI (aTh s (aOd s (zL s)) + 1)) = s1 at *
  have h31 : s1 3 = 1 := by rw [ho1 3 (by omega)]; exact h3
  have zl : zL s1 = zL s := nn_cong (ho1 17 (by omega))
  have zk : zK s1 = zK s := nn_cong (ho1 4 (by omega))
  have zod : ∀ k, k < 500 → aOd s1 k = aOd s k := fun k hk => nn_cong (ho1 _ (by omega))
  have zth : ∀ h, h ≠ aOd s (zL s) → aTh s1 h = aTh s h := fun h hh => nn_cong (ho1 _ (by omega))
  have zth2 : aTh s1 (aOd s (zL s)) = aTh s (aOd s (zL s)) + 1 := nn_nI eth (by omega)
  have hlst1 : Lst s1 = Lst s := by
    unfold Lst; rw [zk]
    refine List.map_congr_left (fun k hk => zod k ?_)
    have := List.mem_range.mp hk
    omega
  obtain ⟨-, M2, R2, S2, MS2, F2⟩ := sim_mark2 (w := 1) (a := nI (aOd s (zL s))) (b := nI (aTh s (aOd s (zL s)))) R1 S1 (E1.1.hv a5 hv) h31
  have hlst2 := mkF_list (w := 1) (a := nI (aOd s (zL s))) (b := nI (aTh s (aOd s (zL s)))) S1.1 S1.2.1 (E1.1.hv a5 hv)
  rw [mkX_63] at R2
  generalize hs2 : mkF s1 (aLn s (aOd s (zL s)) (aTh s (aOd s (zL s)))) 1 (nI (aOd s (zL s))) (nI (aTh s (aOd s (zL s)))) = s2 at *
  obtain ⟨E2, o2, zl2, zk2, od2, th2, mk2, mx2⟩ := id MS2
  have E : hpE s s2 := E1.tr E2
  have mk1 : ∀ x, aMk s x → aMk s1 x := fun x q => q.imp id (fun ⟨k, g1, g2⟩ => ⟨k, by rw [zk]; exact g1, by rw [zod k (by omega)]; exact g2⟩)
  refine ⟨_, s2, fun Q hQ => ?_, fun m Q hQ => ?_, R2, ⟨S2, ?_, ?_⟩, ?_, E, fun i hi => ?_, ?_, ?_⟩
  · rw [x_linkPlace f1 f11 (by omega) f12 f3, nI_add, show aPl s (aOd s (zL s)) + loN (aKd s (aOd s (zL s))) + aTh s (aOd s (zL s)) = aPl s (aOd s (zL s)) + (aLo s (aOd s (zL s)) + aTh s (aOd s (zL s))) by rw [hlo]; omega, nI_clamp (by omega)]
    refine ⟨vp_in_nI (by omega) (by decide), fun v ev => ?_⟩
    rw [hw] at ev; subst ev
    refine X0 _ ?_
    simp only [forall_eq]
    rw [mkX_slot, c63, nI_1]; exact hQ
  · rw [e_of9 f1, mr_s, O5, nI_1, e_let9 f1, emr, e_linkAt f1 (by rw [mr_s, ho1 _ (by omega)]; exact f2) f3 (by rw [mr_s, ho1 _ (by omega)]; exact f4), nI_clamp (by omega)]
    refine ⟨vp_in_nI (by omega) (by decide), ?_⟩
    rw [mr_s, ho1 _ (by omega)]
    intro v ev
    have ev2 : v = aLn s (aOd s (zL s)) (aTh s (aOd s (zL s))) := ev
    subst ev2
    exact M2 m _ hQ
  · intro k hk i hi
    by_cases hk1 : k < zK s
    · have hk1' : k < zK s1 := by rw [zk]; exact hk1
      obtain ⟨p1, p2, p3, p4, p5, p6, p7, p8⟩ := io k hk1
      rw [(od2 k hk1').1, (od2 k hk1').2, zod k (by omega)] at hi
      rw [(od2 k hk1').1, zod k (by omega)]
      by_cases hkl : k = zL s
      · subst hkl
        rw [zth2] at hi
        by_cases hi2 : i = aTh s (aOd s (zL s))
        · subst hi2
          rw [E.ln hp.1 hp.2.1 p2 p3 hth]; exact mx2
        · rw [E.ln hp.1 hp.2.1 p2 p3 (by omega)]
          exact mk2 _ (mk1 _ (l1 _ hL i (by omega)))
      · have hne : aOd s k ≠ aOd s (zL s) := fun q => hkl (od_inj io a5 hK hk1 hL q)
        rw [zth _ hne] at hi
        rw [E.ln hp.1 hp.2.1 p2 p3 (by omega)]
        exact mk2 _ (mk1 _ (l1 k hk1 i hi))
    · rw [th2 k (by omega) hk] at hi; exact absurd hi (by omega)
  · intro _ r hr'
    rw [E.2.1 _ (by omega) (by omega)]
    exact mk2 _ (mk1 _ (l2 h3 r hr'))
  · rw [o2 3 (by omega) (by omega) (by omega)]; exact h31
  · rw [mp_n (by omega)]
    have := F2 i hi
    rw [mkX_63, mp_n (by omega), mp_n (by omega)] at this
    exact this
  · have hb : bstep s (bst s) = (visit (Lst s) (aLn s (aOd s (zL s)) (aTh s (aOd s (zL s)))), zL s, aTh s (aOd s (zL s)) + 1) := by
      unfold bstep bst
      simp only [Lst_get hL, if_pos hL]
      rw [if_pos hth]
    rw [hb]
    unfold bst
    have hzl : zL s2 = zL s := by rw [zl2, zl]
    have hkk : zL s2 < zK s2 := by omega
    rw [hlst2, hlst1, if_pos hkk, hzl, (od2 (zL s) (by omega)).1, (od2 (zL s) (by omega)).2, zod _ (by omega), zth2]
  · have hM2 : zM s2 = zM s := E.1.m
    rw [sth_sum S2.2.1.2.1 (by omega) S2.2.1.1.2.2.1, sth_sum io a5 hK, hM2]
    refine sumN_upd O2 ?_ (fun h hh hne => ?_)
    · have m1 : aOd s (zL s) ∈ Lst s := Lst_mem.mpr ⟨_, hL, rfl⟩
      have m2 : aOd s (zL s) ∈ Lst s2 := Lst_mem.mpr ⟨zL s, by omega, by rw [(od2 (zL s) (by omega)).1, zod _ (by omega)]⟩
      have e1 := (od2 (zL s) (by omega)).2
      rw [zod _ (by omega), zth2] at e1
      rw [if_pos m1, if_pos m2, e1]
    · by_cases m1 : h ∈ Lst s
      · obtain ⟨k, hk, rfl⟩ := Lst_mem.mp m1
        have m2 : aOd s k ∈ Lst s2 := Lst_mem.mpr ⟨k, by omega, by rw [(od2 k (by omega)).1, zod _ (by omega)]⟩
        have e1 := (od2 k (by omega)).2
        rw [zod _ (by omega), zth _ hne] at e1
        rw [if_pos m1, if_pos m2, e1]
      · rw [if_neg m1]
        by_cases m2 : h ∈ Lst s2
        · obtain ⟨k, hk, rfl⟩ := Lst_mem.mp m2
          have hk2 : zK s1 ≤ k := by
            rcases Nat.lt_or_ge k (zK s1) with q | q
            · exfalso
              apply m1
              rw [(od2 k q).1, zod k (by omega)]
              exact Lst_mem.mpr ⟨k, by omega, rfl⟩
            · exact q
          rw [if_pos m2, th2 k hk2 hk]
        · rw [if_neg m2]
end L2

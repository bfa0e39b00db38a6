/-! changing a link -/
/-- cells that a call on cells alone leaves -/
def aFX (c c' : gMem) : Prop := ∀ i, i < 2 ∨ 21 < i → c' i = c i
theorem aFX.rf {c : gMem} : aFX c c := fun _ _ => rfl
theorem aFX.tr {c c1 c2 : gMem} (h1 : aFX c c1) (h2 : aFX c1 c2) : aFX c c2 := fun i hi => (h2 i hi).trans (h1 i hi)
theorem hqE.rf {s : gS} : hqE s s := ⟨fun _ _ => rfl, fun _ _ _ _ => rfl⟩
theorem hqE.tr {s s1 s2 : gS} (h1 : hqE s s1) (h2 : hqE s1 s2) : hqE s s2 := ⟨fun j hj => (h2.1 j hj).trans (h1.1 j hj), fun h w a b => (h2.2 h w a b).trans (h1.2 h w a b)⟩
section LK
variable {T : Nat} {c : gMem} {s : gS} {h i : Nat} {t : Int32}
theorem iL_off (hm : iM s) (h3 : s 3 = 0) : iL s := by
  have hK := hm.2.2.2.2.2 h3
  refine ⟨fun k hk => absurd hk (by omega), fun q => ?_⟩
  rw [h3] at q; exact absurd q (by decide)
theorem ln_word (hr : aSR 1 c s) (hp : aHp s) (hh : h < zM s) (hl : aLv s h) (hi : i < aLk s h) : c 3 (aPl s h + (aLo s h + i)) = aLn s h i := by
  have := aLn_in hp.1 hp.2.1 hh hl hi
  unfold aLn
  rw [Nat.add_assoc, Nat.add_assoc]
  exact hr.2.1.1 _ (by omega)
theorem sim_relink (hr : aSR 1 c s) (hI : aSI T s) (hh : h < zM s) (hl : aLv s h) (hi : i < aLk s h) (ht : aHv s t) : ∃ c' s', Dv (wX0_changeLink (nI h) (nI i) t c) c' ∧ (∀ m, Dv (wX10_relinks (nI h) (nI i) t (mr m 1 s)) (mr m 1 s')) ∧ aSR 1 c' s' ∧ aSI T s' ∧ aFX c c' ∧ hqE s s' := by
  obtain ⟨h0, hL⟩ := hI
  have hp := h0.1
  have hm := h0.2.1
  have hM := hp.1.2.2.2.2.1
  have hK := hm.1.2.2.1
  obtain ⟨f1, f2, f3, f4, f5, f6, f7, f8, f9, f10, f11, f12, f13, f14, f15, f16⟩ := cF.of hp.1 hp.2.1 hr.2.1 hr.2.2.1 hh hl
  have hin := aLn_in hp.1 hp.2.1 hh hl hi
  have hw := ln_word hr hp hh hl hi
  have hvl : aHv s (aLn s h i) := (hp.2.2.2.1 h hh hl).1 i hi
  have ex : nI (aPl s h + loN (aKd s h)) + nI i = nI (aPl s h + (aLo s h + i)) := by
    rw [nI_add]; congr 1; unfold aLo; omega
  have hlo : aLo s h = loN (aKd s h) := rfl
  have hmany : aMany (aKd s h) → 2 ≤ aLo s h + i := by
    intro q
    unfold aLo loN
    rcases q with q | q | q <;> rw [q] <;> simp
    unfold aLk lkN at hi; rw [q] at hi; simp at hi
  have hlo1 : 1 ≤ aLo s h := by unfold aLo loN; split <;> omega
  have hv2 : ∀ {s1 : gS}, hqE s s1 → aHv s1 t → ((∀ i', i' < aLk s1 h → aLo s h + i = aLo s1 h + i' → aHv s1 t) ∧ (aKd s1 h = 3 ∨ aKd s1 h = 4 → aLo s h + i = 2 → aHv s1 t)) := fun _ q => ⟨fun _ _ _ => q, fun _ _ => q⟩
  rcases hm.1.1 with h3 | h3
  · -- no cycle under way
    have hS := wr_S0 (v := t) h0 hh hl (by omega) (show aLo s h + i < aSz s h by omega) hmany (hv2 hqE.rf ht)
    have e : hqE s (upd s (6100 + (aPl s h + (aLo s h + i))) t) := wr_q hp (by omega)
    refine ⟨mp c 3 (aPl s h + (aLo s h + i)) t, upd s (6100 + (aPl s h + (aLo s h + i))) t, fun Q hQ => ?_, fun m Q hQ => ?_, wr_SR hr h0 (by omega), ⟨hS, ?_⟩, fun q hq => mp_n (by omega), e⟩
    · have c6 : c 6 0 = 0 := by rw [← h3]; exact hr.2.2.2.1.1
      unfold wX0_changeLink
      rw [x_linkPlace f1 f11 (by omega) f12 f3, ex, nI_clamp (by omega)]
      refine ⟨vp_in_nI (by omega) (by decide), fun v _ => ?_⟩
      rw [x_markOff c6]
      refine ⟨vp_in_nI (by omega) (by decide), fun c1 e1 => ?_⟩
      subst e1
      rw [x_markOff (by rw [mp_n (by decide)]; exact c6)]
      exact hQ
    · unfold wX10_relinks wX10_relinks_p32
      rw [e_linkAt (p := aPl s h) f1 (by rw [mr_s]; exact f2) f3 (by rw [mr_s]; exact f4)]
      have e3 : upd s (6100 + (aPl s h + (aLo s h + i))) t 3 = s 3 := up_n (by omega)
      rw [show 6100 + aPl s h + loN (aKd s h) + i = 6100 + (aPl s h + (aLo s h + i)) by rw [← hlo]; omega]
      simp only [forall_eq, mr_s, h3, nI_clamp (show 6100 + (aPl s h + (aLo s h + i)) < 2 ^ 31 by omega), vp_in_nI (show 6100 + (aPl s h + (aLo s h + i)) < 26100 by omega) (show 26100 < 2 ^ 31 by decide), mp_mr, e3, true_implies, false_implies, not_true_eq_false, not_false_eq_true, true_and, and_true, show ((0 : Int32) = 1) = False by decide]
      exact hQ
    · exact iL_off hS.2.1.1 (by rw [up_n (by omega)]; exact h3)
  · -- a cycle under way
    obtain ⟨c1, X1, M1, R1, S1, MS1, F1⟩ := sim_mark (w := 2) (a := nI h) (b := nI i) hr h0 hvl h3
    generalize hs1 : mkF s (aLn s h i) 2 (nI h) (nI i) = s1 at *
    obtain ⟨e1, o1, zl1, zk1, od1, th1, mk1, mx1⟩ := id MS1
    have hh1 : h < zM s1 := by rw [e1.1.m]; exact hh
    have hl1 : aLv s1 h := (e1.1.lv f1).mpr hl
    have hS := wr_S0 (v := t) S1 hh1 hl1 (by omega) (show aLo s h + i < aSz s1 h by rw [e1.1.sz f1]; omega) (by rw [e1.1.kd f1]; exact hmany) (hv2 e1.1 (e1.1.hv hM ht))
    have hR := wr_SR (v := t) R1 S1 (p := aPl s1 h + (aLo s h + i)) (by rw [e1.1.u, e1.1.pl f1]; omega)
    rw [e1.1.pl f1] at hS hR
    have e2 : hqE s1 (upd s1 (6100 + (aPl s h + (aLo s h + i))) t) := wr_q S1.1 (by omega)
    have f2' : mkE s1 (upd s1 (6100 + (aPl s h + (aLo s h + i))) t) := wr_mk
    have h31 : s1 3 = 1 := by rw [o1 3 (by omega) (by omega) (by omega)]; exact h3
    have h32 : upd s1 (6100 + (aPl s h + (aLo s h + i))) t 3 = 1 := by rw [up_n (by omega)]; exact h31
    have hw2 : ∀ j, j ≠ 6100 + (aPl s h + (aLo s h + i)) → upd s1 (6100 + (aPl s h + (aLo s h + i))) t j = s1 j := fun j hj => up_n hj
    have hw2s : upd s1 (6100 + (aPl s h + (aLo s h + i))) t (6100 + (aPl s h + (aLo s h + i))) = t := up_s
    have emr : ∀ m : gMem, mp (mr m 1 s1) 1 (6100 + (aPl s h + (aLo s h + i))) t = mr m 1 (upd s1 (6100 + (aPl s h + (aLo s h + i))) t) := fun m => mp_mr
    generalize hs2 : upd s1 (6100 + (aPl s h + (aLo s h + i))) t = s2 at *
    obtain ⟨c3, X3, M3, R3, S3, MS3, F3⟩ := sim_mark (w := 3) (a := nI h) (b := nI i) hR hS (e2.hv (by rw [e1.1.m]; exact hM) (e1.1.hv hM ht)) h32
    generalize hs3 : mkF s2 t 3 (nI h) (nI i) = s3 at *
    obtain ⟨e3, o3, zl3, zk3, od3, th3, mk3, mx3⟩ := id MS3
    have eq3 : hqE s s3 := (e1.1.tr e2).tr e3.1
    refine ⟨c3, s3, fun Q hQ => ?_, fun m Q hQ => ?_, R3, ⟨S3, ?_⟩, ?_, eq3⟩
    · unfold wX0_changeLink
      rw [x_linkPlace f1 f11 (by omega) f12 f3, ex, nI_clamp (by omega)]
      refine ⟨vp_in_nI (by omega) (by decide), fun v ev => ?_⟩
      rw [hw] at ev
      subst ev
      refine X1 _ ⟨vp_in_nI (by omega) (by decide), fun c2 ec2 => ?_⟩
      subst ec2
      exact X3 _ hQ
    · unfold wX10_relinks wX10_relinks_p32
      rw [e_linkAt (p := aPl s h) f1 (by rw [mr_s]; exact f2) f3 (by rw [mr_s]; exact f4)]
      rw [show 6100 + aPl s h + loN (aKd s h) + i = 6100 + (aPl s h + (aLo s h + i)) by rw [← hlo]; omega]
      have evv : s (6100 + (aPl s h + (aLo s h + i))) = aLn s h i := by unfold aLn; congr 1; omega
      simp only [forall_eq, mr_s, h3, nI_clamp (show 6100 + (aPl s h + (aLo s h + i)) < 2 ^ 31 by omega), vp_in_nI (show 6100 + (aPl s h + (aLo s h + i)) < 26100 by omega) (show 26100 < 2 ^ 31 by decide), evv, true_implies, false_implies, not_true_eq_false, not_false_eq_true, true_and, and_true]
      refine M1 m _ ?_
      simp only [emr, mr_s, h32, true_implies, false_implies, not_true_eq_false, and_true]
      exact M3 m _ hQ
    · have hK1 : zK s1 ≤ zM s1 := S1.2.1.1.2.2.1
      have ok2 : zK s2 = zK s1 := f2'.k
      have hM1 : zM s1 = zM s := e1.1.m
      refine ⟨fun k hk i' hi' => ?_, fun _ r hr' => ?_⟩
      · by_cases hk2 : k < zK s2
        · rw [(od3 k hk2).1, (od3 k hk2).2] at hi'
          rw [(od3 k hk2).1]
          rw [f2'.od (by omega)] at hi' ⊢
          by_cases hk1 : k < zK s
          · obtain ⟨p1, p2, p3, p4, p5, p6, p7, p8⟩ := hm.2.1 k hk1
            have hth : aTh s2 (aOd s k) = aTh s (aOd s k) := by rw [f2'.th (by omega), (od1 k hk1).2]
            rw [(od1 k hk1).1, hth] at hi'
            rw [(od1 k hk1).1]
            have hin' := aLn_in hp.1 hp.2.1 p2 p3 (show i' < aLk s (aOd s k) by omega)
            by_cases hsame : aOd s k = h ∧ i' = i
            · obtain ⟨q1, q2⟩ := hsame
              have : aLn s3 (aOd s k) i' = t := by
                unfold aLn
                rw [q1, q2, eq3.pl f1, eq3.lo f1, e3.2.2 _ (by omega) (by omega), Nat.add_assoc, Nat.add_assoc]
                exact hw2s
              rw [this]; exact mx3
            · have : aLn s3 (aOd s k) i' = aLn s (aOd s k) i' := by
                unfold aLn
                rw [eq3.pl (by omega), eq3.lo (by omega), e3.2.2 _ (by omega) (by omega), hw2 _ ?_, e1.2.2 _ (by omega) (by omega)]
                by_cases hgh : aOd s k = h
                · rw [hgh] at hsame ⊢
                  have : i' ≠ i := fun q => hsame ⟨rfl, q⟩
                  omega
                · have := cell_apart (j := aLo s h + i) (i := aLo s (aOd s k) + i') hp hh hl p2 p3 (by omega) (by omega) hgh
                  omega
              rw [this]
              exact mk3 _ (f2'.mk (by omega) (mk1 _ (hL.1 k hk1 i' hi')))
          · rw [f2'.th (by have := S1.2.1.2.1 k (by omega); omega), th1 k (by omega) (by omega)] at hi'
            exact absurd hi' (by omega)
        · rw [th3 k (by omega) hk] at hi'; exact absurd hi' (by omega)
      · rw [e3.2.1 _ (by omega) (by omega), hw2 _ (by omega), e1.2.1 _ (by omega) (by omega)]
        exact mk3 _ (f2'.mk (by omega) (mk1 _ (hL.2 h3 r hr')))
    · intro q hq
      rw [F3 q (by omega), mp_n (by omega), F1 q (by omega)]
end LK

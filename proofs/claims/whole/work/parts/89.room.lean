/-! room is made: whole cycles, and what they leave -/
section RM
variable {T : Nat} {c m : gMem} {s : gS}
theorem nI_sub {a b : Nat} (h : b ≤ a) : nI a - nI b = nI (a - b) := by
  have : nI a = nI (a - b) + nI b := by rw [nI_add]; congr 1; omega
  rw [this, Int32.add_sub_cancel]
theorem bit_fix {q : List Nat × Nat × Nat} (h : bstep s q = q) : ∀ n, bit s n q = q := by
  intro n
  induction n with
  | zero => rfl
  | succ n ih => show bit s n (bstep s q) = q; rw [h, ih]
theorem bit_term {l : List Nat} {i : Nat} : bstep s (l, l.length, i) = (l, l.length, i) := by
  unfold bstep
  simp
theorem bit_uniq {q x y : List Nat × Nat × Nat} {a b : Nat} (ha : bit s a q = x) (hb : bit s b q = y) (hx : bstep s x = x) (hy : bstep s y = y) : x = y := by
  by_cases h : a ≤ b
  · have := bit_add (s := s) a (b - a) q
    rw [show a + (b - a) = b by omega, hb, ha, bit_fix hx] at this
    exact this.symm
  · have := bit_add (s := s) b (a - b) q
    rw [show b + (a - b) = a by omega, ha, hb, bit_fix hy] at this
    exact this
theorem bst_term (hL : zL s = zK s) : bst s = (Lst s, (Lst s).length, 0) := by
  unfold bst
  rw [if_neg (by omega), Lst_len, hL]
/-- all that the machine of marks sees of sF is as it was behind the end -/
theorem kp_bit {sF s' : gS} (hI : aSI T sF) (hL : zL sF = zK sF) (e : endE sF s') : ∀ (n : Nat) (q : List Nat × Nat × Nat), (∀ h ∈ q.1, h < zM sF ∧ kpB sF h = true) → bit s' n q = bit sF n q ∧ ∀ h ∈ (bit sF n q).1, h < zM sF ∧ kpB sF h = true := by
  obtain ⟨⟨hp, hmk, -⟩, l1, l2⟩ := id hI
  obtain ⟨im, io, iu⟩ := id hmk
  have hM := hp.1.2.2.2.2.1
  intro n
  induction n with
  | zero => intro q hq; exact ⟨rfl, hq⟩
  | succ n ih =>
    intro q hq
    have hstep : bstep s' q = bstep sF q ∧ ∀ h ∈ (bstep sF q).1, h < zM sF ∧ kpB sF h = true := by
      unfold bstep
      cases hg : q.1[q.2.1]? with
      | none => exact ⟨rfl, hq⟩
      | some h =>
        obtain ⟨h1, h2⟩ := hq h (List.mem_of_getElem? hg)
        obtain ⟨e1, e2, e3, e4⟩ := e.2.2.2.2.2.1 h h1 h2
        simp only
        rw [e3]
        by_cases hi : q.2.2 < aLk sF h
        · rw [if_pos hi, if_pos hi, e4 _ hi]
          refine ⟨rfl, ?_⟩
          obtain ⟨kk, hkk, ek⟩ := Lst_mem.mp ((kp_mem hM hmk h1).mp h2)
          have hth := (io kk hkk).2.2.2.2.2.2.1 (by omega)
          rw [ek] at hth
          have hv := l1 kk hkk q.2.2 (by rw [ek, hth]; exact hi)
          rw [ek] at hv
          intro g hg2
          unfold visit at hg2
          rcases hv with hv | ⟨k2, hk2, hv⟩
          · rw [if_pos hv] at hg2; exact hq g hg2
          · have ho := (io k2 hk2).2.1
            rw [hv, if_neg (nI_m1 (by omega)), nI_clamp (by omega)] at hg2
            split at hg2
            · exact hq g hg2
            · rcases List.mem_append.mp hg2 with z | z
              · exact hq g z
              · rw [List.mem_singleton.mp z]
                exact ⟨ho, (kp_mem hM hmk ho).mpr (Lst_mem.mpr ⟨k2, hk2, rfl⟩)⟩
        · rw [if_neg hi, if_neg hi]; exact ⟨rfl, hq⟩
    show bit s' n (bstep s' q) = bit sF n (bstep sF q) ∧ ∀ h ∈ (bit sF n (bstep sF q)).1, _
    rw [hstep.1]
    exact ih _ hstep.2
theorem kp_rt {sF : gS} (hI : aSI T sF) (h3 : sF 3 = 1) : ∀ (d r : Nat) (l : List Nat), r + d = 24 → (∀ h ∈ l, h < zM sF ∧ kpB sF h = true) → ∀ h ∈ rtV sF r d l, h < zM sF ∧ kpB sF h = true := by
  obtain ⟨⟨hp, hmk, -⟩, l1, l2⟩ := id hI
  have hM := hp.1.2.2.2.2.1
  intro d
  induction d with
  | zero => intro r l _ hl; exact hl
  | succ d ih =>
    intro r l hr hl
    refine ih (r + 1) _ (by omega) (fun g hg => ?_)
    unfold visit at hg
    rcases l2 h3 r (by omega) with hv | ⟨k2, hk2, hv⟩
    · rw [if_pos hv] at hg; exact hl g hg
    · have ho := (hmk.2.1 k2 hk2).2.1
      rw [hv, if_neg (nI_m1 (by omega)), nI_clamp (by omega)] at hg
      split at hg
      · exact hl g hg
      · rcases List.mem_append.mp hg with z | z
        · exact hl g z
        · rw [List.mem_singleton.mp z]
          exact ⟨ho, (kp_mem hM hmk ho).mpr (Lst_mem.mpr ⟨k2, hk2, rfl⟩)⟩
theorem gl_rt (hp : aHp s) : ∀ (d r : Nat) (l : List Nat), r + d = 24 → glL s l → glL s (rtV s r d l) := by
  intro d
  induction d with
  | zero => intro r l _ hl; exact hl
  | succ d ih =>
    intro r l hr hl
    exact ih (r + 1) _ (by omega) (gl_visit hp.1.2.2.2.2.1 hl (hp.2.2.2.2.1 r (by omega)))
theorem sz_map {s s' : gS} {l : List Nat} (h : ∀ x ∈ l, aSz s' x = aSz s x) : (l.map (aSz s')).sum = (l.map (aSz s)).sum := by
  rw [List.map_congr_left h]
theorem hpE_sz {s s' : gS} (hp : aHp s) (e : hpE s s') {l : List Nat} (hl : glL s l) : (l.map (aSz s')).sum = (l.map (aSz s)).sum := sz_map (fun x hx => e.1.sz (by have := hp.1.2.2.2.2.1; have := (hl x hx).1; omega))
/-- what M does once the roots' ints are known to leave room -/
def roomM (l1 l3 l4 : Int32) (m : gMem) (Q : Int32 → gMem → Prop) : Prop := ((m 1 3 = 1 → wX10_wholeCycle m (fun r16 c15 => wX10_makes_p103 l1 l3 l4 c15 Q)) ∧ (¬ m 1 3 = 1 → wX10_makes_p103 l1 l3 l4 m Q))
theorem x_free (R : Rel T c m) {Q : Int32 → gMem → Prop} : wX2_free c Q = Q (nI (zA (m 1) - zU (m 1))) c := by
  unfold wX2_free
  obtain ⟨a1, a2, a3, a4, a5, a6, a7, a8, a9⟩ := R.1.2.1.1.1
  obtain ⟨r1, r2, r3, r4⟩ := R.1.1.1
  simp only [forall_eq]
  rw [show c 2 0 = nI (zA (m 1)) from r1.trans a1, show c 2 1 = nI (zU (m 1)) from r2.trans a6, nI_sub a8]
theorem e_p103 (R : Rel T c m) {l1 l3 : Int32} {n : Nat} (hn : n ≤ 4000) {Q : Int32 → gMem → Prop} : wX10_makes_p103 l1 l3 (nI n) m Q = ((zU (m 1) + n ≤ zA (m 1) → wX10_makes_p127 l1 l3 (nI n) m Q) ∧ (¬ zU (m 1) + n ≤ zA (m 1) → wX10_wholeCycle m (fun r5 c4 => wX10_makes_p127 l1 l3 (nI n) c4 Q))) := by
  unfold wX10_makes_p103
  obtain ⟨a1, a2, a3, a4, a5, a6, a7, a8, a9⟩ := R.1.2.1.1.1
  simp only [forall_eq]
  rw [a1, a6, nI_sub a8]
  have : (nI n ≤ nI (zA (m 1) - zU (m 1))) = (zU (m 1) + n ≤ zA (m 1)) := propext (by rw [nI_leI (by omega) (by omega)]; omega)
  rw [this]
theorem sim_room {l1 l3 : Int32} {n : Nat} {l : List Nat} {k : Nat} (R : Rel T c m) (hT : T < 2 ^ 28) (hn : n ≤ 4000) (hno : ¬ zU (m 1) + n ≤ zA (m 1)) (hb : bit (m 1) k (rtV (m 1) 0 24 [], 0, 0) = (l, l.length, 0)) (hfit : (l.map (aSz (m 1))).sum + n ≤ zA (m 1)) :
    ∃ c' m', (∀ Q, wX0_makeCell_p109 l1 l3 (nI n) c' Q → wX0_makeCell_p78 l1 l3 (nI n) 0 c Q) ∧ (∀ Q, wX10_makes_p127 l1 l3 (nI n) m' Q → roomM l1 l3 (nI n) m Q) ∧ Rel (T + 1000) c' m' ∧ zU (m' 1) + n ≤ zA (m' 1) ∧ m' 1 1 = m 1 1 ∧ m' 0 = m 0 := by
  have hp := R.1.2.1.1
  have hM := R.made.2.1
  have hgR : glL (m 1) (rtV (m 1) 0 24 []) := gl_rt hp 24 0 [] (by omega) (fun h hh => absurd hh List.not_mem_nil)
  have hgl : glL (m 1) l := by have := gl_bit hp k (rtV (m 1) 0 24 [], 0, 0) hgR; rw [hb] at this; exact this
  have hle : ∀ (c' m' : gMem) (T' : Nat), Rel T' c' m' → (nI n ≤ nI (zA (m' 1) - zU (m' 1)) ↔ zU (m' 1) + n ≤ zA (m' 1)) := by
    intro c' m' T' R'
    obtain ⟨a1, a2, a3, a4, a5, a6, a7, a8, a9⟩ := R'.1.2.1.1.1
    rw [nI_leI (by omega) (by omega)]; omega
  -- one turn of the class's loop
  have turn : ∀ (c1 m1 c2 : gMem) (T1 : Nat) (i : Nat), i < 2 → Rel T1 c1 m1 → ¬ zU (m1 1) + n ≤ zA (m1 1) → Dv (wX7_finish c1) c2 → ∀ Q, wX0_makeCell_p78 l1 l3 (nI n) (nI (i + 1)) c2 Q → wX0_makeCell_p78 l1 l3 (nI n) (nI i) c1 Q := by
    intro c1 m1 c2 T1 i hi R1 hn1 X Q hQ P hP
    refine hP _ _ _ _ _ ?_
    unfold wX0_makeCell_p78_b
    simp only [show ¬ (2 : Int32) ≤ nI i from nI_ge (b := 2) hi (by decide), true_implies, not_false_eq_true, false_implies, true_and]
    rw [x_free R1]
    simp only [hle c1 m1 T1 R1, hn1, true_implies, not_false_eq_true, false_implies, true_and]
    refine X _ ?_
    rw [nI_1]; exact hQ P hP
  have stop : ∀ (c1 m1 : gMem) (T1 : Nat) (i : Nat), i < 2 → Rel T1 c1 m1 → zU (m1 1) + n ≤ zA (m1 1) → ∀ Q, wX0_makeCell_p109 l1 l3 (nI n) c1 Q → wX0_makeCell_p78 l1 l3 (nI n) (nI i) c1 Q := by
    intro c1 m1 T1 i hi R1 hn1 Q hQ P hP
    refine hP _ _ _ _ _ ?_
    unfold wX0_makeCell_p78_b
    simp only [show ¬ (2 : Int32) ≤ nI i from nI_ge (b := 2) hi (by decide), true_implies, not_false_eq_true, false_implies, true_and]
    rw [x_free R1]
    simp only [hle c1 m1 T1 R1, hn1, true_implies, not_true_eq_false, false_implies, and_true]
    exact hQ
  obtain ⟨c1, m1, sF, k1, X1, M1, R1, o1, E1, I1, h31, hL1, b1, e1⟩ := sim_fin R (by omega)
  have a1' : zA (m1 1) = zA (m 1) := (nn_cong e1.1).trans E1.1.a
  have q1 : m1 1 1 = m 1 1 := e1.2.1.trans (E1.1.1 1 (by omega))
  rcases R.h3.1 with h3 | h3
  · have hst : stB (m 1) = (rtV (m 1) 0 24 [], 0, 0) := by unfold stB; rw [if_pos h3]
    rw [hst, bst_term hL1] at b1
    have hE : (Lst sF, (Lst sF).length, 0) = (l, l.length, 0) := bit_uniq (s := m 1) b1.symm hb bit_term bit_term
    have hl : Lst sF = l := congrArg Prod.fst hE
    have hU : zU (m1 1) = (l.map (aSz (m 1))).sum := by rw [e1.2.2.2.1, hl, hpE_sz hp E1 hgl]
    have fits : zU (m1 1) + n ≤ zA (m1 1) := by omega
    refine ⟨c1, m1, fun Q hQ => turn c m c1 T 0 (by omega) R hno X1 Q (stop c1 m1 _ 1 (by omega) R1 fits Q hQ), fun Q hQ => ⟨fun z => absurd (h3.symm.trans z) (by decide), fun _ => ?_⟩, R1.mono (by omega), fits, q1, o1⟩
    rw [e_p103 R hn]
    refine ⟨fun z => absurd z hno, fun _ => M1 _ hQ⟩
  · by_cases fits : zU (m1 1) + n ≤ zA (m1 1)
    · refine ⟨c1, m1, fun Q hQ => turn c m c1 T 0 (by omega) R hno X1 Q (stop c1 m1 _ 1 (by omega) R1 fits Q hQ), fun Q hQ => ⟨fun _ => M1 _ ?_, fun z => absurd h3 z⟩, R1.mono (by omega), fits, q1, o1⟩
      rw [e_p103 R1 hn]
      exact ⟨fun _ => hQ, fun z => absurd fits z⟩
    · obtain ⟨c2, m2, sG, k2, X2, M2, R2, o2, E2, I2, h32, hL2, b2, e2⟩ := sim_fin R1 (by omega)
      have hst : stB (m1 1) = (rtV (m1 1) 0 24 [], 0, 0) := by unfold stB; rw [if_pos e1.2.2.1]
      rw [hst, bst_term hL2] at b2
      have hr1 : rtV (m1 1) 0 24 [] = rtV sF 0 24 [] := rtV_cong (fun j j1 j2 => by
        obtain ⟨r, rfl⟩ : ∃ r, j = 20 + r := ⟨j - 20, by omega⟩
        exact e1.2.2.2.2.2.2 r (by omega)) 24 0 [] (by omega)
      have hr2 : rtV sF 0 24 [] = rtV (m 1) 0 24 [] := rtV_cong (fun j j1 j2 => E1.2.1 j (by omega) (by omega)) 24 0 [] (by omega)
      have hkp := kp_rt I1 h31 24 0 [] (by omega) (fun h hh => absurd hh List.not_mem_nil)
      obtain ⟨w1, w2⟩ := kp_bit I1 hL1 e1 k2 (rtV sF 0 24 [], 0, 0) hkp
      rw [hr1, w1, hr2] at b2
      rw [hr2] at w2
      rw [bit_cong hp E1 k2 (rtV (m 1) 0 24 [], 0, 0) hgR] at b2 w2
      have hE : (Lst sG, (Lst sG).length, 0) = (l, l.length, 0) := bit_uniq (s := m 1) b2.symm hb bit_term bit_term
      have hl : Lst sG = l := congrArg Prod.fst hE
      have hpG := R1.1.2.1.1
      have hlm : ∀ x ∈ l, aSz (m1 1) x = aSz (m 1) x := by
        intro x hx
        have hx2 := w2 x (by rw [← b2, hl]; exact hx)
        have := E1.1.m
        rw [(e1.2.2.2.2.2.1 x hx2.1 hx2.2).2.1]; exact E1.1.sz (by omega)
      have hg1 : glL (m1 1) l := by
        intro x hx
        have hx2 := w2 x (by rw [← b2, hl]; exact hx)
        exact ⟨by have := nn_cong e1.2.1; have h2 : zM (m1 1) = zM sF := this; omega, (e1.2.2.2.2.2.1 x hx2.1 hx2.2).1⟩
      have hU : zU (m2 1) = (l.map (aSz (m 1))).sum := by rw [e2.2.2.2.1, hl, hpE_sz hpG E2 hg1, sz_map hlm]
      have a2' : zA (m2 1) = zA (m 1) := ((nn_cong e2.1).trans E2.1.a).trans a1'
      refine ⟨c2, m2, fun Q hQ => turn c m c1 T 0 (by omega) R hno X1 Q (turn c1 m1 c2 _ 1 (by omega) R1 fits X2 Q ?_), fun Q hQ => ⟨fun _ => M1 _ ?_, fun z => absurd h3 z⟩, R2.mono (by omega), by omega, (e2.2.1.trans (E2.1.1 1 (by omega))).trans q1, o2.trans o1⟩
      · intro P hP
        refine hP _ _ _ _ _ ?_
        unfold wX0_makeCell_p78_b
        simp only [show (2 : Int32) ≤ nI (1 + 1) by decide, true_implies, not_true_eq_false, false_implies, and_true]
        exact hQ
      · rw [e_p103 R1 hn]
        exact ⟨fun z => absurd z fits, fun _ => M2 _ hQ⟩
end RM

/-! begin -/
section BG
variable {T : Nat} {c : gMem} {s : gS}
theorem rtV_cong {s s' : gS} (h : ∀ j, 20 ≤ j → j < 44 → s' j = s j) : ∀ (d r : Nat) (l : List Nat), r + d = 24 → rtV s' r d l = rtV s r d l := by
  intro d
  induction d with
  | zero => intro r l _; rfl
  | succ d ih =>
    intro r l hrd
    show rtV s' (r + 1) d (visit l (s' (20 + r))) = rtV s (r + 1) d (visit l (s (20 + r)))
    rw [h _ (by omega) (by omega), ih _ _ (by omega)]
theorem sim_begin (hr : aSR 1 c s) (hI : aSI T s) (h3 : s 3 = 0) : ∃ c' s', Dv (wX7_begin c) c' ∧ (∀ m, Dv (wX10_begin (mr m 1 s)) (mr m 1 s')) ∧ aSR 1 c' s' ∧ aSI T s' ∧ s' 3 = 1 ∧ hpE s s' ∧ (∀ i, i < 6 ∨ 11 < i → c' i = c i) ∧ bst s' = (rtV s 0 24 [], 0, 0) := by
  obtain ⟨⟨hp, hmk, it, ip, ig⟩, l1, l2⟩ := id hI
  obtain ⟨im, io, iu⟩ := id hmk
  obtain ⟨a1, a2, a3, a4, a5, a6, a7, a8, a9⟩ := id hp.1
  have k0 : zK s = 0 := im.2.2.2.2.2 h3
  have hl0 : zL s = 0 := by have := im.2.2.2.2.1; omega
  have e4 : s 4 = 0 := by rw [im.2.1, k0]; rfl
  have e17 : s 17 = 0 := by rw [im.2.2.2.1, hl0]; rfl
  have hm0 : ∀ h, h < zM s → s (1105 + 10 * h) = 0 := fun h hh => (iu h hh).resolve_right (fun ⟨k, hk, _⟩ => by omega)
  obtain ⟨r1, r2, r3, r4, r5, r6, r7, r8, r9, r10⟩ := hr
  have ho : ∀ j, j ≠ 3 → upd (upd (upd s 3 1) 4 0) 17 0 j = s j := by
    intro j hj
    by_cases h1 : j = 17
    · subst h1; rw [up_s, e17]
    · rw [up_n h1]
      by_cases h2 : j = 4
      · subst h2; rw [up_s, e4]
      · rw [up_n h2, up_n hj]
  have e3 : upd (upd (upd s 3 1) 4 0) 17 0 3 = 1 := by rw [up_n (by decide), up_n (by decide), up_s]
  have emr : ∀ m : gMem, mp (mp (mp (mr m 1 s) 1 3 1) 1 4 0) 1 17 0 = mr m 1 (upd (upd (upd s 3 1) 4 0) 17 0) := fun m => by rw [mp_mr, mp_mr, mp_mr]
  generalize upd (upd (upd s 3 1) 4 0) 17 0 = s1 at ho e3 emr
  have e : hpE s s1 := ⟨⟨fun j hj => ho j (by omega), fun h w hh hw => ho _ (by omega)⟩, fun j a b => ho _ (by omega), fun j a b => ho _ (by omega)⟩
  have zl : zL s1 = 0 := (nn_cong (ho 17 (by decide))).trans hl0
  have zk : zK s1 = 0 := (nn_cong (ho 4 (by decide))).trans k0
  have hcc : ∃ c1 : gMem, (∀ Q : gMem → Prop, Q c1 → wX3_wipe c (fun c1 => ∀ c2, c2 = mp c1 6 0 1 → Q c2)) ∧ (∀ i, i ≠ 6 → i ≠ 8 → c1 i = c i) ∧ c1 6 0 = 1 ∧ c1 6 1 = 0 ∧ c1 6 2 = 0 ∧ c1 6 3 = 0 ∧ ∀ k, c1 8 k = 0 := by
    apply Exists.intro
    apply And.intro
    · intro Q hQ
      unfold wX3_wipe
      simp only [forall_eq]
      exact hQ
    · refine ⟨fun i h1 h2 => ?_, ?_, ?_, ?_, ?_, fun k => ?_⟩
      · rw [mp_n h1, mr_n h2, mp_n h1, mp_n h1, mp_n h1, mp_n h1]
      · simp [mp_s, mp_n, mr_n, mr_s, up_s, up_n]
      · simp [mp_s, mp_n, mr_n, mr_s, up_s, up_n]
      · simp [mp_s, mp_n, mr_n, mr_s, up_s, up_n]
      · simp [mp_s, mp_n, mr_n, mr_s, up_s, up_n]
      · simp [mp_s, mp_n, mr_n, mr_s, up_s, up_n]
  obtain ⟨c1, X1, hc, c60, c61, c62, c63, c8⟩ := hcc
  have R1 : aSR 1 c1 s1 := by
    refine ⟨rH_cong e.1 (fun k _ => by rw [hc _ (by decide) (by decide)]) r1, rW_cong e.1.u (by omega) (fun k hk => e.2.2 _ (by omega) (by omega)) (fun k _ => by rw [hc _ (by decide) (by decide)]) r2, rC_cong e.1 a5 (fun k _ => by rw [hc _ (by decide) (by decide)]) (fun k _ => by rw [hc _ (by decide) (by decide)]) r3, ⟨?_, ?_, ?_, ?_⟩, fun k hk => by omega, ⟨fun h hh => ?_, fun h _ _ => c8 h⟩, rT_cong ⟨fun q _ _ => ho _ (by omega), fun q _ _ => ho _ (by omega)⟩ (fun k _ => by rw [hc _ (by decide) (by decide)]) (fun k _ => by rw [hc _ (by decide) (by decide)]) r7, rP_cong ⟨ho _ (by decide), fun q hq => ⟨ho _ (by omega), ho _ (by omega)⟩⟩ (by rw [hc _ (by decide) (by decide)]) (fun k _ => by rw [hc _ (by decide) (by decide)]) (fun k _ => by rw [hc _ (by decide) (by decide)]) r8, rG_cong ⟨fun q _ _ => ho _ (by omega), fun q _ _ => ho _ (by omega), fun q _ _ => ho _ (by omega)⟩ ig (fun k _ => by rw [hc _ (by decide) (by decide)]) (fun k _ => by rw [hc _ (by decide) (by decide)]) (fun k _ => by rw [hc _ (by decide) (by decide)]) r9, rR_cong (fun q _ _ => ho _ (by omega)) (fun k _ => by rw [hc _ (by decide) (by decide)]) (fun k _ => by rw [hc _ (by decide) (by decide)]) r10⟩
    · exact c60.trans e3.symm
    · exact c61.trans (by rw [ho 4 (by decide), e4])
    · exact c62.trans (by rw [ho 17 (by decide), e17])
    · rw [if_neg (by omega)]; exact c63
    · rw [e.1.m] at hh
      rw [ho _ (by omega), hm0 h hh]; exact c8 h
  have S1 : aS0 T s1 := by
    refine ⟨e.all hp, ⟨?_, fun k hk => by omega, fun h hh => ?_⟩, iT_cong (ho _ (by decide)) it, iP_cong (ho _ (by decide)) ip, iG_cong ⟨fun q h1 h2 => ho _ (by omega), fun q h1 h2 => ho _ (by omega), fun q h1 h2 => ho _ (by omega)⟩ ig⟩
    · unfold iM
      rw [zk, zl, ho 4 (by decide), ho 17 (by decide), e4, e17]
      exact ⟨Or.inr e3, rfl, Nat.zero_le _, rfl, Nat.le_refl _, fun _ => rfl⟩
    · rw [e.1.m] at hh
      exact Or.inl (by rw [ho _ (by omega)]; exact hm0 h hh)
  obtain ⟨c2, s2, X2, M2, R2, I2, h32, E2, F2, b2, l2', z2⟩ := begin_loop (T := T) 24 0 c1 s1 (by decide) R1 S1 e3 zl (fun k hk => by omega) (fun q hq => by omega) (Or.inl zk)
  refine ⟨c2, s2, fun Q hQ => ?_, fun m Q hQ => ?_, R2, I2, h32, e.tr E2, fun i hi => by rw [F2 i hi, hc i (by omega) (by omega)], ?_⟩
  · unfold wX7_begin
    have := X1 (fun c2 => wX7_begin_p17 0 c2 Q) (X2 Q hQ)
    exact this
  · unfold wX10_begin
    simp only [forall_eq]
    rw [emr]
    exact M2 m Q hQ
  · have hl1 : Lst s1 = [] := by unfold Lst; rw [zk]; rfl
    unfold bst
    rw [b2, hl1, l2', rtV_cong (s := s) (fun j h1 h2 => ho j (by omega)) 24 0 [] (by decide)]
    congr 2
    by_cases h : 0 < zK s2
    · rw [if_pos h]; exact z2.resolve_left (by omega)
    · rw [if_neg h]
end BG

/-! a row that is kept: where it agrees, all stays true -/
def kpE (s s' : gS) : Prop := (∀ k, k < 1100 + 10 * zM s → s' k = s k) ∧ (∀ k, k < zA s → s' (6100 + k) = s (6100 + k)) ∧ ∀ k, k < zR s → s' (10100 + k) = s (10100 + k) ∧ s' (18100 + k) = s (18100 + k)
section KP
variable {T b : Nat} {c : gMem} {s s' : gS}
theorem kpE.n (e : kpE s s') {k : Nat} (hk : k < 1100 + 10 * zM s) : nn s' k = nn s k := nn_cong (e.1 k hk)
theorem kpE.sz (e : kpE s s') {h : Nat} (hh : h < zM s) : aSz s' h = aSz s h := by unfold aSz; rw [show aKd s' h = aKd s h from e.n (by omega), show aMn s' h = aMn s h from e.n (by omega)]
theorem kpE.lk (e : kpE s s') {h : Nat} (hh : h < zM s) : aLk s' h = aLk s h := by unfold aLk; rw [show aKd s' h = aKd s h from e.n (by omega), show aMn s' h = aMn s h from e.n (by omega)]
theorem kpE.lo (e : kpE s s') {h : Nat} (hh : h < zM s) : aLo s' h = aLo s h := by unfold aLo; rw [show aKd s' h = aKd s h from e.n (by omega)]
theorem kpE.ps (e : kpE s s') {j : Nat} (hj : j ≤ zM s) : aPs s' j = aPs s j := by
  induction j with
  | zero => rfl
  | succ j ih =>
    show aPs s' j + (if s' (1100 + 10 * j) = 1 then aSz s' j else 0) = aPs s j + (if s (1100 + 10 * j) = 1 then aSz s j else 0)
    rw [ih (by omega), e.1 _ (by omega), e.sz (by omega)]
theorem kpE.cn (e : kpE s s') {j : Nat} (hj : j ≤ zM s) : aCn s' j = aCn s j := by
  induction j with
  | zero => rfl
  | succ j ih =>
    show aCn s' j + (if s' (1100 + 10 * j) = 1 then 1 else 0) = aCn s j + (if s (1100 + 10 * j) = 1 then 1 else 0)
    rw [ih (by omega), e.1 _ (by omega)]
theorem kpE.hv (e : kpE s s') {x : Int32} (h : aHv s x) : aHv s' x := by
  rcases h with h | ⟨t, ht, hx, hl⟩
  · exact Or.inl h
  · exact Or.inr ⟨t, by rw [show zM s' = zM s from e.n (by omega)]; exact ht, hx, by unfold aLv; rw [e.1 _ (by omega)]; exact hl⟩
theorem kpE.mk (e : kpE s s') (hK : zK s ≤ 500) {x : Int32} (h : aMk s x) : aMk s' x := by
  rcases h with h | ⟨k, hk, hx⟩
  · exact Or.inl h
  · exact Or.inr ⟨k, by rw [show zK s' = zK s from e.n (by omega)]; exact hk, by rw [show aOd s' k = aOd s k from e.n (by omega)]; exact hx⟩
theorem kpE.ln (e : kpE s s') (ha : iA s) (hc : iC s) {h i : Nat} (hh : h < zM s) (hl : aLv s h) (hi : i < aLk s h) : aLn s' h i = aLn s h i := by
  have := aLn_in ha hc hh hl hi
  have h8 := ha.2.2.2.2.2.2.2.1
  unfold aLn
  rw [show aPl s' h = aPl s h from e.n (by omega), e.lo hh, Nat.add_assoc, Nat.add_assoc, e.2.1 _ (by omega)]
theorem kpE.SI (e : kpE s s') (hI : aSI T s) : aSI T s' := by
  obtain ⟨⟨⟨ia, ic, iz, inn, ir⟩, ⟨im, io, iu⟩, it, ip, n, j, g1, g2, g3, g4, g5⟩, l1, l2⟩ := hI
  obtain ⟨a1, a2, a3, a4, a5, a6, a7, a8, a9⟩ := id ia
  have hK := im.2.2.1
  have z0 : zA s' = zA s := e.n (by omega)
  have z1 : zM s' = zM s := e.n (by omega)
  have z4 : zK s' = zK s := e.n (by omega)
  have z16 : zU s' = zU s := e.n (by omega)
  have z17 : zL s' = zL s := e.n (by omega)
  have z15 : zR s' = zR s := e.n (by omega)
  have z10 : zT s' = zT s := e.n (by omega)
  have zod : ∀ k, k < 500 → aOd s' k = aOd s k := fun k hk => e.n (by omega)
  have zth : ∀ h, h < zM s → aTh s' h = aTh s h := fun h hh => e.n (by omega)
  refine ⟨⟨⟨?_, ?_, ?_, ?_, ?_⟩, ⟨?_, ?_, ?_⟩, ?_, ?_, n, j, ?_, g2, ?_, g4, ?_⟩, ?_, ?_⟩
  · unfold iA; rw [z0, z1, z16, e.1 0 (by omega), e.1 1 (by omega), e.1 16 (by omega), e.1 2 (by omega), e.ps (Nat.le_refl _), e.cn (Nat.le_refl _)]; exact ia
  · intro q hq
    rw [z1] at hq
    rw [e.1 _ (by omega), e.1 _ (by omega), e.1 _ (by omega), e.1 _ (by omega), show aKd s' q = aKd s q from e.n (by omega), show aPl s' q = aPl s q from e.n (by omega), show aMn s' q = aMn s q from e.n (by omega), e.ps (by omega)]
    rcases ic q hq with g | ⟨g0, g1, g2, g3, g4, g5, g6, g7, g8⟩
    · exact Or.inl g
    · have hf : aPs s q + aSz s q ≤ aPs s (zM s) := aPs_fit g0 hq
      have hz2 : 2 ≤ aSz s q := (szN_ge (n := aMn s q) g2).2
      refine Or.inr ⟨g0, g1, g2, g3, g4, g5, g6, ?_, fun hm => ?_⟩
      · rw [e.2.1 _ (by omega)]; exact g7
      · rw [Nat.add_assoc, e.2.1 _ (by omega), ← Nat.add_assoc]; exact g8 hm
  · intro k h1 h2
    rw [z16] at h1; rw [z0] at h2
    rw [e.2.1 _ h2]; exact iz k h1 h2
  · intro q hq hl
    rw [z1] at hq
    have hl' : aLv s q := by unfold aLv at *; rw [e.1 _ (by omega)] at hl; exact hl
    rw [e.lk hq, show aKd s' q = aKd s q from e.n (by omega), show aPl s' q = aPl s q from e.n (by omega)]
    obtain ⟨n1, n2⟩ := inn q hq hl'
    refine ⟨fun i hi => ?_, fun hk => ?_⟩
    · rw [e.ln ia ic hq hl' hi]; exact e.hv (n1 i hi)
    · rcases ic q hq with g | ⟨g0, g1, g2, g3, g4, g5, g6, g7, g8⟩
      · rw [hl'] at g; exact absurd g (by decide)
      have hf : aPs s q + aSz s q ≤ aPs s (zM s) := aPs_fit g0 hq
      have hz : 3 ≤ aSz s q := by unfold aSz szN; rcases hk with hk | hk <;> rw [hk] <;> simp
      rw [Nat.add_assoc, e.2.1 _ (by omega), ← Nat.add_assoc]; exact e.hv (n2 hk)
  · obtain ⟨i1, i2, i3⟩ := ir
    refine ⟨fun r hr => ?_, fun k hk => ?_, fun r hr => ?_⟩
    · rw [e.1 _ (by omega)]; exact e.hv (i1 r hr)
    · rw [e.1 _ (by omega)]; exact e.hv (i2 k hk)
    · rw [e.1 _ (by omega), z1]; exact i3 r hr
  · unfold iM; rw [z4, z17, z1, e.1 3 (by omega), e.1 4 (by omega), e.1 17 (by omega)]; exact im
  · intro k hk
    rw [z4] at hk
    obtain ⟨o1, o2, o3, o4, o5, o6, o7, o8⟩ := io k hk
    rw [zod k (by omega), e.1 (600 + k) (by omega), z1, e.1 (1105 + 10 * aOd s k) (by omega), e.1 (1109 + 10 * aOd s k) (by omega), zth _ o2, e.lk o2, z17]
    exact ⟨o1, o2, by unfold aLv; rw [e.1 _ (by omega)]; exact o3, o4, o5, o6, o7, o8⟩
  · intro q hq
    rw [z1] at hq
    rw [e.1 _ (by omega)]
    rcases iu q hq with g | ⟨k, hk, g⟩
    · exact Or.inl g
    · exact Or.inr ⟨k, by rw [z4]; exact hk, by rw [zod k (by omega)]; exact g⟩
  · unfold iT; rw [z10, e.1 10 (by omega)]; exact it
  · unfold iP; rw [z15, e.1 15 (by omega)]; exact ip
  · rw [e.1 _ (by omega)]; exact g1
  · rw [e.1 _ (by omega)]; exact g3
  · intro q hq
    rw [e.1 _ (by omega), e.1 _ (by omega), e.1 _ (by omega), e.1 _ (by omega)]; exact g5 q hq
  · intro k hk i hi
    rw [z4] at hk
    obtain ⟨o1, o2, o3, o4, o5, o6, o7, o8⟩ := io k hk
    rw [zod k (by omega), zth _ o2] at hi
    rw [zod k (by omega), e.ln ia ic o2 o3 (by omega)]
    exact e.mk (by omega) (l1 k hk i hi)
  · intro h3 r hr
    rw [e.1 _ (by omega)] at h3 ⊢
    exact e.mk (by omega) (l2 h3 r hr)
theorem kpE.SR (e : kpE s s') (hI : aSI T s) (hr : aSR b c s) : aSR b c s' := by
  obtain ⟨⟨⟨ia, ic, iz, inn, ir⟩, ⟨im, io, iu⟩, it, ip, n, j, g1, g2, g3, g4, g5⟩, l1, l2⟩ := hI
  obtain ⟨a1, a2, a3, a4, a5, a6, a7, a8, a9⟩ := id ia
  obtain ⟨r1, r2, r3, r4, r5, r6, r7, r8, r9, r10⟩ := hr
  have hK := im.2.2.1
  have z1 : zM s' = zM s := e.n (by omega)
  have z4 : zK s' = zK s := e.n (by omega)
  have z16 : zU s' = zU s := e.n (by omega)
  have z17 : zL s' = zL s := e.n (by omega)
  have z15 : zR s' = zR s := e.n (by omega)
  have z10 : zT s' = zT s := e.n (by omega)
  have z11 : nn s' 11 = nn s 11 := e.n (by omega)
  have eg : nn s 11 = n := nn_nI g1 (by omega)
  have zod : ∀ k, k < 500 → aOd s' k = aOd s k := fun k hk => e.n (by omega)
  refine ⟨?_, ?_, ?_, ?_, ?_, ?_, ?_, ?_, ?_, ?_⟩
  · unfold rH at *; rw [e.1 0 (by omega), e.1 1 (by omega), e.1 16 (by omega), e.1 2 (by omega)]; exact r1
  · unfold rW at *; rw [z16]; exact ⟨fun k hk => by rw [e.2.1 k (by omega)]; exact r2.1 k hk, r2.2⟩
  · intro h hh
    rw [z1] at hh
    unfold aLv
    rw [e.1 _ (by omega), e.1 _ (by omega), e.1 _ (by omega)]; exact r3 h hh
  · unfold rM at *
    rw [z17, z4, e.1 3 (by omega), e.1 4 (by omega), e.1 17 (by omega)]
    refine ⟨r4.1, r4.2.1, r4.2.2.1, ?_⟩
    rw [r4.2.2.2]
    by_cases hl : zL s < zK s
    · have := (io _ hl).2.1
      rw [if_pos hl, if_pos hl, zod _ (by omega), e.1 _ (by omega)]
    · rw [if_neg hl, if_neg hl]
  · intro k hk
    rw [z4] at hk
    have := (io k hk).2.1
    rw [zod k (by omega), e.1 _ (by omega), e.1 _ (by omega), e.1 _ (by omega), e.1 _ (by omega)]; exact r5 k hk
  · unfold rK at *; rw [z1]; exact ⟨fun h hh => by rw [e.1 _ (by omega)]; exact r6.1 h hh, r6.2⟩
  · unfold rT at *; rw [z10]; exact ⟨fun k hk => by rw [e.1 _ (by omega)]; exact r7.1 k hk, fun k h1 h2 => by rw [e.1 _ (by omega)]; exact r7.2 k h1 h2⟩
  · unfold rP at *; rw [z15, e.1 15 (by omega)]; exact ⟨r8.1, fun k hk => by rw [(e.2.2 k hk).1, (e.2.2 k hk).2]; exact r8.2 k hk⟩
  · unfold rG at *; rw [z11]; exact ⟨fun k hk => by rw [e.1 _ (by omega)]; exact r9.1 k hk, fun k hk => by rw [e.1 _ (by omega)]; exact r9.2.1 k hk, fun r hr => by rw [e.1 _ (by omega)]; exact r9.2.2 r hr⟩
  · unfold rR at *; exact ⟨fun r hr => by rw [e.1 _ (by omega)]; exact r10.1 r hr, fun k hk => by rw [e.1 _ (by omega)]; exact r10.2 k hk⟩
end KP

/-! groups of the relation: what they need -/
def taE (s s' : gS) : Prop := (∀ j, 5 ≤ j → j < 11 → s' j = s j) ∧ ∀ j, 100 ≤ j → j < 400 → s' j = s j
def paE (s s' : gS) : Prop := s' 15 = s 15 ∧ ∀ k, k < zR s → s' (10100 + k) = s (10100 + k) ∧ s' (18100 + k) = s (18100 + k)
def pgE (s s' : gS) : Prop := (∀ j, 11 ≤ j → j < 15 → s' j = s j) ∧ (∀ j, 400 ≤ j → j < 600 → s' j = s j) ∧ ∀ j, 76 ≤ j → j < 84 → s' j = s j
def rtE (s s' : gS) : Prop := ∀ j, 20 ≤ j → j < 76 → s' j = s j
section GR
variable {b b' : Nat} {c c' : gMem} {s s' : gS}
theorem rH_cong (e : hqE s s') (h : ∀ k, k < 4 → c' (b' + 1) k = c (b + 1) k) (r : rH b c s) : rH b' c' s' := by
  unfold rH at *
  rw [h 0 (by decide), h 1 (by decide), h 2 (by decide), h 3 (by decide), e.1 0 (by simp), e.1 1 (by simp), e.1 2 (by simp), e.1 16 (by simp)]
  exact r
theorem rW_cong (hu : zU s' = zU s) (hU : zU s ≤ 4000) (hw : ∀ k, k < zU s → s' (6100 + k) = s (6100 + k)) (h : ∀ k, k < 4000 → c' (b' + 2) k = c (b + 2) k) (r : rW b c s) : rW b' c' s' := by
  refine ⟨fun k hk => ?_, fun k h1 h2 => ?_⟩
  · rw [hu] at hk; rw [h k (by omega), hw k hk]; exact r.1 k hk
  · rw [hu] at h1; rw [h k h2]; exact r.2 k h1 h2
theorem rC_cong (e : hqE s s') (hM : zM s ≤ 500) (h3 : ∀ k, k < 500 → c' (b' + 3) k = c (b + 3) k) (h4 : ∀ k, k < 500 → c' (b' + 4) k = c (b + 4) k) (r : rC b c s) : rC b' c' s' := by
  intro h hh
  rw [e.m] at hh
  have e2 := e.2 h 2 (by omega) (by decide)
  have e4 := e.2 h 4 (by omega) (by decide)
  simp only [Nat.reduceAdd] at e2 e4
  rw [h3 h (by omega), h4 h (by omega), e.lv (by omega), e2, e4]
  exact r h hh
theorem rM_cong (f : mkE s s') (hm : iM s ∧ iO s ∧ iU s) (hM : zM s ≤ 500) (h : ∀ k, k < 4 → c' (b' + 5) k = c (b + 5) k) (r : rM b c s) : rM b' c' s' := by
  have hK := hm.1.2.2.1
  unfold rM at *
  rw [h 0 (by decide), h 1 (by decide), h 2 (by decide), h 3 (by decide), f.k, f.l, f.1 3 (by simp), f.1 4 (by simp), f.1 17 (by simp)]
  refine ⟨r.1, r.2.1, r.2.2.1, ?_⟩
  rw [r.2.2.2]
  by_cases hl : zL s < zK s
  · have e9 := f.2.2 (aOd s (zL s)) 9 (by have := (hm.2.1 _ hl).2.1; omega) (by decide) (by decide)
    simp only [Nat.reduceAdd] at e9
    rw [if_pos hl, if_pos hl, f.od (by omega), e9]
  · rw [if_neg hl, if_neg hl]
theorem rO_cong (f : mkE s s') (hm : iM s ∧ iO s ∧ iU s) (hM : zM s ≤ 500) (h6 : ∀ k, k < 500 → c' (b' + 6) k = c (b + 6) k) (h8 : ∀ k, k < 500 → c' (b' + 8) k = c (b + 8) k) (h9 : ∀ k, k < 500 → c' (b' + 9) k = c (b + 9) k) (h10 : ∀ k, k < 500 → c' (b' + 10) k = c (b + 10) k) (r : rO b c s) : rO b' c' s' := by
  have hK := hm.1.2.2.1
  intro k hk
  rw [f.k] at hk
  have ho := (hm.2.1 k hk).2.1
  have e6 := f.2.2 (aOd s k) 6 (by omega) (by decide) (by decide)
  have e7 := f.2.2 (aOd s k) 7 (by omega) (by decide) (by decide)
  have e8 := f.2.2 (aOd s k) 8 (by omega) (by decide) (by decide)
  simp only [Nat.reduceAdd] at e6 e7 e8
  rw [f.od (by omega), h6 k (by omega), h8 _ (by omega), h9 _ (by omega), h10 _ (by omega), e6, e7, e8, f.2.1 _ (by omega) (by omega)]
  exact r k hk
theorem rK_cong (f : mkE s s') (hm : zM s' = zM s) (hM : zM s ≤ 500) (h7 : ∀ k, k < 500 → c' (b' + 7) k = c (b + 7) k) (r : rK b c s) : rK b' c' s' := by
  refine ⟨fun h hh => ?_, fun h h1 h2 => ?_⟩
  · rw [hm] at hh
    have e5 := f.2.2 h 5 (by omega) (by decide) (by decide)
    simp only [Nat.reduceAdd] at e5
    rw [h7 h (by omega), e5]; exact r.1 h hh
  · rw [hm] at h1; rw [h7 h h2]; exact r.2 h h1 h2
theorem rT_cong (e : taE s s') (h1 : ∀ k, k < 6 → c' (b' + 11) k = c (b + 11) k) (h2 : ∀ k, k < 300 → c' (b' + 12) k = c (b + 12) k) (r : rT b c s) : rT b' c' s' := by
  have et : zT s' = zT s := nn_cong (e.1 10 (by omega) (by omega))
  refine ⟨fun k hk => ?_, fun k q1 q2 => ?_⟩
  · rw [h1 k hk, e.1 _ (by omega) (by omega)]; exact r.1 k hk
  · rw [et] at q2; rw [h2 k q1, e.2 _ (by omega) (by omega)]; exact r.2 k q1 q2
theorem rP_cong (e : paE s s') (h1 : c' (b' + 13) 0 = c (b + 13) 0) (h2 : ∀ k, k < zR s → c' (b' + 14) k = c (b + 14) k) (h3 : ∀ k, k < zR s → c' (b' + 15) k = c (b + 15) k) (r : rP b c s) : rP b' c' s' := by
  have et : zR s' = zR s := nn_cong e.1
  refine ⟨by rw [h1, e.1]; exact r.1, fun k hk => ?_⟩
  rw [et] at hk
  rw [h2 k hk, h3 k hk, (e.2 k hk).1, (e.2 k hk).2]; exact r.2 k hk
theorem rG_cong (e : pgE s s') (hG : iG s) (h1 : ∀ k, k < 4 → c' (b' + 16) k = c (b + 16) k) (h2 : ∀ k, k < 200 → c' (b' + 17) k = c (b + 17) k) (h3 : ∀ k, k < 8 → c' (b' + 18) k = c (b + 18) k) (r : rG b c s) : rG b' c' s' := by
  obtain ⟨n, j, G1, G2, G3, G4, G5⟩ := hG
  have eg : nn s 11 = n := nn_nI G1 (by omega)
  have et : nn s' 11 = nn s 11 := nn_cong (e.1 11 (by omega) (by omega))
  refine ⟨fun k hk => ?_, fun k hk => ?_, fun k hk => ?_⟩
  · rw [h1 k hk, e.1 _ (by omega) (by omega)]; exact r.1 k hk
  · rw [et] at hk; rw [h2 k (by omega), e.2.1 _ (by omega) (by omega)]; exact r.2.1 k hk
  · rw [h3 k hk, e.2.2 _ (by omega) (by omega)]; exact r.2.2 k hk
theorem rR_cong (e : rtE s s') (h1 : ∀ k, k < 24 → c' (b' + 19) k = c (b + 19) k) (h2 : ∀ k, k < 32 → c' (b' + 20) k = c (b + 20) k) (r : rR b c s) : rR b' c' s' := by
  refine ⟨fun k hk => ?_, fun k hk => ?_⟩
  · rw [h1 k hk, e _ (by omega) (by omega)]; exact r.1 k hk
  · rw [h2 k hk, e _ (by omega) (by omega)]; exact r.2 k hk
theorem iT_cong {T : Nat} (h : s' 10 = s 10) (i : iT T s) : iT T s' := by unfold iT zT nn; rw [h]; exact i
theorem iP_cong (h : s' 15 = s 15) (i : iP s) : iP s' := by unfold iP zR nn; rw [h]; exact i
theorem iG_cong (e : pgE s s') (i : iG s) : iG s' := by
  obtain ⟨n, j, g1, g2, g3, g4, g5⟩ := i
  refine ⟨n, j, by rw [e.1 11 (by omega) (by omega)]; exact g1, g2, by rw [e.1 12 (by omega) (by omega)]; exact g3, g4, fun q hq => ?_⟩
  rw [e.2.1 _ (by omega) (by omega), e.2.1 _ (by omega) (by omega), e.2.1 _ (by omega) (by omega), e.2.1 _ (by omega) (by omega)]
  exact g5 q hq
end GR
/-! a word of a cell is written -/
section WR
variable {T : Nat} {c : gMem} {s : gS} {h j : Nat} {v : Int32}
theorem cell_apart {g i : Nat} (hp : aHp s) (hh : h < zM s) (hl : aLv s h) (hg : g < zM s) (hlg : aLv s g) (hj : j < aSz s h) (hi : i < aSz s g) (hne : g ≠ h) : aPl s h + j ≠ aPl s g + i := by
  rcases hp.2.1 h hh with q | ⟨-, -, -, -, q, -⟩
  · rw [hl] at q; exact absurd q (by decide)
  rcases hp.2.1 g hg with q' | ⟨-, -, -, -, q', -⟩
  · rw [hlg] at q'; exact absurd q' (by decide)
  rw [q, q']
  rcases Nat.lt_or_ge g h with hlt | hge
  · have := aPs_fit hlg hlt; omega
  · have := aPs_fit hl (show h < g by omega); omega
theorem wr_q (hp : aHp s) {p : Nat} (hpz : p < 4000) : hqE s (upd s (6100 + p) v) :=
  ⟨fun j hj => up_n (by omega), fun h w hh hw => up_n (by omega)⟩
theorem wr_mk {p : Nat} : mkE s (upd s (6100 + p) v) :=
  ⟨fun j hj => up_n (by omega), fun j h1 h2 => up_n (by omega), fun h w hh h1 h2 => up_n (by omega)⟩
theorem wr_hp (hp : aHp s) (hh : h < zM s) (hl : aLv s h) (hj : 1 ≤ j) (hj2 : j < aSz s h) (hm : aMany (aKd s h) → 2 ≤ j) (hv : (∀ i, i < aLk s h → j = aLo s h + i → aHv s v) ∧ (aKd s h = 3 ∨ aKd s h = 4 → j = 2 → aHv s v)) : aHp (upd s (6100 + (aPl s h + j)) v) := by
  obtain ⟨ia, ic, iz, inn, ir⟩ := id hp
  obtain ⟨a1, a2, a3, a4, a5, a6, a7, a8, a9⟩ := id ia
  rcases ic h hh with q | ⟨q0, q1, q2, q3, q4, q5, q6, q7, q8⟩
  · rw [hl] at q; exact absurd q (by decide)
  have hf : aPs s h + aSz s h ≤ aPs s (zM s) := aPs_fit hl hh
  have e : hqE s (upd s (6100 + (aPl s h + j)) v) := wr_q hp (by omega)
  have ew : ∀ g i, g < zM s → aLv s g → i < aSz s g → ¬ (g = h ∧ i = j) → upd s (6100 + (aPl s h + j)) v (6100 + aPl s g + i) = s (6100 + aPl s g + i) := by
    intro g i hg hlg hi hne
    apply up_n
    by_cases hgh : g = h
    · subst hgh; omega
    · have := cell_apart hp hh hl hg hlg hj2 hi hgh; omega
  refine ⟨?_, ?_, ?_, ?_, ?_⟩
  · unfold iA
    rw [e.a, e.m, e.u, e.1 0 (by simp), e.1 1 (by simp), e.1 16 (by simp), e.1 2 (by simp), e.ps a5, e.cn a5]
    exact ia
  · intro g hg
    rw [e.m] at hg
    have e0 := e.2 g 0 (by omega) (by decide)
    have e1 := e.2 g 1 (by omega) (by decide)
    have e2 := e.2 g 2 (by omega) (by decide)
    have e3 := e.2 g 3 (by omega) (by decide)
    simp only [Nat.add_zero, Nat.reduceAdd] at e0 e1 e2 e3
    rw [e0, e1, e2, e3, e.kd (by omega), e.pl (by omega), e.mn (by omega), e.ps (by omega)]
    rcases ic g hg with k | ⟨k0, k1, k2, k3, k4, k5, k6, k7, k8⟩
    · exact Or.inl k
    · have hz : 2 ≤ aSz s g := (szN_ge (n := aMn s g) k2).2
      have w0 := ew g 0 hg k0 (by omega) (by omega)
      rw [Nat.add_zero] at w0
      refine Or.inr ⟨k0, k1, k2, k3, k4, k5, k6, by rw [w0]; exact k7, fun hmg => ?_⟩
      rw [ew g 1 hg k0 (by omega) (fun q => by have := q.1; subst this; have := hm hmg; omega)]
      exact k8 hmg
  · intro k h1 h2
    rw [e.u] at h1; rw [e.a] at h2
    rw [up_n (by omega)]; exact iz k h1 h2
  · intro g hg hlg
    rw [e.m] at hg
    have hlg' := (e.lv (show g < 500 by omega)).mp hlg
    obtain ⟨n1, n2⟩ := inn g hg hlg'
    rcases ic g hg with k | ⟨k0, k1, k2, k3, k4, k5, k6, k7, k8⟩
    · rw [hlg'] at k; exact absurd k (by decide)
    have hz : aLk s g + aLo s g ≤ aSz s g := (szN_ge (n := aMn s g) k2).1
    unfold aLn
    rw [e.lk (by omega), e.kd (by omega), e.pl (by omega), e.lo (by omega)]
    refine ⟨fun i hi => ?_, fun hk => ?_⟩
    · rw [Nat.add_assoc]
      by_cases hc : g = h ∧ aLo s g + i = j
      · obtain ⟨rfl, rfl⟩ := hc
        rw [Nat.add_assoc 6100, up_s]
        exact e.hv a5 (hv.1 i hi rfl)
      · rw [ew g _ hg hlg' (by omega) hc]
        have := n1 i hi
        unfold aLn at this
        rw [Nat.add_assoc] at this
        exact e.hv a5 this
    · have hz3 : 3 ≤ aSz s g := by unfold aSz szN; rcases hk with hk | hk <;> rw [hk] <;> simp
      by_cases hc : g = h ∧ 2 = j
      · obtain ⟨rfl, rfl⟩ := hc
        rw [Nat.add_assoc 6100, up_s]
        exact e.hv a5 (hv.2 hk rfl)
      · rw [ew g 2 hg hlg' (by omega) hc]
        exact e.hv a5 (n2 hk)
  · obtain ⟨i1, i2, i3⟩ := ir
    refine ⟨fun r hr => ?_, fun k hk => ?_, fun r hr => ?_⟩
    · rw [up_n (by omega)]; exact e.hv a5 (i1 r hr)
    · rw [up_n (by omega)]; exact e.hv a5 (i2 k hk)
    · rw [up_n (by omega), e.m]; exact i3 r hr
theorem wr_S0 (h0 : aS0 T s) (hh : h < zM s) (hl : aLv s h) (hj : 1 ≤ j) (hj2 : j < aSz s h) (hm : aMany (aKd s h) → 2 ≤ j) (hv : (∀ i, i < aLk s h → j = aLo s h + i → aHv s v) ∧ (aKd s h = 3 ∨ aKd s h = 4 → j = 2 → aHv s v)) : aS0 T (upd s (6100 + (aPl s h + j)) v) := by
  obtain ⟨hp, hmk, it, ip, ig⟩ := h0
  have ia := hp.1
  have a5 := ia.2.2.2.2.1
  have hz : aPl s h + j < 4000 := by
    rcases hp.2.1 h hh with q | ⟨q0, q1, q2, q3, q4, q5, q6, q7, q8⟩
    · rw [hl] at q; exact absurd q (by decide)
    have hf : aPs s h + aSz s h ≤ aPs s (zM s) := aPs_fit hl hh
    obtain ⟨a1, a2, a3, a4, a5, a6, a7, a8, a9⟩ := ia
    omega
  have e : hqE s (upd s (6100 + (aPl s h + j)) v) := wr_q hp hz
  refine ⟨wr_hp hp hh hl hj hj2 hm hv, wr_mk.all ia e.m (fun g hg hlg => (e.lv (by omega)).mpr hlg) (fun g hg hlg => e.lk (by omega)) hmk, iT_cong (up_n (by omega)) it, iP_cong (up_n (by omega)) ip, iG_cong ⟨fun q h1 h2 => up_n (by omega), fun q h1 h2 => up_n (by omega), fun q h1 h2 => up_n (by omega)⟩ ig⟩
theorem wr_SR {p : Nat} (hr : aSR 1 c s) (h0 : aS0 T s) (hpz : p < zU s) : aSR 1 (mp c 3 p v) (upd s (6100 + p) v) := by
  obtain ⟨hp, hmk, it, ip, ig⟩ := h0
  obtain ⟨a1, a2, a3, a4, a5, a6, a7, a8, a9⟩ := hp.1
  obtain ⟨r1, r2, r3, r4, r5, r6, r7, r8, r9, r10⟩ := hr
  have e : hqE s (upd s (6100 + p) v) := wr_q hp (by omega)
  have hc : ∀ i, i ≠ 3 → mp c 3 p v i = c i := fun i hi => mp_n hi
  refine ⟨rH_cong e (fun k _ => by rw [hc _ (by decide)]) r1, ?_, rC_cong e a5 (fun k _ => by rw [hc _ (by decide)]) (fun k _ => by rw [hc _ (by decide)]) r3, rM_cong wr_mk hmk a5 (fun k _ => by rw [hc _ (by decide)]) r4, rO_cong wr_mk hmk a5 (fun k _ => by rw [hc _ (by decide)]) (fun k _ => by rw [hc _ (by decide)]) (fun k _ => by rw [hc _ (by decide)]) (fun k _ => by rw [hc _ (by decide)]) r5, rK_cong wr_mk e.m a5 (fun k _ => by rw [hc _ (by decide)]) r6, rT_cong ⟨fun q _ _ => up_n (by omega), fun q _ _ => up_n (by omega)⟩ (fun k _ => by rw [hc _ (by decide)]) (fun k _ => by rw [hc _ (by decide)]) r7, rP_cong ⟨up_n (by omega), fun q hq => ⟨up_n (by omega), up_n (by omega)⟩⟩ (by rw [hc _ (by decide)]) (fun k _ => by rw [hc _ (by decide)]) (fun k _ => by rw [hc _ (by decide)]) r8, rG_cong ⟨fun q _ _ => up_n (by omega), fun q _ _ => up_n (by omega), fun q _ _ => up_n (by omega)⟩ ig (fun k _ => by rw [hc _ (by decide)]) (fun k _ => by rw [hc _ (by decide)]) (fun k _ => by rw [hc _ (by decide)]) r9, rR_cong (fun q _ _ => up_n (by omega)) (fun k _ => by rw [hc _ (by decide)]) (fun k _ => by rw [hc _ (by decide)]) r10⟩
  refine ⟨fun k hk => ?_, fun k h1 h2 => ?_⟩
  · rw [e.u] at hk
    show mp c 3 p v 3 k = _
    rw [mp_s]
    by_cases hkp : k = p
    · subst hkp; rw [up_s, up_s]
    · rw [up_n hkp, up_n (by omega)]; exact r2.1 k hk
  · rw [e.u] at h1
    show mp c 3 p v 3 k = _
    rw [mp_s, up_n (by omega)]; exact r2.2 k h1 h2
/-- a word that is no link that was looked through: the marks' law stays -/
theorem wr_L (h0 : aS0 T s) (hh : h < zM s) (hl : aLv s h) (hj2 : j < aSz s h) (hv : ∀ i, i < aLk s h → j ≠ aLo s h + i) (hL : iL s) : iL (upd s (6100 + (aPl s h + j)) v) := by
  obtain ⟨hp, hmk, it, ip, ig⟩ := h0
  obtain ⟨a1, a2, a3, a4, a5, a6, a7, a8, a9⟩ := id hp.1
  rcases hp.2.1 h hh with q | ⟨q0, q1, q2, q3, q4, q5, q6, q7, q8⟩
  · rw [hl] at q; exact absurd q (by decide)
  have hf : aPs s h + aSz s h ≤ aPs s (zM s) := aPs_fit hl hh
  have e : hqE s (upd s (6100 + (aPl s h + j)) v) := wr_q hp (by omega)
  have f : mkE s (upd s (6100 + (aPl s h + j)) v) := wr_mk
  have hK := hmk.1.2.2.1
  obtain ⟨g1, g2⟩ := hL
  refine ⟨fun k hk i hi => ?_, fun h3 r hr => ?_⟩
  · rw [f.k] at hk
    obtain ⟨o1, o2, o3, o4, o5, o6, o7, o8⟩ := hmk.2.1 k hk
    rw [f.od (by omega), f.th (by omega)] at hi
    rw [f.od (by omega)]
    have hin := aLn_in hp.1 hp.2.1 o2 o3 (show i < aLk s (aOd s k) by omega)
    have := g1 k hk i hi
    unfold aLn at *
    rw [e.pl (by omega), e.lo (by omega), up_n ?_]
    · exact f.mk (by omega) this
    · by_cases hgh : aOd s k = h
      · rw [hgh]
        have := hv i (by rw [← hgh]; omega)
        omega
      · have := cell_apart (j := j) (i := aLo s (aOd s k) + i) hp hh hl o2 o3 hj2 (by omega) hgh
        omega
  · rw [f.1 3 (by simp)] at h3
    rw [up_n (by omega)]
    exact f.mk (by omega) (g2 h3 r hr)
end WR

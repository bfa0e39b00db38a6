/-! marking a cell -/
theorem pig : ∀ (N K : Nat) (f : Nat → Nat), (∀ k, k < K → f k < N) → (∀ i j, i < K → j < K → f i = f j → i = j) → K ≤ N := by
  intro N
  induction N with
  | zero =>
    intro K f h _
    cases K with
    | zero => exact Nat.le_refl _
    | succ K => exact absurd (h 0 (by omega)) (by omega)
  | succ N ih =>
    intro K f h hi
    by_cases hx : ∃ k, k < K ∧ f k = N
    · obtain ⟨k0, hk0, e0⟩ := hx
      have := ih (K - 1) (fun k => f (if k < k0 then k else k + 1)) (fun k hk => by
        have h1 : (if k < k0 then k else k + 1) < K := by split <;> omega
        have h2 := h _ h1
        have h3 : f (if k < k0 then k else k + 1) ≠ N := fun e => by
          have := hi _ _ h1 hk0 (e.trans e0.symm)
          split at this <;> omega
        show f (if k < k0 then k else k + 1) < N
        omega) (fun i j h1 h2 e => by
        have a1 : (if i < k0 then i else i + 1) < K := by split <;> omega
        have a2 : (if j < k0 then j else j + 1) < K := by split <;> omega
        have := hi _ _ a1 a2 e
        split at this <;> split at this <;> omega)
      omega
    · have := ih K f (fun k hk => by
        have h1 := h k hk
        have h2 : f k ≠ N := fun e => hx ⟨k, hk, e⟩
        omega) hi
      omega
def mkS (s : gS) (t : Nat) (w a b : Int32) : gS := upd (upd (upd (upd (upd (upd (upd s (600 + zK s) (nI t)) 4 (nI (zK s + 1))) (1105 + 10 * t) (nI (zK s + 1))) (1106 + 10 * t) w) (1107 + 10 * t) a) (1108 + 10 * t) b) (1109 + 10 * t) 0
def mkF (s : gS) (x w a b : Int32) : gS := if x = -1 then s else if s (1105 + 10 * x.toNatClampNeg) = 0 then mkS s x.toNatClampNeg w a b else s
theorem mkF_N {s : gS} {w a b : Int32} : mkF s (-1) w a b = s := if_pos rfl
theorem mkF_0 {s : gS} {t : Nat} {w a b : Int32} (ht : t < 500) (h : s (1105 + 10 * t) = 0) : mkF s (nI t) w a b = mkS s t w a b := by
  unfold mkF; rw [if_neg (nI_m1 (by omega)), nI_clamp (by omega), if_pos h]
theorem mkF_1 {s : gS} {t : Nat} {w a b : Int32} (ht : t < 500) (h : ¬ s (1105 + 10 * t) = 0) : mkF s (nI t) w a b = s := by
  unfold mkF; rw [if_neg (nI_m1 (by omega)), nI_clamp (by omega), if_neg h]
theorem mr_mr {c : gMem} {i : Nat} {f g : Nat → Int32} : mr (mr c i f) i g = mr c i g := by
  funext a
  by_cases h : a = i
  · subst h; rw [mr_s, mr_s]
  · rw [mr_n h, mr_n h, mr_n h]
theorem mr_self {c : gMem} {i : Nat} : mr c i (c i) = c := by
  funext a
  by_cases h : a = i
  · subst h; rw [mr_s]
  · rw [mr_n h]
theorem mp_mr {c : gMem} {i j : Nat} {f : Nat → Int32} {v : Int32} : mp (mr c i f) i j v = mr c i (upd f j v) := by
  unfold mp; rw [mr_s, mr_mr]
theorem mp_mrn {c : gMem} {i a j : Nat} {f : Nat → Int32} {v : Int32} (h : a ≠ i) : mp (mr c i f) a j v = mr (mp c a j v) i f := by
  funext q
  by_cases h1 : q = a
  · subst h1; rw [mp_s, mr_n h, mr_n h, mp_s]
  · rw [mp_n h1]
    by_cases h2 : q = i
    · subst h2; rw [mr_s, mr_s]
    · rw [mr_n h2, mr_n h2, mp_n h1]
section MK
variable {s : gS} {t : Nat} {w a b : Int32} {m : gMem} {V : gMem → Prop}
theorem mkS_o {j : Nat} (h4 : j ≠ 4) (h6 : j ≠ 600 + zK s) (hc : j < 1105 + 10 * t ∨ 1109 + 10 * t < j) : mkS s t w a b j = s j := by
  unfold mkS
  rw [up_n (by omega), up_n (by omega), up_n (by omega), up_n (by omega), up_n (by omega), up_n h4, up_n h6]
theorem mkS_4 : mkS s t w a b 4 = nI (zK s + 1) := by
  unfold mkS
  rw [up_n (by omega), up_n (by omega), up_n (by omega), up_n (by omega), up_n (by omega), up_s]
theorem mkS_6 (hK : zK s < 500) : mkS s t w a b (600 + zK s) = nI t := by
  unfold mkS
  rw [up_n (by omega), up_n (by omega), up_n (by omega), up_n (by omega), up_n (by omega), up_n (by omega), up_s]
theorem mkS_c5 : mkS s t w a b (1105 + 10 * t) = nI (zK s + 1) := by
  unfold mkS
  rw [up_n (by omega), up_n (by omega), up_n (by omega), up_n (by omega), up_s]
theorem mkS_c6 : mkS s t w a b (1106 + 10 * t) = w := by
  unfold mkS
  rw [up_n (by omega), up_n (by omega), up_n (by omega), up_s]
theorem mkS_c7 : mkS s t w a b (1107 + 10 * t) = a := by
  unfold mkS
  rw [up_n (by omega), up_n (by omega), up_s]
theorem mkS_c8 : mkS s t w a b (1108 + 10 * t) = b := by
  unfold mkS
  rw [up_n (by omega), up_s]
theorem mkS_c9 : mkS s t w a b (1109 + 10 * t) = 0 := by
  unfold mkS
  rw [up_s]
theorem e_markN : wX10_mark (-1) w a b m V = V m := by
  unfold wX10_mark
  simp
theorem e_mark0 (ht : t < 500) (h5 : s (1105 + 10 * t) = 0) (h4 : s 4 = nI (zK s)) (hK : zK s < 500) : wX10_mark (nI t) w a b (mr m 1 s) V = V (mr m 1 (mkS s t w a b)) := by
  have e1 : (600 : Int32) + nI (zK s) = nI (600 + zK s) := nI_add 600 _
  unfold wX10_mark
  simp only [nI_m1 (show t < 2 ^ 31 by omega), e_of5 ht, mr_s, h5, Int32.le_refl, h4, e1, nI_clamp (show 600 + zK s < 2 ^ 31 by omega), vp_in_nI (show 600 + zK s < 26100 by omega) (show 26100 < 2 ^ 31 by decide), mp_mr, forall_eq, true_implies, false_implies, not_true_eq_false, not_false_eq_true, true_and, and_true, e_let5 ht, e_let6 ht, e_let7 ht, e_let8 ht, e_let9 ht, up_n (show (4 : Nat) ≠ 600 + zK s by omega), up_s, nI_1]
  rfl
theorem e_mark1 (ht : t < 500) (h5 : ¬ m 1 (1105 + 10 * t) ≤ 0) : wX10_mark (nI t) w a b m V = V m := by
  unfold wX10_mark
  simp only [nI_m1 (show t < 2 ^ 31 by omega), e_of5 ht, h5, true_implies, false_implies, not_true_eq_false, not_false_eq_true, true_and, and_true]
/-- what a marking leaves, and what it changes -/
def aMS (s s' : gS) (x : Int32) : Prop := hpE s s' ∧ (∀ j, j ≠ 4 → ¬ (600 ≤ j ∧ j < 1100) → ¬ (1100 ≤ j ∧ j < 6100) → s' j = s j) ∧ zL s' = zL s ∧ zK s ≤ zK s' ∧ (∀ k, k < zK s → aOd s' k = aOd s k ∧ aTh s' (aOd s k) = aTh s (aOd s k)) ∧ (∀ k, zK s ≤ k → k < zK s' → aTh s' (aOd s' k) = 0) ∧ (∀ y, aMk s y → aMk s' y) ∧ aMk s' x
theorem aMS_same {x : Int32} (h : aMk s x) : aMS s s x := ⟨⟨⟨fun _ _ => rfl, fun _ _ _ _ => rfl⟩, fun _ _ _ => rfl, fun _ _ _ => rfl⟩, fun _ _ _ _ => rfl, rfl, Nat.le_refl _, fun _ _ => ⟨rfl, rfl⟩, fun k h1 h2 => absurd h2 (by omega), fun _ h => h, h⟩
theorem mkS_hpE (ht : t < 500) (hK : zK s < 500) : hpE s (mkS s t w a b) :=
  ⟨⟨fun j hj => mkS_o (by omega) (by omega) (by omega), fun h q hh hq => mkS_o (by omega) (by omega) (by omega)⟩, fun j h1 h2 => mkS_o (by omega) (by omega) (by omega), fun j h1 h2 => mkS_o (by omega) (by omega) (by omega)⟩
theorem od_inj (hO : iO s) (hM : zM s ≤ 500) (hK : zK s ≤ zM s) {i j : Nat} (hi : i < zK s) (hj : j < zK s) (e : aOd s i = aOd s j) : i = j := by
  have h1 := (hO i hi).2.2.2.1
  have h2 := (hO j hj).2.2.2.1
  rw [e, h2] at h1
  have := nI_inj (by omega) (by omega) h1
  omega
theorem od_ne (hO : iO s) (hM : zM s ≤ 500) (hK : zK s ≤ zM s) (h5 : s (1105 + 10 * t) = 0) {k : Nat} (hk : k < zK s) : aOd s k ≠ t := by
  intro e
  have h1 := (hO k hk).2.2.2.1
  rw [e, h5] at h1
  exact nI_ne0 (n := k + 1) (by omega) (by omega) h1.symm
theorem mk_room (hp : aHp s) (hm : iM s ∧ iO s ∧ iU s) (ht : t < zM s) (h5 : s (1105 + 10 * t) = 0) : zK s + 1 ≤ zM s := by
  have hM := hp.1.2.2.2.2.1
  have hK := hm.1.2.2.1
  refine pig (zM s) (zK s + 1) (fun k => if k < zK s then aOd s k else t) (fun k hk => ?_) (fun i j hi hj e => ?_)
  · show (if k < zK s then aOd s k else t) < zM s
    split
    · exact (hm.2.1 k (by assumption)).2.1
    · exact ht
  · split at e <;> split at e
    · exact od_inj hm.2.1 hM hK (by assumption) (by assumption) e
    · exact absurd e (od_ne hm.2.1 hM hK h5 (by assumption))
    · exact absurd e.symm (od_ne hm.2.1 hM hK h5 (by assumption))
    · omega
theorem mkS_all (hp : aHp s) (hm : iM s ∧ iO s ∧ iU s) (ht : t < zM s) (hl : aLv s t) (h5 : s (1105 + 10 * t) = 0) (h3 : s 3 = 1) : (iM (mkS s t w a b) ∧ iO (mkS s t w a b) ∧ iU (mkS s t w a b)) ∧ aMS s (mkS s t w a b) (nI t) := by
  have hM := hp.1.2.2.2.2.1
  have hK := hm.1.2.2.1
  have hL := hm.1.2.2.2.2.1
  have hR := mk_room hp hm ht h5
  have e := mkS_hpE (w := w) (a := a) (b := b) (show t < 500 by omega) (show zK s < 500 by omega)
  have eK : zK (mkS s t w a b) = zK s + 1 := nn_nI mkS_4 (by omega)
  have eL : zL (mkS s t w a b) = zL s := nn_cong (mkS_o (by omega) (by omega) (by omega))
  have eo : ∀ k, k < zK s → aOd (mkS s t w a b) k = aOd s k := fun k hk => nn_cong (mkS_o (by omega) (by omega) (by omega))
  have eo2 : aOd (mkS s t w a b) (zK s) = t := nn_nI (mkS_6 (by omega)) (by omega)
  have et : ∀ h, h ≠ t → aTh (mkS s t w a b) h = aTh s h := fun h hh => nn_cong (mkS_o (by omega) (by omega) (by omega))
  have et2 : aTh (mkS s t w a b) t = 0 := nn_nI (n := 0) mkS_c9 (by omega)
  have hn : ∀ k, k < zK s → aOd s k ≠ t := fun k hk => od_ne hm.2.1 hM hK h5 hk
  have hmk : ∀ y, aMk s y → aMk (mkS s t w a b) y := by
    intro y hy
    rcases hy with hy | ⟨k, hk, hy⟩
    · exact Or.inl hy
    · exact Or.inr ⟨k, by omega, by rw [eo k hk]; exact hy⟩
  refine ⟨⟨?_, ?_, ?_⟩, e, fun j h1 h2 h3 => mkS_o h1 (by omega) (by omega), eL, by omega, fun k hk => ⟨eo k hk, et _ (hn k hk)⟩, fun k h1 h2 => ?_, hmk, Or.inr ⟨zK s, by omega, by rw [eo2]⟩⟩
  · obtain ⟨g1, g2, g3, g4, g5, g6⟩ := hm.1
    unfold iM
    rw [eK, eL, e.1.m, mkS_4, mkS_o (j := 3) (by omega) (by omega) (by omega), mkS_o (j := 17) (by omega) (by omega) (by omega)]
    refine ⟨g1, rfl, hR, g4, by omega, fun q => ?_⟩
    rw [h3] at q; exact absurd q (by decide)
  · intro k hk
    rw [eK] at hk
    by_cases hk2 : k < zK s
    · obtain ⟨g1, g2, g3, g4, g5, g6, g7, g8⟩ := hm.2.1 k hk2
      have hne := hn k hk2
      rw [eo k hk2, mkS_o (j := 600 + k) (by omega) (by omega) (by omega), mkS_o (j := 1105 + 10 * aOd s k) (by omega) (by omega) (by omega), mkS_o (j := 1109 + 10 * aOd s k) (by omega) (by omega) (by omega), et _ hne, e.1.m, e.1.lk (by omega), eL]
      exact ⟨g1, g2, (e.1.lv (by omega)).mpr g3, g4, g5, g6, g7, g8⟩
    · have hkK : k = zK s := by omega
      subst hkK
      rw [eo2, mkS_6 (by omega), mkS_c5, mkS_c9, et2, e.1.m, eL]
      exact ⟨rfl, ht, (e.1.lv (by omega)).mpr hl, rfl, rfl, Nat.zero_le _, fun q => by omega, fun _ => rfl⟩
  · intro h hh
    rw [e.1.m] at hh
    by_cases hht : h = t
    · subst hht
      exact Or.inr ⟨zK s, by omega, eo2⟩
    · rw [mkS_o (j := 1105 + 10 * h) (by omega) (by omega) (by omega)]
      rcases hm.2.2 h hh with g | ⟨k, hk, g⟩
      · exact Or.inl g
      · exact Or.inr ⟨k, by omega, by rw [eo k hk]; exact g⟩
  · have : k = zK s := by omega
    subst this
    rw [eo2, et2]
/-- the class's marking of an unmarked cell -/
def mkC (c : gMem) (t K : Nat) (w a b : Int32) : gMem := mp (mp (mp (mp (mp (mp c 7 K (nI t)) 6 1 (nI (K + 1))) 8 t (nI (K + 1))) 9 t w) 10 t a) 11 t b
theorem mkC_n {c : gMem} {t K : Nat} {w a b : Int32} {i : Nat} (h : i < 6 ∨ 11 < i) : mkC c t K w a b i = c i := by
  unfold mkC
  rw [mp_n (by omega), mp_n (by omega), mp_n (by omega), mp_n (by omega), mp_n (by omega), mp_n (by omega)]
theorem mkC_6 {c : gMem} {t K : Nat} {w a b : Int32} : mkC c t K w a b 6 = upd (c 6) 1 (nI (K + 1)) := by
  unfold mkC
  rw [mp_n (by omega), mp_n (by omega), mp_n (by omega), mp_n (by omega), mp_s, mp_n (by omega)]
theorem mkC_7 {c : gMem} {t K : Nat} {w a b : Int32} : mkC c t K w a b 7 = upd (c 7) K (nI t) := by
  unfold mkC
  rw [mp_n (by omega), mp_n (by omega), mp_n (by omega), mp_n (by omega), mp_n (by omega), mp_s]
theorem mkC_8 {c : gMem} {t K : Nat} {w a b : Int32} : mkC c t K w a b 8 = upd (c 8) t (nI (K + 1)) := by
  unfold mkC
  rw [mp_n (by omega), mp_n (by omega), mp_n (by omega), mp_s, mp_n (by omega), mp_n (by omega)]
theorem mkC_9 {c : gMem} {t K : Nat} {w a b : Int32} : mkC c t K w a b 9 = upd (c 9) t w := by
  unfold mkC
  rw [mp_n (by omega), mp_n (by omega), mp_s, mp_n (by omega), mp_n (by omega), mp_n (by omega)]
theorem mkC_10 {c : gMem} {t K : Nat} {w a b : Int32} : mkC c t K w a b 10 = upd (c 10) t a := by
  unfold mkC
  rw [mp_n (by omega), mp_s, mp_n (by omega), mp_n (by omega), mp_n (by omega), mp_n (by omega)]
theorem mkC_11 {c : gMem} {t K : Nat} {w a b : Int32} : mkC c t K w a b 11 = upd (c 11) t b := by
  unfold mkC
  rw [mp_s, mp_n (by omega), mp_n (by omega), mp_n (by omega), mp_n (by omega), mp_n (by omega)]
theorem x_markN {c : gMem} : wX7_mark (-1) w a b c V = V c := by
  unfold wX7_mark
  simp only [forall_eq, x_hasN]
  by_cases h : c 6 0 = 0 <;> simp [h]
theorem x_markOff {c : gMem} {x : Int32} (h : c 6 0 = 0) : wX7_mark x w a b c V = V c := by
  unfold wX7_mark
  simp [h]
theorem x_mark1 {c : gMem} {n p : Nat} (h6 : c 6 0 = 1) (h1 : c 2 2 = nI n) (hn : n ≤ 500) (hh : t < n) (h4 : c 4 t = nI p) (hp : p < 4000) (h8 : ¬ c 8 t = 0) : wX7_mark (nI t) w a b c V = V c := by
  unfold wX7_mark wX3_add
  simp only [forall_eq, h6, x_has1 h1 hn hh h4 hp, vp_in_nI (show t < 500 by omega) (show 500 < 2 ^ 31 by decide), nI_clamp (show t < 2 ^ 31 by omega), h8, true_implies, false_implies, not_true_eq_false, not_false_eq_true, true_and, and_true, show ((1 : Int32) = 0) = False by decide]
theorem x_mark0 {c : gMem} {n p K : Nat} (h6 : c 6 0 = 1) (h1 : c 2 2 = nI n) (hn : n ≤ 500) (hh : t < n) (h4 : c 4 t = nI p) (hp : p < 4000) (h8 : c 8 t = 0) (hK : c 6 1 = nI K) (hKn : K < 500) : wX7_mark (nI t) w a b c V = V (mkC c t K w a b) := by
  have e5 : (nI K < (500 : Int32)) = True := by
    simp only [eq_iff_iff, iff_true]; exact nI_lt (b := 500) hKn (by decide)
  unfold wX7_mark wX3_add
  simp only [forall_eq, h6, x_has1 h1 hn hh h4 hp, vp_in_nI (show t < 500 by omega) (show 500 < 2 ^ 31 by decide), nI_clamp (show t < 2 ^ 31 by omega), h8, hK, e5, vp_in_nI hKn (show 500 < 2 ^ 31 by decide), nI_clamp (show K < 2 ^ 31 by omega), true_implies, false_implies, not_true_eq_false, not_false_eq_true, true_and, and_true, show ((1 : Int32) = 0) = False by decide, mp_n (show (6 : Nat) ≠ 7 by decide), mp_s, up_s, nI_1]
  rfl
theorem mkC_SR {c : gMem} (hr : aSR 1 c s) (hG : iG s) (hp : aHp s) (hm : iM s ∧ iO s ∧ iU s) (ht : t < zM s) (hl : aLv s t) (h5 : s (1105 + 10 * t) = 0) (h3 : s 3 = 1) : aSR 1 (mkC c t (zK s) w a b) (mkS s t w a b) := by
  have hM := hp.1.2.2.2.2.1
  have hK := hm.1.2.2.1
  have hL := hm.1.2.2.2.2.1
  have hR := mk_room hp hm ht h5
  have e := mkS_hpE (w := w) (a := a) (b := b) (show t < 500 by omega) (show zK s < 500 by omega)
  have eK : zK (mkS s t w a b) = zK s + 1 := nn_nI mkS_4 (by omega)
  have eL : zL (mkS s t w a b) = zL s := nn_cong (mkS_o (by omega) (by omega) (by omega))
  have eo : ∀ k, k < zK s → aOd (mkS s t w a b) k = aOd s k := fun k hk => nn_cong (mkS_o (by omega) (by omega) (by omega))
  have eo2 : aOd (mkS s t w a b) (zK s) = t := nn_nI (mkS_6 (by omega)) (by omega)
  have hn : ∀ k, k < zK s → aOd s k ≠ t := fun k hk => od_ne hm.2.1 hM hK h5 hk
  obtain ⟨r1, r2, r3, r4, r5, r6, r7, r8, r9, r10⟩ := hr
  refine ⟨?_, ?_, ?_, ?_, ?_, ?_, ?_, ?_, ?_, ?_⟩
  · unfold rH at *
    rw [mkC_n (by omega), e.1.1 0 (by simp), e.1.1 1 (by simp), e.1.1 2 (by simp), e.1.1 16 (by simp)]
    exact r1
  · unfold rW at *
    rw [mkC_n (by omega), e.1.u]
    refine ⟨fun k hk => ?_, r2.2⟩
    rw [r2.1 k hk, mkS_o (by omega) (by omega) (by omega)]
  · intro h hh
    rw [e.1.m] at hh
    rw [mkC_n (by omega), mkC_n (by omega), e.1.lv (by omega), mkS_o (j := 1102 + 10 * h) (by omega) (by omega) (by omega), mkS_o (j := 1104 + 10 * h) (by omega) (by omega) (by omega)]
    exact r3 h hh
  · unfold rM at *
    obtain ⟨g1, g2, g3, g4⟩ := r4
    rw [show (1 + 5 : Nat) = 6 from rfl] at *
    rw [mkC_6, up_n (by decide), up_s, up_n (by decide), up_n (by decide), mkS_4, mkS_o (j := 3) (by omega) (by omega) (by omega), mkS_o (j := 17) (by omega) (by omega) (by omega), eL, eK, if_pos (by omega)]
    refine ⟨g1, rfl, g3, ?_⟩
    rw [g4]
    by_cases hLK : zL s < zK s
    · rw [if_pos hLK, eo _ hLK, mkS_o (j := 1109 + 10 * aOd s (zL s)) (by omega) (by omega) (by have := hn _ hLK; omega)]
    · rw [if_neg hLK, show zL s = zK s by omega, eo2, mkS_c9]
  · intro k hk
    rw [eK] at hk
    show mkC c t (zK s) w a b 7 k = _ ∧ mkC c t (zK s) w a b 9 _ = _ ∧ mkC c t (zK s) w a b 10 _ = _ ∧ mkC c t (zK s) w a b 11 _ = _
    rw [mkC_7, mkC_9, mkC_10, mkC_11]
    by_cases hk2 : k < zK s
    · have hne := hn k hk2
      have ho := (hm.2.1 k hk2).2.1
      rw [eo k hk2, up_n (by omega), up_n hne, up_n hne, up_n hne, mkS_o (j := 600 + k) (by omega) (by omega) (by omega), mkS_o (j := 1106 + 10 * aOd s k) (by omega) (by omega) (by omega), mkS_o (j := 1107 + 10 * aOd s k) (by omega) (by omega) (by omega), mkS_o (j := 1108 + 10 * aOd s k) (by omega) (by omega) (by omega)]
      exact r5 k hk2
    · have : k = zK s := by omega
      subst this
      rw [eo2, up_s, up_s, up_s, up_s, mkS_6 (by omega), mkS_c6, mkS_c7, mkS_c8]
      exact ⟨rfl, rfl, rfl, rfl⟩
  · unfold rK at *
    rw [show (1 + 7 : Nat) = 8 from rfl] at *
    rw [mkC_8, e.1.m]
    refine ⟨fun h hh => ?_, fun h h1 h2 => ?_⟩
    · by_cases hht : h = t
      · subst hht; rw [up_s, mkS_c5]
      · rw [up_n hht, mkS_o (j := 1105 + 10 * h) (by omega) (by omega) (by omega)]; exact r6.1 h hh
    · rw [up_n (by omega)]; exact r6.2 h h1 h2
  · unfold rT at *
    rw [mkC_n (by omega), mkC_n (by omega), show zT (mkS s t w a b) = zT s from nn_cong (mkS_o (by omega) (by omega) (by omega))]
    refine ⟨fun k hk => ?_, fun k h1 h2 => ?_⟩
    · rw [mkS_o (by omega) (by omega) (by omega)]; exact r7.1 k hk
    · rw [mkS_o (by omega) (by omega) (by omega)]; exact r7.2 k h1 h2
  · unfold rP at *
    rw [mkC_n (by omega), mkC_n (by omega), mkC_n (by omega), show zR (mkS s t w a b) = zR s from nn_cong (mkS_o (by omega) (by omega) (by omega)), mkS_o (j := 15) (by omega) (by omega) (by omega)]
    refine ⟨r8.1, fun k hk => ?_⟩
    rw [mkS_o (by omega) (by omega) (by omega), mkS_o (by omega) (by omega) (by omega)]; exact r8.2 k hk
  · obtain ⟨n, j, G1, G2, G3, G4, G5⟩ := hG
    have eg : nn s 11 = n := nn_nI G1 (by omega)
    unfold rG at *
    rw [mkC_n (by omega), mkC_n (by omega), mkC_n (by omega), show nn (mkS s t w a b) 11 = nn s 11 from nn_cong (mkS_o (by omega) (by omega) (by omega))]
    refine ⟨fun k hk => ?_, fun k hk => ?_, fun k hk => ?_⟩
    · rw [mkS_o (by omega) (by omega) (by omega)]; exact r9.1 k hk
    · rw [mkS_o (by omega) (by omega) (by omega)]; exact r9.2.1 k hk
    · rw [mkS_o (by omega) (by omega) (by omega)]; exact r9.2.2 k hk
  · unfold rR at *
    rw [mkC_n (by omega), mkC_n (by omega)]
    refine ⟨fun k hk => ?_, fun k hk => ?_⟩
    · rw [mkS_o (by omega) (by omega) (by omega)]; exact r10.1 k hk
    · rw [mkS_o (by omega) (by omega) (by omega)]; exact r10.2 k hk
theorem aMS.S0 {T : Nat} {s' : gS} {x : Int32} (h : aMS s s' x) (hm : iM s' ∧ iO s' ∧ iU s') (h0 : aS0 T s) : aS0 T s' := by
  obtain ⟨e, ho, -⟩ := h
  obtain ⟨hp, -, h1, h2, n, j, g1, g2, g3, g4, g5⟩ := h0
  refine ⟨e.all hp, hm, ?_, ?_, n, j, ?_, g2, ?_, g4, fun q hq => ?_⟩
  · unfold iT zT nn; rw [ho 10 (by omega) (by omega) (by omega)]; exact h1
  · unfold iP zR nn; rw [ho 15 (by omega) (by omega) (by omega)]; exact h2
  · rw [ho 11 (by omega) (by omega) (by omega)]; exact g1
  · rw [ho 12 (by omega) (by omega) (by omega)]; exact g3
  · rw [ho _ (by omega) (by omega) (by omega), ho _ (by omega) (by omega) (by omega), ho _ (by omega) (by omega) (by omega), ho _ (by omega) (by omega) (by omega)]; exact g5 q hq
theorem aMS.L {s' : gS} {x : Int32} (h : aMS s s' x) (hp : aHp s) (hm : iM s ∧ iO s ∧ iU s) (hL : iL s) : iL s' := by
  obtain ⟨e, ho, eL, hK, h5, h6, h7, h8⟩ := h
  obtain ⟨g1, g2⟩ := hL
  refine ⟨fun k hk i hi => ?_, fun h3 r hr => ?_⟩
  · by_cases hk2 : k < zK s
    · obtain ⟨o1, o2, o3, o4, o5, o6, o7, o8⟩ := hm.2.1 k hk2
      rw [(h5 k hk2).1, (h5 k hk2).2] at hi
      rw [(h5 k hk2).1, e.ln hp.1 hp.2.1 o2 o3 (by omega)]
      exact h7 _ (g1 k hk2 i hi)
    · rw [h6 k (by omega) hk] at hi; exact absurd hi (by omega)
  · rw [ho 3 (by omega) (by omega) (by omega)] at h3
    rw [e.2.1 _ (by omega) (by omega)]
    exact h7 _ (g2 h3 r hr)
theorem sim_mark {T : Nat} {c : gMem} {x : Int32} (hr : aSR 1 c s) (h0 : aS0 T s) (hx : aHv s x) (h3 : s 3 = 1) : ∃ c', Dv (wX7_mark x w a b c) c' ∧ (∀ m, Dv (wX10_mark x w a b (mr m 1 s)) (mr m 1 (mkF s x w a b))) ∧ aSR 1 c' (mkF s x w a b) ∧ aS0 T (mkF s x w a b) ∧ aMS s (mkF s x w a b) x ∧ ∀ i, i < 6 ∨ 11 < i → c' i = c i := by
  have hp := h0.1
  have hm := h0.2.1
  have hM := hp.1.2.2.2.2.1
  rcases hx with rfl | ⟨t, ht, rfl, hl⟩
  · rw [mkF_N]
    exact ⟨c, fun Q hQ => by rw [x_markN]; exact hQ, fun m Q hQ => by rw [e_markN]; exact hQ, hr, h0, aMS_same (Or.inl rfl), fun _ _ => rfl⟩
  · have f := cF.of hp.1 hp.2.1 hr.2.1 hr.2.2.1 ht hl
    obtain ⟨f1, f2, f3, f4, f5, f6, f7, f8, f9, f10, f11, f12, f13, f14, f15, f16⟩ := f
    have c6 : c 6 0 = 1 := by rw [← h3]; exact hr.2.2.2.1.1
    have c22 : c 2 2 = nI (zM s) := by rw [← hp.1.2.2.2.1]; exact hr.1.2.2.1
    have c8 : c 8 t = s (1105 + 10 * t) := hr.2.2.2.2.2.1.1 t ht
    by_cases h5 : s (1105 + 10 * t) = 0
    · rw [mkF_0 f1 h5]
      have hR := mk_room hp hm ht h5
      obtain ⟨q1, q2⟩ := mkS_all (w := w) (a := a) (b := b) hp hm ht hl h5 h3
      refine ⟨mkC c t (zK s) w a b, fun Q hQ => ?_, fun m Q hQ => ?_, mkC_SR hr h0.2.2.2.2 hp hm ht hl h5 h3, q2.S0 q1 h0, q2, fun i hi => mkC_n hi⟩
      · rw [x_mark0 c6 c22 hM ht f11 (by omega) (by rw [c8, h5]) (K := zK s) (by rw [← hm.1.2.1]; exact hr.2.2.2.1.2.1) (by omega)]; exact hQ
      · rw [e_mark0 f1 h5 hm.1.2.1 (by omega)]; exact hQ
    · rw [mkF_1 f1 h5]
      have hmk : ∃ k, k < zK s ∧ aOd s k = t := (hm.2.2 t ht).resolve_left h5
      refine ⟨c, fun Q hQ => ?_, fun m Q hQ => ?_, hr, h0, aMS_same ?_, fun _ _ => rfl⟩
      · rw [x_mark1 c6 c22 hM ht f11 (by omega) (by rw [c8]; exact h5)]; exact hQ
      · obtain ⟨k, hk, rfl⟩ := hmk
        rw [e_mark1 f1 ?_]
        · exact hQ
        · rw [mr_s, (hm.2.1 k hk).2.2.2.1]
          have := hm.1.2.2.1
          exact nI_nle (by omega) (by omega)
      · obtain ⟨k, hk, e⟩ := hmk
        exact Or.inr ⟨k, hk, by rw [e]⟩
end MK

/-! lists of marked cells, sums over cells -/
def sumN (g : Nat → Nat) : Nat → Nat
  | 0 => 0
  | n + 1 => sumN g n + g n
theorem sumN_add {f g : Nat → Nat} : ∀ n, sumN (fun h => f h + g h) n = sumN f n + sumN g n := by
  intro n
  induction n with
  | zero => rfl
  | succ n ih => show sumN (fun h => f h + g h) n + (f n + g n) = (sumN f n + f n) + (sumN g n + g n); omega
theorem sumN_le {f g : Nat → Nat} : ∀ n, (∀ h, h < n → f h ≤ g h) → sumN f n ≤ sumN g n := by
  intro n
  induction n with
  | zero => intro _; exact Nat.le_refl _
  | succ n ih =>
    intro h
    have h1 := ih (fun q hq => h q (by omega))
    have h2 := h n (by omega)
    show sumN f n + f n ≤ sumN g n + g n
    omega
theorem sumN_cong {f g : Nat → Nat} : ∀ n, (∀ h, h < n → f h = g h) → sumN f n = sumN g n := by
  intro n
  induction n with
  | zero => intro _; rfl
  | succ n ih =>
    intro h
    show sumN f n + f n = sumN g n + g n
    rw [ih (fun q hq => h q (by omega)), h n (by omega)]
theorem sumN_zero {g : Nat → Nat} : ∀ n, (∀ h, h < n → g h = 0) → sumN g n = 0 := by
  intro n
  induction n with
  | zero => intro _; rfl
  | succ n ih =>
    intro h
    show sumN g n + g n = 0
    rw [ih (fun q hq => h q (by omega)), h n (by omega)]
theorem sumN_one {f : Nat → Nat} {a : Nat} : ∀ n, a < n → sumN (fun h => if h = a then f h else 0) n = f a := by
  intro n
  induction n with
  | zero => intro h; omega
  | succ n ih =>
    intro h
    show sumN (fun h => if h = a then f h else 0) n + (if n = a then f n else 0) = f a
    by_cases hn : n = a
    · subst hn
      rw [if_pos rfl, sumN_zero n (fun q hq => if_neg (by omega)), Nat.zero_add]
    · rw [if_neg hn, ih (by omega), Nat.add_zero]
/-- the sum over a list without doubles, as a sum over all numbers -/
theorem sumN_list {f : Nat → Nat} {n : Nat} : ∀ l : List Nat, l.Nodup → (∀ x ∈ l, x < n) → sumN (fun h => if h ∈ l then f h else 0) n = (l.map f).sum := by
  intro l
  induction l with
  | nil => intro _ _; exact sumN_zero n (fun h _ => if_neg (by simp))
  | cons a l ih =>
    intro hd hl
    obtain ⟨h1, h2⟩ := List.nodup_cons.mp hd
    have e : sumN (fun h => if h ∈ a :: l then f h else 0) n = sumN (fun h => (if h = a then f h else 0) + (if h ∈ l then f h else 0)) n := by
      refine sumN_cong n (fun h _ => ?_)
      by_cases ha : h = a
      · subst ha
        simp [h1]
      · simp [ha]
    rw [e, sumN_add, sumN_one n (hl a (by simp)), ih h2 (fun x hx => hl x (by simp [hx]))]
    simp
theorem aPs_sum {s : gS} : ∀ n, aPs s n = sumN (fun h => if s (1100 + 10 * h) = 1 then aSz s h else 0) n := by
  intro n
  induction n with
  | zero => rfl
  | succ n ih => show aPs s n + _ = sumN _ n + _; rw [ih]
theorem aCn_sum {s : gS} : ∀ n, aCn s n = sumN (fun h => if s (1100 + 10 * h) = 1 then 1 else 0) n := by
  intro n
  induction n with
  | zero => rfl
  | succ n ih => show aCn s n + _ = sumN _ n + _; rw [ih]
def Lst (s : gS) : List Nat := (List.range (zK s)).map (aOd s)
theorem Lst_mem {s : gS} {t : Nat} : t ∈ Lst s ↔ ∃ k, k < zK s ∧ aOd s k = t := by
  unfold Lst; simp [List.mem_map, List.mem_range]
theorem Lst_nodup {s : gS} (hO : iO s) (hM : zM s ≤ 500) (hK : zK s ≤ zM s) : (Lst s).Nodup := by
  unfold Lst
  rw [List.nodup_iff_pairwise_ne, List.pairwise_map]
  refine List.Pairwise.imp_of_mem ?_ (List.nodup_range (n := zK s))
  intro a b ha hb hne e
  exact hne (od_inj hO hM hK (List.mem_range.mp ha) (List.mem_range.mp hb) e)
theorem Lst_lt {s : gS} (hO : iO s) : ∀ x ∈ Lst s, x < zM s := by
  intro x hx
  obtain ⟨k, hk, rfl⟩ := Lst_mem.mp hx
  exact (hO k hk).2.1
theorem Lst_len {s : gS} : (Lst s).length = zK s := by unfold Lst; simp
theorem Lst_get {s : gS} {k : Nat} (hk : k < zK s) : (Lst s)[k]? = some (aOd s k) := by
  unfold Lst; simp [hk]
def visit (l : List Nat) (x : Int32) : List Nat := if x = -1 then l else if x.toNatClampNeg ∈ l then l else l ++ [x.toNatClampNeg]
theorem mkF_list {s : gS} {x w a b : Int32} (hp : aHp s) (hm : iM s ∧ iO s ∧ iU s) (hx : aHv s x) : Lst (mkF s x w a b) = visit (Lst s) x := by
  have hM := hp.1.2.2.2.2.1
  have hK := hm.1.2.2.1
  rcases hx with rfl | ⟨t, ht, rfl, hl⟩
  · rw [mkF_N]; unfold visit; rw [if_pos rfl]
  · have e1 := nI_m1 (show t < 2 ^ 31 by omega)
    by_cases h5 : s (1105 + 10 * t) = 0
    · have hR := mk_room hp hm ht h5
      have hn : t ∉ Lst s := by
        intro q
        obtain ⟨k, hk, e⟩ := Lst_mem.mp q
        exact od_ne hm.2.1 hM hK h5 hk e
      rw [mkF_0 (by omega) h5]
      unfold visit
      rw [if_neg e1, nI_clamp (by omega), if_neg hn]
      have eK : zK (mkS s t w a b) = zK s + 1 := nn_nI mkS_4 (by omega)
      unfold Lst
      rw [eK, List.range_succ, List.map_append]
      congr 1
      · refine List.map_congr_left (fun k hk => ?_)
        have := List.mem_range.mp hk
        exact nn_cong (mkS_o (by omega) (by omega) (by omega))
      · show [aOd (mkS s t w a b) (zK s)] = [t]
        rw [show aOd (mkS s t w a b) (zK s) = t from nn_nI (mkS_6 (by omega)) (by omega)]
    · rw [mkF_1 (by omega) h5]
      obtain ⟨k, hk, e⟩ := (hm.2.2 t ht).resolve_left h5
      unfold visit
      rw [if_neg e1, nI_clamp (by omega), if_pos (Lst_mem.mpr ⟨k, hk, e⟩)]
/-- the class's marking, told as a function -/
def mkX (c : gMem) (x w a b : Int32) : gMem := if x = -1 then c else if c 8 x.toNatClampNeg = 0 then mkC c x.toNatClampNeg (c 6 1).toNatClampNeg w a b else c
theorem sim_mark2 {T : Nat} {s : gS} {c : gMem} {x w a b : Int32} (hr : aSR 1 c s) (h0 : aS0 T s) (hx : aHv s x) (h3 : s 3 = 1) : Dv (wX7_mark x w a b c) (mkX c x w a b) ∧ (∀ m, Dv (wX10_mark x w a b (mr m 1 s)) (mr m 1 (mkF s x w a b))) ∧ aSR 1 (mkX c x w a b) (mkF s x w a b) ∧ aS0 T (mkF s x w a b) ∧ aMS s (mkF s x w a b) x ∧ ∀ i, i < 6 ∨ 11 < i → mkX c x w a b i = c i := by
  have hp := h0.1
  have hm := h0.2.1
  have hM := hp.1.2.2.2.2.1
  have hK := hm.1.2.2.1
  rcases hx with rfl | ⟨t, ht, rfl, hl⟩
  · have e : mkX c (-1) w a b = c := if_pos rfl
    rw [mkF_N, e]
    exact ⟨fun Q hQ => by rw [x_markN]; exact hQ, fun m Q hQ => by rw [e_markN]; exact hQ, hr, h0, aMS_same (Or.inl rfl), fun _ _ => rfl⟩
  · have f := cF.of hp.1 hp.2.1 hr.2.1 hr.2.2.1 ht hl
    obtain ⟨f1, f2, f3, f4, f5, f6, f7, f8, f9, f10, f11, f12, f13, f14, f15, f16⟩ := f
    have c6 : c 6 0 = 1 := by rw [← h3]; exact hr.2.2.2.1.1
    have c61 : c 6 1 = nI (zK s) := by rw [← hm.1.2.1]; exact hr.2.2.2.1.2.1
    have c22 : c 2 2 = nI (zM s) := by rw [← hp.1.2.2.2.1]; exact hr.1.2.2.1
    have c8 : c 8 t = s (1105 + 10 * t) := hr.2.2.2.2.2.1.1 t ht
    by_cases h5 : s (1105 + 10 * t) = 0
    · have e : mkX c (nI t) w a b = mkC c t (zK s) w a b := by
        unfold mkX; rw [if_neg (nI_m1 (by omega)), nI_clamp (by omega), if_pos (c8.trans h5), c61, nI_clamp (by omega)]
      rw [mkF_0 f1 h5, e]
      have hR := mk_room hp hm ht h5
      obtain ⟨q1, q2⟩ := mkS_all (w := w) (a := a) (b := b) hp hm ht hl h5 h3
      refine ⟨fun Q hQ => ?_, fun m Q hQ => ?_, mkC_SR hr h0.2.2.2.2 hp hm ht hl h5 h3, q2.S0 q1 h0, q2, fun i hi => mkC_n hi⟩
      · rw [x_mark0 c6 c22 hM ht f11 (by omega) (by rw [c8, h5]) (K := zK s) c61 (by omega)]; exact hQ
      · rw [e_mark0 f1 h5 hm.1.2.1 (by omega)]; exact hQ
    · have e : mkX c (nI t) w a b = c := by
        unfold mkX; rw [if_neg (nI_m1 (by omega)), nI_clamp (by omega), if_neg (by rw [c8]; exact h5)]
      rw [mkF_1 f1 h5, e]
      have hmk : ∃ k, k < zK s ∧ aOd s k = t := (hm.2.2 t ht).resolve_left h5
      refine ⟨fun Q hQ => ?_, fun m Q hQ => ?_, hr, h0, aMS_same ?_, fun _ _ => rfl⟩
      · rw [x_mark1 c6 c22 hM ht f11 (by omega) (by rw [c8]; exact h5)]; exact hQ
      · obtain ⟨k, hk, rfl⟩ := hmk
        rw [e_mark1 f1 ?_]
        · exact hQ
        · rw [mr_s, (hm.2.1 k hk).2.2.2.1]
          exact nI_nle (by omega) (by omega)
      · obtain ⟨k, hk, e⟩ := hmk
        exact Or.inr ⟨k, hk, by rw [e]⟩
theorem mkX_63 {c : gMem} {x w a b v : Int32} : mkX (mp c 6 3 v) x w a b = mp (mkX c x w a b) 6 3 v := by
  unfold mkX
  rw [mp_n (show (8 : Nat) ≠ 6 by decide), mp_s, up_n (show (1 : Nat) ≠ 3 by decide)]
  by_cases h1 : x = -1
  · rw [if_pos h1, if_pos h1]
  · rw [if_neg h1, if_neg h1]
    by_cases h2 : c 8 x.toNatClampNeg = 0
    · rw [if_pos h2, if_pos h2]
      unfold mkC
      rw [mp_comm (i := 11) (a := 6) (by decide), mp_comm (i := 10) (a := 6) (by decide), mp_comm (i := 9) (a := 6) (by decide), mp_comm (i := 8) (a := 6) (by decide)]
      congr 4
      funext q
      by_cases hq : q = 6
      · subst hq
        rw [mp_s, mp_s, mp_s, mp_n (by decide), mp_s, mp_n (by decide)]
        funext j
        by_cases hj1 : j = 1
        · subst hj1; rw [up_s, up_n (by decide), up_s]
        · by_cases hj3 : j = 3
          · subst hj3; rw [up_n (by decide), up_s, up_s]
          · rw [up_n hj1, up_n hj3, up_n hj3, up_n hj1]
      · rw [mp_n hq, mp_n hq, mp_n hq]
        by_cases hq7 : q = 7
        · subst hq7; rw [mp_s, mp_s, mp_n (by decide)]
        · rw [mp_n hq7, mp_n hq, mp_n hq7]
    · rw [if_neg h2, if_neg h2]

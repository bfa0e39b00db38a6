/-! loops of the reference -/
theorem gi_no {x lo hi : Int64} (h : hi < lo) : (if lo ≤ x ∧ x ≤ hi then (1 : Int32) else 0) = 0 := if_neg (fun q => absurd (Int64.le_trans q.1 q.2) (Int64.not_le.mpr h))
theorem gi_in {x a b : Int32} {lo hi : Int64} (h1 : lo = a.toInt64) (h2 : hi = b.toInt64) : (if lo ≤ x.toInt64 ∧ x.toInt64 ≤ hi then (1 : Int32) else 0) = if a ≤ x ∧ x ≤ b then 1 else 0 := by
  subst h1; subst h2
  simp only [Int64.le_iff_toInt_le, Int32.toInt_toInt64, Int32.le_iff_toInt_le]
theorem gi_of {x a b : Int32} (h : ¬ (if a ≤ x ∧ x ≤ b then (1 : Int32) else 0) = 0) : a ≤ x ∧ x ≤ b := Decidable.byContradiction (fun q => h (if_neg q))
theorem gi_j {x b : Int32} {B : Nat} (h : 0 ≤ x ∧ x ≤ b) (hb : b.toInt = B) : ∃ j : Nat, j ≤ B ∧ x = nI j := nI_of2 hb (Int32.not_lt.mpr h.1) h.2
theorem gv_s0 {x b : Int32} {B N : Nat} (h : 0 ≤ x ∧ x ≤ b) (hb : b.toInt = B) (hN : B < N) (hN2 : N < 2 ^ 31) : vp_in x N := by
  obtain ⟨j, hj, rfl⟩ := gi_j h hb
  exact vp_in_nI (by omega) hN2
theorem gv_s {x b O : Int32} {o B N : Nat} (hO : O = nI o) (h : 0 ≤ x ∧ x ≤ b) (hb : b.toInt = B) (hN : o + B < N) (hN2 : N < 2 ^ 31) : vp_in (O + x) N := by
  obtain ⟨j, hj, rfl⟩ := gi_j h hb
  rw [hO, nI_add]
  exact vp_in_nI (by omega) hN2
theorem gv_sj {x b O : Int32} {o B : Nat} (hO : O = nI o) (h : 0 ≤ x ∧ x ≤ b) (hb : b.toInt = B) (hN : o + B < 2 ^ 31) : ∃ j : Nat, j ≤ B ∧ (O + x).toNatClampNeg = o + j := by
  obtain ⟨j, hj, rfl⟩ := gi_j h hb
  exact ⟨j, hj, by rw [hO, nI_add, nI_clamp (by omega)]⟩
theorem sx_neg {y x b O : Int32} {o B : Nat} (hO : O = nI o) (h : 0 ≤ x ∧ x ≤ b) (hb : b.toInt = B) (h1 : 20 ≤ o) (h2 : o + B < 84) : sx y (O + x).toNatClampNeg = (-1) := by
  obtain ⟨j, hj, e⟩ := gv_sj hO h hb (by omega)
  rw [e, sx, if_neg (by omega), if_pos (by omega)]
theorem sx_zero {y x b O : Int32} {o B : Nat} (hO : O = nI o) (h : 0 ≤ x ∧ x ≤ b) (hb : b.toInt = B) (h1 : 84 ≤ o) (h2 : o + B < 2 ^ 31) : sx y (O + x).toNatClampNeg = 0 := by
  obtain ⟨j, hj, e⟩ := gv_sj hO h hb h2
  rw [e, sx, if_neg (by omega), if_neg (by omega)]
theorem sx_upd {y : Int32} {i : Nat} (h : sx y i = (-1)) (j : Nat) : upd (sx y) i (-1) j = sx y j := by
  by_cases e : j = i
  · subst e; rw [h]; simp [upd]
  · simp [upd, e]
theorem gv_t {x y : Int32} (hx : 0 ≤ x ∧ x ≤ 3) (hy : 0 ≤ y ∧ y ≤ 7) : ∃ j : Nat, j < 32 ∧ (44 + 8 * x) + y = nI (44 + j) := by
  obtain ⟨i, hi, rfl⟩ := gi_j (B := 3) hx (by decide)
  obtain ⟨j, hj, rfl⟩ := gi_j (B := 7) hy (by decide)
  refine ⟨8 * i + j, by omega, ?_⟩
  rw [show (44 : Int32) = nI 44 from by decide, show (8 : Int32) = nI 8 from by decide, pk_mul, nI_add, nI_add, Nat.add_assoc]
theorem gv_t_in {x y : Int32} (hx : 0 ≤ x ∧ x ≤ 3) (hy : 0 ≤ y ∧ y ≤ 7) : vp_in ((44 + 8 * x) + y) 26100 := by
  obtain ⟨j, hj, e⟩ := gv_t hx hy
  rw [e]
  exact vp_in_nI (by omega) (by decide)
theorem sx_t {z x y : Int32} (hx : 0 ≤ x ∧ x ≤ 3) (hy : 0 ≤ y ∧ y ≤ 7) : sx z ((44 + 8 * x) + y).toNatClampNeg = (-1) := by
  obtain ⟨j, hj, e⟩ := gv_t hx hy
  rw [e, nI_clamp (by omega), sx, if_neg (by omega), if_pos (by omega)]
section ML
variable {l : Launch} {G : gG} {n k : Nat} {w : Nat → va_E}
theorem moves_loop {B : gB} {a b N lo hi : Nat} {f : Nat → Int32} (g : Nat → Int32) (hhi : hi ≤ N) (hN : N < 2 ^ 31) (ha : G.2.1 ≤ a ∧ a < G.2.1 + n) (hb : G.2.1 ≤ b ∧ b < G.2.1 + n) (hab : a ≠ b) (hf : w a = ai G N f)
    (kk : Go l G mX10_moves B 23 [(4, .int (nI hi)), (0, .ref a), (1, .ref b), (2, .int (nI lo)), (3, .int (nI hi))] [] n k (va_up w b (ai G N (fun j => if lo ≤ j ∧ j < hi then f j else g j)))) :
    ∀ (d i : Nat), hi - i = d → lo ≤ i → i ≤ hi → Go l G mX10_moves B 3 [(4, .int (nI i)), (0, .ref a), (1, .ref b), (2, .int (nI lo)), (3, .int (nI hi))] [] n k (va_up w b (ai G N (fun j => if lo ≤ j ∧ j < i then f j else g j))) := by
  intro d
  induction d with
  | zero =>
    intro i hd hl hi'
    have hiN : i = hi := by omega
    subst hiN
    refine go_iload (pc := 3) dX10_moves_3 rfl ?_
    refine go_iload_n (pc := 5) dX10_moves_5 rfl rfl ?_
    exact go_icmp_ge_t (pc := 6) (tgt := 23) dX10_moves_6 (by decide) (nI_le (Nat.le_refl _) (by omega)) kk
  | succ d ih =>
    intro i hd hl hi'
    have hlt : i < hi := by omega
    refine go_iload (pc := 3) dX10_moves_3 rfl ?_
    refine go_iload_n (pc := 5) dX10_moves_5 rfl rfl ?_
    refine go_icmp_ge_f (pc := 6) (tgt := 23) dX10_moves_6 (by decide) (nI_ge hlt (by omega)) ?_
    refine go_aload_n (pc := 9) dX10_moves_9 rfl rfl ?_
    refine go_iload (pc := 10) dX10_moves_10 rfl ?_
    refine go_aload_n (pc := 12) dX10_moves_12 rfl rfl ?_
    refine go_iload (pc := 13) dX10_moves_13 rfl ?_
    refine go_iald (pc := 15) ha ((va_up_ne _ _ hab).trans hf) (vp_in_nI (by omega) hN) dX10_moves_15 ?_
    refine go_iast (pc := 16) hb (va_up_self _ _ _) (vp_in_nI (by omega) hN) dX10_moves_16 ?_
    rw [va_up_up, nI_clamp (by omega)]
    refine go_iinc (pc := 17) (v := nI (i + 1)) (lv' := [(4, .int (nI (i + 1))), (0, .ref a), (1, .ref b), (2, .int (nI lo)), (3, .int (nI hi))]) dX10_moves_17 0 rfl (nI_1 i) (by decide) rfl ?_
    refine go_goto (pc := 20) (tgt := 3) dX10_moves_20 (by decide) ?_
    refine go_arr (g := fun j => if lo ≤ j ∧ j < i + 1 then f j else g j) (fun j _ => ?_) (ih (i + 1) (by omega) (by omega) (by omega))
    by_cases h : j = i
    · subst h; simp [upd, hl]
    · simp only [upd, if_neg h]
      by_cases h2 : lo ≤ j ∧ j < i
      · rw [if_pos h2, if_pos (by omega)]
      · rw [if_neg h2, if_neg (by omega)]
/-- moves(from, to, lo, hi) -/
theorem ct_moves {a b N lo hi : Nat} {f g : Nat → Int32} (hl : lo ≤ hi) (hhi : hi ≤ N) (hN : N < 2 ^ 31) (ha : G.2.1 ≤ a ∧ a < G.2.1 + n) (hb : G.2.1 ≤ b ∧ b < G.2.1 + n) (hab : a ≠ b) (hf : w a = ai G N f) (hg : w b = ai G N g) : Ct l G mX10_moves 0 0 [.ref a, .ref b, .int (nI lo), .int (nI hi)] n k w (none, n, k, va_up w b (ai G N (fun j => if lo ≤ j ∧ j < hi then f j else g j))) := by
  refine Ct.of (by decide) (Nat.le_of_ble_eq_true rfl) ⟨Nat.le_refl _, Nat.le_refl _⟩ ?_
  show Go l G mX10_moves _ 0 [(0, .ref a), (1, .ref b), (2, .int (nI lo)), (3, .int (nI hi))] [] n k w
  refine go_iload_n (pc := 0) dX10_moves_0 rfl rfl ?_
  refine go_istore (pc := 1) (lv' := [(4, .int (nI lo)), (0, .ref a), (1, .ref b), (2, .int (nI lo)), (3, .int (nI hi))]) dX10_moves_1 (by decide) rfl ?_
  refine go_ext (w' := va_up w b (ai G N (fun j => if lo ≤ j ∧ j < lo then f j else g j))) (fun i _ => ?_) (moves_loop g hhi hN ha hb hab hf ?_ (hi - lo) lo rfl (Nat.le_refl _) hl)
  · by_cases hi : G.2.1 + i = b
    · rw [hi, va_up_self, hg]
      have : (fun j => if lo ≤ j ∧ j < lo then f j else g j) = g := by
        funext j
        rw [if_neg (by omega)]
      rw [this]
    · rw [va_up_ne _ _ hi]
  · exact go_vret (pc := 23) rfl dX10_moves_23
theorem go_arrz {M : gM} {B : gB} {pc : Nat} {lv : List (Nat × Value)} {st : List Value} {a N : Nat} {f g : Nat → Int32} (h : ∀ j, j < N → f j = g j) (kk : Go l G M B pc lv st n k (va_up w a (az G N g))) : Go l G M B pc lv st n k (va_up w a (az G N f)) :=
  go_ext2 (fun i _ => by
    by_cases hi : G.2.1 + i = a
    · rw [hi, va_up_self, va_up_self]; exact Or.inr ⟨_, _, _, _, rfl, rfl, h⟩
    · rw [va_up_ne _ _ hi, va_up_ne _ _ hi]; exact Or.inl rfl) kk
/-- the first loop of reached(): no one is reached -/
theorem reached_l1 {B : gB} {a b b1 b2 b8 b9 b10 b11 b13 b15 : Nat} {f3 f4 f5 f6 f7 f12 f14 : Int32} {f : Nat → Int32} (ha : G.2.1 ≤ a ∧ a < G.2.1 + n) (hb : G.2.1 ≤ b11 ∧ b11 < G.2.1 + n) (hab : a ≠ b11) (hw : w a = mO b b1 b2 b8 b9 b10 b11 b13 b15 f3 f4 f5 f6 f7 f12 f14)
    (kk : Go l G mX10_reached B 22 [(1, .int (nI 500)), (0, .ref a)] [] n k (va_up w b11 (az G 500 (fun _ => 0)))) :
    ∀ (d i : Nat), 500 - i = d → i ≤ 500 → Go l G mX10_reached B 2 [(1, .int (nI i)), (0, .ref a)] [] n k (va_up w b11 (az G 500 (fun j => if j < i then 0 else f j))) := by
  intro d
  induction d with
  | zero =>
    intro i hd hi
    have hiN : i = 500 := by omega
    subst hiN
    refine go_arrz (g := fun _ => 0) (fun j hj => if_pos hj) ?_
    refine go_iload_n (pc := 2) dX10_reached_2 rfl rfl ?_
    refine go_sipush (pc := 3) (v := nI 500) dX10_reached_3 (by decide) ?_
    exact go_icmp_ge_t (pc := 6) (tgt := 22) dX10_reached_6 (by decide) (nI_le (Nat.le_refl _) (by decide)) kk
  | succ d ih =>
    intro i hd hi
    have hlt : i < 500 := by omega
    refine go_iload_n (pc := 2) dX10_reached_2 rfl rfl ?_
    refine go_sipush (pc := 3) (v := nI 500) dX10_reached_3 (by decide) ?_
    refine go_icmp_ge_f (pc := 6) (tgt := 22) dX10_reached_6 (by decide) (nI_ge hlt (by decide)) ?_
    refine go_aload_n (pc := 9) dX10_reached_9 rfl rfl ?_
    refine go_get (pc := 10) fX10_28 rfl ha ((va_up_ne _ _ hab).trans hw) rfl dX10_reached_10 ?_
    refine go_iload_n (pc := 13) dX10_reached_13 rfl rfl ?_
    refine go_iconst (pc := 14) (v := 0) dX10_reached_14 (by decide) ?_
    refine go_zast (pc := 15) hb (va_up_self _ _ _) (vp_in_nI hlt (by decide)) dX10_reached_15 ?_
    rw [va_up_up, nI_clamp (by omega)]
    refine go_iinc (pc := 16) (v := nI (i + 1)) (lv' := [(1, .int (nI (i + 1))), (0, .ref a)]) dX10_reached_16 0 rfl (nI_1 i) (by decide) rfl ?_
    refine go_goto (pc := 19) (tgt := 2) dX10_reached_19 (by decide) ?_
    refine go_arrz (g := fun j => if j < i + 1 then 0 else f j) (fun j _ => ?_) (ih (i + 1) (by omega) (by omega))
    by_cases h : j = i
    · subst h; simp [upd]; rfl
    · simp only [upd, if_neg h]
      by_cases h2 : j < i
      · rw [if_pos h2, if_pos (by omega)]
      · rw [if_neg h2, if_neg (by omega)]
end ML

/-! loops of the reference -/
theorem gi_no {x lo hi : Int64} (h : hi < lo) : (if lo ≤ x ∧ x ≤ hi then (1 : Int32) else 0) = 0 := if_neg (fun q => absurd (Int64.le_trans q.1 q.2) (Int64.not_le.mpr h))
theorem gi_in {x a b : Int32} {lo hi : Int64} (h1 : lo = a.toInt64) (h2 : hi = b.toInt64) : (if lo ≤ x.toInt64 ∧ x.toInt64 ≤ hi then (1 : Int32) else 0) = if a ≤ x ∧ x ≤ b then 1 else 0 := by
  subst h1; subst h2
  simp only [Int64.le_iff_toInt_le, Int32.toInt_toInt64, Int32.le_iff_toInt_le]
theorem gi_of {x a b : Int32} (h : ¬ (if a ≤ x ∧ x ≤ b then (1 : Int32) else 0) = 0) : a ≤ x ∧ x ≤ b := Decidable.byContradiction (fun q => h (if_neg q))
theorem gi_j {x b : Int32} {B : Nat} (h : 0 ≤ x ∧ x ≤ b) (hb : b.toInt = B) : ∃ j : Nat, j ≤ B ∧ x = nI j := nI_of2 hb (Int32.not_lt.mpr h.1) h.2
theorem gv_s0 {x b : Int32} {B N : Nat} (h : 0 ≤ x ∧ x ≤ b) (hb : b.toInt = B) (hN : B < N) (hN2 : N < 2 ^ 31) : vp_in x N := by
  obtain ⟨j, hj, rfl⟩ := gi_j h hb
  exact vp_in_nI (by omega) hN2
theorem gv_s {x b O : Int32} {o B N : Nat} (hO : O = nI o) (h : 0 ≤ x ∧ x ≤ b) (hb : b.toInt = B) (hN : o + B < N) (hN2 : N < 2 ^ 31) : vp_in (O + x) N := by
  obtain ⟨j, hj, rfl⟩ := gi_j h hb
  rw [hO, nI_add]
  exact vp_in_nI (by omega) hN2
theorem gv_sj {x b O : Int32} {o B : Nat} (hO : O = nI o) (h : 0 ≤ x ∧ x ≤ b) (hb : b.toInt = B) (hN : o + B < 2 ^ 31) : ∃ j : Nat, j ≤ B ∧ (O + x).toNatClampNeg = o + j := by
  obtain ⟨j, hj, rfl⟩ := gi_j h hb
  exact ⟨j, hj, by rw [hO, nI_add, nI_clamp (by omega)]⟩
theorem sx_neg {y x b O : Int32} {o B : Nat} (hO : O = nI o) (h : 0 ≤ x ∧ x ≤ b) (hb : b.toInt = B) (h1 : 20 ≤ o) (h2 : o + B < 84) : sx y (O + x).toNatClampNeg = (-1) := by
  obtain ⟨j, hj, e⟩ := gv_sj hO h hb (by omega)
  rw [e, sx, if_neg (by omega), if_pos (by omega)]
theorem sx_zero {y x b O : Int32} {o B : Nat} (hO : O = nI o) (h : 0 ≤ x ∧ x ≤ b) (hb : b.toInt = B) (h1 : 84 ≤ o) (h2 : o + B < 2 ^ 31) : sx y (O + x).toNatClampNeg = 0 := by
  obtain ⟨j, hj, e⟩ := gv_sj hO h hb h2
  rw [e, sx, if_neg (by omega), if_neg (by omega)]
theorem sx_upd {y : Int32} {i : Nat} (h : sx y i = (-1)) (j : Nat) : upd (sx y) i (-1) j = sx y j := by
  by_cases e : j = i
  · subst e; rw [h]; simp [upd]
  · simp [upd, e]
theorem gv_t {x y : Int32} (hx : 0 ≤ x ∧ x ≤ 3) (hy : 0 ≤ y ∧ y ≤ 7) : ∃ j : Nat, j < 32 ∧ (44 + 8 * x) + y = nI (44 + j) := by
  obtain ⟨i, hi, rfl⟩ := gi_j (B := 3) hx (by decide)
  obtain ⟨j, hj, rfl⟩ := gi_j (B := 7) hy (by decide)
  refine ⟨8 * i + j, by omega, ?_⟩
  rw [show (44 : Int32) = nI 44 from by decide, show (8 : Int32) = nI 8 from by decide, pk_mul, nI_add, nI_add, Nat.add_assoc]
theorem gv_t_in {x y : Int32} (hx : 0 ≤ x ∧ x ≤ 3) (hy : 0 ≤ y ∧ y ≤ 7) : vp_in ((44 + 8 * x) + y) 26100 := by
  obtain ⟨j, hj, e⟩ := gv_t hx hy
  rw [e]
  exact vp_in_nI (by omega) (by decide)
theorem sx_t {z x y : Int32} (hx : 0 ≤ x ∧ x ≤ 3) (hy : 0 ≤ y ∧ y ≤ 7) : sx z ((44 + 8 * x) + y).toNatClampNeg = (-1) := by
  obtain ⟨j, hj, e⟩ := gv_t hx hy
  rw [e, nI_clamp (by omega), sx, if_neg (by omega), if_pos (by omega)]
section ML
variable {l : Launch} {G : gG} {n k : Nat} {w : Nat → va_E}
theorem moves_loop {B : gB} {a b N lo hi : Nat} {f : Nat → Int32} (g : Nat → Int32) (hhi : hi ≤ N) (hN : N < 2 ^ 31) (ha : G.2.1 ≤ a ∧ a < G.2.1 + n) (hb : G.2.1 ≤ b ∧ b < G.2.1 + n) (hab : a ≠ b) (hf : w a = ai G N f)
    (kk : Go l G mX10_moves B 23 [(4, .int (nI hi)), (0, .ref a), (1, .ref b), (2, .int (nI lo)), (3, .int (nI hi))] [] n k (va_up w b (ai G N (fun j => if lo ≤ j ∧ j < hi then f j else g j)))) :
    ∀ (d i : Nat), hi - i = d → lo ≤ i → i ≤ hi → Go l G mX10_moves B 3 [(4, .int (nI i)), (0, .ref a), (1, .ref b), (2, .int (nI lo)), (3, .int (nI hi))] [] n k (va_up w b (ai G N (fun j => if lo ≤ j ∧ j < i then f j else g j))) := by
  intro d
  induction d with
  | zero =>
    intro i hd hl hi'
    have hiN : i = hi := by omega
    subst hiN
    refine go_iload (pc := 3) dX10_moves_3 rfl ?_
    refine go_iload_n (pc := 5) dX10_moves_5 rfl rfl ?_
    exact go_icmp_ge_t (pc := 6) (tgt := 23) dX10_moves_6 (by decide) (nI_le (Nat.le_refl _) (by omega)) kk
  | succ d ih =>
    intro i hd hl hi'
    have hlt : i < hi := by omega
    refine go_iload (pc := 3) dX10_moves_3 rfl ?_
    refine go_iload_n (pc := 5) dX10_moves_5 rfl rfl ?_
    refine go_icmp_ge_f (pc := 6) (tgt := 23) dX10_moves_6 (by decide) (nI_ge hlt (by omega)) ?_
    refine go_aload_n (pc := 9) dX10_moves_9 rfl rfl ?_
    refine go_iload (pc := 10) dX10_moves_10 rfl ?_
    refine go_aload_n (pc := 12) dX10_moves_12 rfl rfl ?_
    refine go_iload (pc := 13) dX10_moves_13 rfl ?_
    refine go_iald (pc := 15) ha ((va_up_ne _ _ hab).trans hf) (vp_in_nI (by omega) hN) dX10_moves_15 ?_
    refine go_iast (pc := 16) hb (va_up_self _ _ _) (vp_in_nI (by omega) hN) dX10_moves_16 ?_
    rw [va_up_up, nI_clamp (by omega)]
    refine go_iinc (pc := 17) (v := nI (i + 1)) (lv' := [(4, .int (nI (i + 1))), (0, .ref a), (1, .ref b), (2, .int (nI lo)), (3, .int (nI hi))]) dX10_moves_17 0 rfl (nI_1 i) (by decide) rfl ?_
    refine go_goto (pc := 20) (tgt := 3) dX10_moves_20 (by decide) ?_
    refine go_arr (g := fun j => if lo ≤ j ∧ j < i + 1 then f j else g j) (fun j _ => ?_) (ih (i + 1) (by omega) (by omega) (by omega))
    by_cases h : j = i
    · subst h; simp [upd, hl]
    · simp only [upd, if_neg h]
      by_cases h2 : lo ≤ j ∧ j < i
      · rw [if_pos h2, if_pos (by omega)]
      · rw [if_neg h2, if_neg (by omega)]
/-- moves(from, to, lo, hi) -/
theorem ct_moves {a b N lo hi : Nat} {f g : Nat → Int32} (hl : lo ≤ hi) (hhi : hi ≤ N) (hN : N < 2 ^ 31) (ha : G.2.1 ≤ a ∧ a < G.2.1 + n) (hb : G.2.1 ≤ b ∧ b < G.2.1 + n) (hab : a ≠ b) (hf : w a = ai G N f) (hg : w b = ai G N g) : Ct l G mX10_moves 0 0 [.ref a, .ref b, .int (nI lo), .int (nI hi)] n k w (none, n, k, va_up w b (ai G N (fun j => if lo ≤ j ∧ j < hi then f j else g j))) := by
  refine Ct.of (by decide) (Nat.le_of_ble_eq_true rfl) ⟨Nat.le_refl _, Nat.le_refl _⟩ ?_
  show Go l G mX10_moves _ 0 [(0, .ref a), (1, .ref b), (2, .int (nI lo)), (3, .int (nI hi))] [] n k w
  refine go_iload_n (pc := 0) dX10_moves_0 rfl rfl ?_
  refine go_istore (pc := 1) (lv' := [(4, .int (nI lo)), (0, .ref a), (1, .ref b), (2, .int (nI lo)), (3, .int (nI hi))]) dX10_moves_1 (by decide) rfl ?_
  refine go_ext (w' := va_up w b (ai G N (fun j => if lo ≤ j ∧ j < lo then f j else g j))) (fun i _ => ?_) (moves_loop g hhi hN ha hb hab hf ?_ (hi - lo) lo rfl (Nat.le_refl _) hl)
  · by_cases hi : G.2.1 + i = b
    · rw [hi, va_up_self, hg]
      have : (fun j => if lo ≤ j ∧ j < lo then f j else g j) = g := by
        funext j
        rw [if_neg (by omega)]
      rw [this]
    · rw [va_up_ne _ _ hi]
  · exact go_vret (pc := 23) rfl dX10_moves_23
theorem go_arrz {M : gM} {B : gB} {pc : Nat} {lv : List (Nat × Value)} {st : List Value} {a N : Nat} {f g : Nat → Int32} (h : ∀ j, j < N → f j = g j) (kk : Go l G M B pc lv st n k (va_up w a (az G N g))) : Go l G M B pc lv st n k (va_up w a (az G N f)) :=
  go_ext2 (fun i _ => by
    by_cases hi : G.2.1 + i = a
    · rw [hi, va_up_self, va_up_self]; exact Or.inr ⟨_, _, _, _, rfl, rfl, h⟩
    · rw [va_up_ne _ _ hi, va_up_ne _ _ hi]; exact Or.inl rfl) kk
/-- the first loop of reached(): no one is reached -/
theorem reached_l1 {B : gB} {a b b1 b2 b8 b9 b10 b11 b13 b15 : Nat} {f3 f4 f5 f6 f7 f12 f14 : Int32} {f : Nat → Int32} (ha : G.2.1 ≤ a ∧ a < G.2.1 + n) (hb : G.2.1 ≤ b11 ∧ b11 < G.2.1 + n) (hab : a ≠ b11) (hw : w a = mO b b1 b2 b8 b9 b10 b11 b13 b15 f3 f4 f5 f6 f7 f12 f14)
    (kk : Go l G mX10_reached B 22 [(1, .int (nI 500)), (0, .ref a)] [] n k (va_up w b11 (az G 500 (fun _ => 0)))) :
    ∀ (d i : Nat), 500 - i = d → i ≤ 500 → Go l G mX10_reached B 2 [(1, .int (nI i)), (0, .ref a)] [] n k (va_up w b11 (az G 500 (fun j => if j < i then 0 else f j))) := by
  intro d
  induction d with
  | zero =>
    intro i hd hi
    have hiN : i = 500 := by omega
    subst hiN
    refine go_arrz (g := fun _ => 0) (fun j hj => if_pos hj) ?_
    refine go_iload_n (pc := 2) dX10_reached_2 rfl rfl ?_
    refine go_sipush (pc := 3) (v := nI 500) dX10_reached_3 (by decide) ?_
    exact go_icmp_ge_t (pc := 6) (tgt := 22) dX10_reached_6 (by decide) (nI_le (Nat.le_refl _) (by decide)) kk
  | succ d ih =>
    intro i hd hi
    have hlt : i < 500 := by omega
    refine go_iload_n (pc := 2) dX10_reached_2 rfl rfl ?_
    refine go_sipush (pc := 3) (v := nI 500) dX10_reached_3 (by decide) ?_
    refine go_icmp_ge_f (pc := 6) (tgt := 22) dX10_reached_6 (by decide) (nI_ge hlt (by decide)) ?_
    refine go_aload_n (pc := 9) dX10_reached_9 rfl rfl ?_
    refine go_get (pc := 10) fX10_28 rfl ha ((va_up_ne _ _ hab).trans hw) rfl dX10_reached_10 ?_
    refine go_iload_n (pc := 13) dX10_reached_13 rfl rfl ?_
    refine go_iconst (pc := 14) (v := 0) dX10_reached_14 (by decide) ?_
    refine go_zast (pc := 15) hb (va_up_self _ _ _) (vp_in_nI hlt (by decide)) dX10_reached_15 ?_
    rw [va_up_up, nI_clamp (by omega)]
    refine go_iinc (pc := 16) (v := nI (i + 1)) (lv' := [(1, .int (nI (i + 1))), (0, .ref a)]) dX10_reached_16 0 rfl (nI_1 i) (by decide) rfl ?_
    refine go_goto (pc := 19) (tgt := 2) dX10_reached_19 (by decide) ?_
    refine go_arrz (g := fun j => if j < i + 1 then 0 else f j) (fun j _ => ?_) (ih (i + 1) (by omega) (by omega))
    by_cases h : j = i
    · subst h; simp [upd]; rfl
    · simp only [upd, if_neg h]
      by_cases h2 : j < i
      · rw [if_pos h2, if_pos (by omega)]
      · rw [if_neg h2, if_neg (by omega)]
end ML
section MK
variable {l : Launch} {G : gG} {n k : Nat} {w : Nat → va_E}
theorem ct_of_1 {a b b1 b2 b8 b9 b10 b11 b13 b15 : Nat} {f3 f4 f5 f6 f7 f12 f14 : Int32} {f : Nat → Int32}  (ha : G.2.1 ≤ a ∧ a < G.2.1 + n) (hb : G.2.1 ≤ b ∧ b < G.2.1 + n) (hab : a ≠ b) (hw : w a = mO b b1 b2 b8 b9 b10 b11 b13 b15 f3 f4 f5 f6 f7 f12 f14) (hs : w b = ai G 26100 f) : Ct l G mX10_of 0 0 [.ref a, .int 0, .int 1] n k w (some (.int (f (1101 : Int32).toNatClampNeg)), n, k, w) := by
  refine Ct.of (by decide) (Nat.le_of_ble_eq_true rfl) ⟨Nat.le_refl _, Nat.le_refl _⟩ ?_
  show Go l G mX10_of _ 0 [(0, .ref a), (1, .int 0), (2, .int 1)] [] n k w
  refine go_aload_n (pc := 0) dX10_of_0 rfl rfl ?_
  refine go_get (pc := 1) fX10_9 rfl ha hw rfl dX10_of_1 ?_
  refine go_sipush (pc := 4) (v := 1100) dX10_of_4 (by decide) ?_
  refine go_bipush (pc := 7) (v := 10) dX10_of_7 (by decide) ?_
  refine go_iload_n (pc := 9) dX10_of_9 rfl rfl ?_
  refine go_imul (pc := 10) dX10_of_10 ?_
  refine go_top (y := 0) (by decide) ?_
  refine go_iadd (pc := 11) dX10_of_11 ?_
  refine go_top (y := 1100) (by decide) ?_
  refine go_iload_n (pc := 12) dX10_of_12 rfl rfl ?_
  refine go_iadd (pc := 13) dX10_of_13 ?_
  refine go_top (y := 1101) (by decide) ?_
  refine go_iald (pc := 14) hb hs (gv_in (by decide)) dX10_of_14 ?_
  exact go_iret (pc := 15) rfl dX10_of_15
theorem ct_of_2 {a b b1 b2 b8 b9 b10 b11 b13 b15 : Nat} {f3 f4 f5 f6 f7 f12 f14 : Int32} {f : Nat → Int32}  (ha : G.2.1 ≤ a ∧ a < G.2.1 + n) (hb : G.2.1 ≤ b ∧ b < G.2.1 + n) (hab : a ≠ b) (hw : w a = mO b b1 b2 b8 b9 b10 b11 b13 b15 f3 f4 f5 f6 f7 f12 f14) (hs : w b = ai G 26100 f) : Ct l G mX10_of 0 0 [.ref a, .int 0, .int 2] n k w (some (.int (f (1102 : Int32).toNatClampNeg)), n, k, w) := by
  refine Ct.of (by decide) (Nat.le_of_ble_eq_true rfl) ⟨Nat.le_refl _, Nat.le_refl _⟩ ?_
  show Go l G mX10_of _ 0 [(0, .ref a), (1, .int 0), (2, .int 2)] [] n k w
  refine go_aload_n (pc := 0) dX10_of_0 rfl rfl ?_
  refine go_get (pc := 1) fX10_9 rfl ha hw rfl dX10_of_1 ?_
  refine go_sipush (pc := 4) (v := 1100) dX10_of_4 (by decide) ?_
  refine go_bipush (pc := 7) (v := 10) dX10_of_7 (by decide) ?_
  refine go_iload_n (pc := 9) dX10_of_9 rfl rfl ?_
  refine go_imul (pc := 10) dX10_of_10 ?_
  refine go_top (y := 0) (by decide) ?_
  refine go_iadd (pc := 11) dX10_of_11 ?_
  refine go_top (y := 1100) (by decide) ?_
  refine go_iload_n (pc := 12) dX10_of_12 rfl rfl ?_
  refine go_iadd (pc := 13) dX10_of_13 ?_
  refine go_top (y := 1102) (by decide) ?_
  refine go_iald (pc := 14) hb hs (gv_in (by decide)) dX10_of_14 ?_
  exact go_iret (pc := 15) rfl dX10_of_15
theorem ct_linkAt_1 {a b b1 b2 b8 b9 b10 b11 b13 b15 : Nat} {f3 f4 f5 f6 f7 f12 f14 : Int32} {f : Nat → Int32} (x1 : Int32) (e1 : f (1101 : Int32).toNatClampNeg = 1) (e2 : f (1102 : Int32).toNatClampNeg = 0) (ha : G.2.1 ≤ a ∧ a < G.2.1 + n) (hb : G.2.1 ≤ b ∧ b < G.2.1 + n) (hab : a ≠ b) (hw : w a = mO b b1 b2 b8 b9 b10 b11 b13 b15 f3 f4 f5 f6 f7 f12 f14) (hs : w b = ai G 26100 f) : Ct l G mX10_linkAt 1 22 [.ref a, .int 0, .int x1] n k w (some (.int (6102 + x1)), n, k, w) := by
  refine Ct.of (by decide) (Nat.le_of_ble_eq_true rfl) ⟨Nat.le_refl _, Nat.le_refl _⟩ ?_
  show Go l G mX10_linkAt _ 0 [(0, .ref a), (1, .int 0), (2, .int x1)] [] n k w
  refine go_aload_n (pc := 0) dX10_linkAt_0 rfl rfl ?_
  refine go_iload_n (pc := 1) dX10_linkAt_1 rfl rfl ?_
  refine go_iconst (pc := 2) (v := 1) dX10_linkAt_2 (by decide) ?_
  refine go_callV_i (pc := 3) vX10_71 rfl (ct_of_1 ha hb hab hw hs) rfl rfl ha hw rfl (Nat.le_of_ble_eq_true rfl) ⟨Nat.le_of_ble_eq_true rfl, Nat.le_of_ble_eq_true rfl, (Nat.le_add_right _ _), (Nat.le_add_right _ _)⟩ dX10_linkAt_3 ?_
  refine go_top (y := 1) e1 ?_
  refine go_istore_n (pc := 6) (lv' := [(3, .int 1), (0, .ref a), (1, .int 0), (2, .int x1)]) dX10_linkAt_6 rfl (by decide) rfl ?_
  refine go_sipush (pc := 7) (v := 6100) dX10_linkAt_7 (by decide) ?_
  refine go_aload_n (pc := 10) dX10_linkAt_10 rfl rfl ?_
  refine go_iload_n (pc := 11) dX10_linkAt_11 rfl rfl ?_
  refine go_iconst (pc := 12) (v := 2) dX10_linkAt_12 (by decide) ?_
  refine go_callV_i (pc := 13) vX10_71 rfl (ct_of_2 ha hb hab hw hs) rfl rfl ha hw rfl (Nat.le_of_ble_eq_true rfl) ⟨Nat.le_of_ble_eq_true rfl, Nat.le_of_ble_eq_true rfl, (Nat.le_add_right _ _), (Nat.le_add_right _ _)⟩ dX10_linkAt_13 ?_
  refine go_top (y := 0) e2 ?_
  refine go_iadd (pc := 16) dX10_linkAt_16 ?_
  refine go_top (y := 6100) (by decide) ?_
  refine go_iload_n (pc := 17) dX10_linkAt_17 rfl rfl ?_
  refine go_iconst (pc := 18) (v := 1) dX10_linkAt_18 (by decide) ?_
  refine go_icmp_eq_t (pc := 19) (tgt := 27) dX10_linkAt_19 (by decide) (by decide) ?_
  refine go_iconst (pc := 27) (v := 2) dX10_linkAt_27 (by decide) ?_
  refine go_goto (pc := 28) (tgt := 32) dX10_linkAt_28 (by decide) ?_
  refine go_iadd (pc := 32) dX10_linkAt_32 ?_
  refine go_top (y := 6102) (by decide) ?_
  refine go_iload_n (pc := 33) dX10_linkAt_33 rfl rfl ?_
  refine go_iadd (pc := 34) dX10_linkAt_34 ?_
  exact go_iret (pc := 35) rfl dX10_linkAt_35
theorem makes_loop_1 {B : gB} {a b b1 b2 b8 b9 b10 b11 b13 b15 : Nat} {f3 f4 f5 f6 f7 f12 f14 : Int32} {f : Nat → Int32} {y1 y2 y3 y4 : Int32} {m : Nat} (hm : m ≤ 254) (hfr : 2 ≤ B.1) (hlc : 45 ≤ B.2.1) (hB : n ≤ B.2.2.2.2.1 + B.2.2.1 ∧ k ≤ B.2.2.2.2.2.1 + B.2.2.2.1) (e1 : f (1101 : Int32).toNatClampNeg = 1) (e2 : f (1102 : Int32).toNatClampNeg = 0) (ha : G.2.1 ≤ a ∧ a < G.2.1 + n) (hb : G.2.1 ≤ b ∧ b < G.2.1 + n) (hab : a ≠ b) (hw : w a = mO b b1 b2 b8 b9 b10 b11 b13 b15 f3 f4 f5 f6 f7 f12 f14)
    (kk : Go l G mX10_makes B 296 [(7, .int (nI m)), (6, .int (nI m)), (5, .int 0), (4, .int y4), (3, .int y3), (0, .ref a), (1, .int y1), (2, .int y2)] [] n k (va_up w b (ai G 26100 (fun q => if 6102 ≤ q ∧ q < 6102 + m then (-1) else f q)))) :
    ∀ (d i : Nat), m - i = d → i ≤ m → Go l G mX10_makes B 269 [(7, .int (nI i)), (6, .int (nI m)), (5, .int 0), (4, .int y4), (3, .int y3), (0, .ref a), (1, .int y1), (2, .int y2)] [] n k (va_up w b (ai G 26100 (fun q => if 6102 ≤ q ∧ q < 6102 + i then (-1) else f q))) := by
  intro d
  induction d with
  | zero =>
    intro i hd hi
    have hiN : i = m := by omega
    subst hiN
    refine go_iload (pc := 269) dX10_makes_269 rfl ?_
    refine go_iload (pc := 271) dX10_makes_271 rfl ?_
    exact go_icmp_ge_t (pc := 273) (tgt := 296) dX10_makes_273 (by decide) (nI_le (Nat.le_refl _) (by omega)) kk
  | succ d ih =>
    intro i hd hi
    have hlt : i < m := by omega
    refine go_iload (pc := 269) dX10_makes_269 rfl ?_
    refine go_iload (pc := 271) dX10_makes_271 rfl ?_
    refine go_icmp_ge_f (pc := 273) (tgt := 296) dX10_makes_273 (by decide) (nI_ge hlt (by omega)) ?_
    refine go_aload_n (pc := 276) dX10_makes_276 rfl rfl ?_
    refine go_get (pc := 277) fX10_9 rfl ha ((va_up_ne _ _ hab).trans hw) rfl dX10_makes_277 ?_
    refine go_aload_n (pc := 280) dX10_makes_280 rfl rfl ?_
    refine go_iload (pc := 281) dX10_makes_281 rfl ?_
    refine go_iload (pc := 283) dX10_makes_283 rfl ?_
    refine go_callV_i (pc := 285) vX10_98 rfl (ct_linkAt_1 (a := a) (b := b) (nI i) ((if_neg (fun h => absurd h.1 (by decide))).trans e1) ((if_neg (fun h => absurd h.1 (by decide))).trans e2) ha hb hab ((va_up_ne _ _ hab).trans hw) (va_up_self _ _ _)) rfl rfl ha ((va_up_ne _ _ hab).trans hw) rfl (Nat.le_of_ble_eq_true rfl) ⟨hfr, hlc, hB.1, hB.2⟩ dX10_makes_285 ?_
    refine go_iconst (pc := 288) (v := (-1)) dX10_makes_288 (by decide) ?_
    have e : (6102 : Int32) + nI i = nI (6102 + i) := by rw [show (6102 : Int32) = nI 6102 from by decide, nI_add]
    refine go_iast (pc := 289) hb (va_up_self _ _ _) (by rw [e]; exact vp_in_nI (by omega) (by decide)) dX10_makes_289 ?_
    rw [va_up_up, e, nI_clamp (by omega)]
    refine go_iinc (pc := 290) (v := nI (i + 1)) (lv' := [(7, .int (nI (i + 1))), (6, .int (nI m)), (5, .int 0), (4, .int y4), (3, .int y3), (0, .ref a), (1, .int y1), (2, .int y2)]) dX10_makes_290 0 rfl (nI_1 i) (by decide) rfl ?_
    refine go_goto (pc := 293) (tgt := 269) dX10_makes_293 (by decide) ?_
    refine go_arr (g := fun q => if 6102 ≤ q ∧ q < 6102 + (i + 1) then (-1) else f q) (fun q _ => ?_) (ih (i + 1) (by omega) (by omega))
    by_cases h : q = 6102 + i
    · subst h; simp [upd]
    · simp only [upd, if_neg h]
      by_cases h2 : 6102 ≤ q ∧ q < 6102 + i
      · rw [if_pos h2, if_pos (by omega)]
      · rw [if_neg h2, if_neg (by omega)]
theorem ct_linkAt_5 {a b b1 b2 b8 b9 b10 b11 b13 b15 : Nat} {f3 f4 f5 f6 f7 f12 f14 : Int32} {f : Nat → Int32} (x1 : Int32) (e1 : f (1101 : Int32).toNatClampNeg = 5) (e2 : f (1102 : Int32).toNatClampNeg = 0) (ha : G.2.1 ≤ a ∧ a < G.2.1 + n) (hb : G.2.1 ≤ b ∧ b < G.2.1 + n) (hab : a ≠ b) (hw : w a = mO b b1 b2 b8 b9 b10 b11 b13 b15 f3 f4 f5 f6 f7 f12 f14) (hs : w b = ai G 26100 f) : Ct l G mX10_linkAt 1 22 [.ref a, .int 0, .int x1] n k w (some (.int (6102 + x1)), n, k, w) := by
  refine Ct.of (by decide) (Nat.le_of_ble_eq_true rfl) ⟨Nat.le_refl _, Nat.le_refl _⟩ ?_
  show Go l G mX10_linkAt _ 0 [(0, .ref a), (1, .int 0), (2, .int x1)] [] n k w
  refine go_aload_n (pc := 0) dX10_linkAt_0 rfl rfl ?_
  refine go_iload_n (pc := 1) dX10_linkAt_1 rfl rfl ?_
  refine go_iconst (pc := 2) (v := 1) dX10_linkAt_2 (by decide) ?_
  refine go_callV_i (pc := 3) vX10_71 rfl (ct_of_1 ha hb hab hw hs) rfl rfl ha hw rfl (Nat.le_of_ble_eq_true rfl) ⟨Nat.le_of_ble_eq_true rfl, Nat.le_of_ble_eq_true rfl, (Nat.le_add_right _ _), (Nat.le_add_right _ _)⟩ dX10_linkAt_3 ?_
  refine go_top (y := 5) e1 ?_
  refine go_istore_n (pc := 6) (lv' := [(3, .int 5), (0, .ref a), (1, .int 0), (2, .int x1)]) dX10_linkAt_6 rfl (by decide) rfl ?_
  refine go_sipush (pc := 7) (v := 6100) dX10_linkAt_7 (by decide) ?_
  refine go_aload_n (pc := 10) dX10_linkAt_10 rfl rfl ?_
  refine go_iload_n (pc := 11) dX10_linkAt_11 rfl rfl ?_
  refine go_iconst (pc := 12) (v := 2) dX10_linkAt_12 (by decide) ?_
  refine go_callV_i (pc := 13) vX10_71 rfl (ct_of_2 ha hb hab hw hs) rfl rfl ha hw rfl (Nat.le_of_ble_eq_true rfl) ⟨Nat.le_of_ble_eq_true rfl, Nat.le_of_ble_eq_true rfl, (Nat.le_add_right _ _), (Nat.le_add_right _ _)⟩ dX10_linkAt_13 ?_
  refine go_top (y := 0) e2 ?_
  refine go_iadd (pc := 16) dX10_linkAt_16 ?_
  refine go_top (y := 6100) (by decide) ?_
  refine go_iload_n (pc := 17) dX10_linkAt_17 rfl rfl ?_
  refine go_iconst (pc := 18) (v := 1) dX10_linkAt_18 (by decide) ?_
  refine go_icmp_eq_f (pc := 19) (tgt := 27) dX10_linkAt_19 (by decide) (by decide) ?_
  refine go_iload_n (pc := 22) dX10_linkAt_22 rfl rfl ?_
  refine go_iconst (pc := 23) (v := 5) dX10_linkAt_23 (by decide) ?_
  refine go_icmp_ne_f (pc := 24) (tgt := 31) dX10_linkAt_24 (by decide) (by decide) ?_
  refine go_iconst (pc := 27) (v := 2) dX10_linkAt_27 (by decide) ?_
  refine go_goto (pc := 28) (tgt := 32) dX10_linkAt_28 (by decide) ?_
  refine go_iadd (pc := 32) dX10_linkAt_32 ?_
  refine go_top (y := 6102) (by decide) ?_
  refine go_iload_n (pc := 33) dX10_linkAt_33 rfl rfl ?_
  refine go_iadd (pc := 34) dX10_linkAt_34 ?_
  exact go_iret (pc := 35) rfl dX10_linkAt_35
theorem makes_loop_5 {B : gB} {a b b1 b2 b8 b9 b10 b11 b13 b15 : Nat} {f3 f4 f5 f6 f7 f12 f14 : Int32} {f : Nat → Int32} {y1 y2 y3 y4 : Int32} {m : Nat} (hm : m ≤ 254) (hfr : 2 ≤ B.1) (hlc : 45 ≤ B.2.1) (hB : n ≤ B.2.2.2.2.1 + B.2.2.1 ∧ k ≤ B.2.2.2.2.2.1 + B.2.2.2.1) (e1 : f (1101 : Int32).toNatClampNeg = 5) (e2 : f (1102 : Int32).toNatClampNeg = 0) (ha : G.2.1 ≤ a ∧ a < G.2.1 + n) (hb : G.2.1 ≤ b ∧ b < G.2.1 + n) (hab : a ≠ b) (hw : w a = mO b b1 b2 b8 b9 b10 b11 b13 b15 f3 f4 f5 f6 f7 f12 f14)
    (kk : Go l G mX10_makes B 296 [(7, .int (nI m)), (6, .int (nI m)), (5, .int 0), (4, .int y4), (3, .int y3), (0, .ref a), (1, .int y1), (2, .int y2)] [] n k (va_up w b (ai G 26100 (fun q => if 6102 ≤ q ∧ q < 6102 + m then (-1) else f q)))) :
    ∀ (d i : Nat), m - i = d → i ≤ m → Go l G mX10_makes B 269 [(7, .int (nI i)), (6, .int (nI m)), (5, .int 0), (4, .int y4), (3, .int y3), (0, .ref a), (1, .int y1), (2, .int y2)] [] n k (va_up w b (ai G 26100 (fun q => if 6102 ≤ q ∧ q < 6102 + i then (-1) else f q))) := by
  intro d
  induction d with
  | zero =>
    intro i hd hi
    have hiN : i = m := by omega
    subst hiN
    refine go_iload (pc := 269) dX10_makes_269 rfl ?_
    refine go_iload (pc := 271) dX10_makes_271 rfl ?_
    exact go_icmp_ge_t (pc := 273) (tgt := 296) dX10_makes_273 (by decide) (nI_le (Nat.le_refl _) (by omega)) kk
  | succ d ih =>
    intro i hd hi
    have hlt : i < m := by omega
    refine go_iload (pc := 269) dX10_makes_269 rfl ?_
    refine go_iload (pc := 271) dX10_makes_271 rfl ?_
    refine go_icmp_ge_f (pc := 273) (tgt := 296) dX10_makes_273 (by decide) (nI_ge hlt (by omega)) ?_
    refine go_aload_n (pc := 276) dX10_makes_276 rfl rfl ?_
    refine go_get (pc := 277) fX10_9 rfl ha ((va_up_ne _ _ hab).trans hw) rfl dX10_makes_277 ?_
    refine go_aload_n (pc := 280) dX10_makes_280 rfl rfl ?_
    refine go_iload (pc := 281) dX10_makes_281 rfl ?_
    refine go_iload (pc := 283) dX10_makes_283 rfl ?_
    refine go_callV_i (pc := 285) vX10_98 rfl (ct_linkAt_5 (a := a) (b := b) (nI i) ((if_neg (fun h => absurd h.1 (by decide))).trans e1) ((if_neg (fun h => absurd h.1 (by decide))).trans e2) ha hb hab ((va_up_ne _ _ hab).trans hw) (va_up_self _ _ _)) rfl rfl ha ((va_up_ne _ _ hab).trans hw) rfl (Nat.le_of_ble_eq_true rfl) ⟨hfr, hlc, hB.1, hB.2⟩ dX10_makes_285 ?_
    refine go_iconst (pc := 288) (v := (-1)) dX10_makes_288 (by decide) ?_
    have e : (6102 : Int32) + nI i = nI (6102 + i) := by rw [show (6102 : Int32) = nI 6102 from by decide, nI_add]
    refine go_iast (pc := 289) hb (va_up_self _ _ _) (by rw [e]; exact vp_in_nI (by omega) (by decide)) dX10_makes_289 ?_
    rw [va_up_up, e, nI_clamp (by omega)]
    refine go_iinc (pc := 290) (v := nI (i + 1)) (lv' := [(7, .int (nI (i + 1))), (6, .int (nI m)), (5, .int 0), (4, .int y4), (3, .int y3), (0, .ref a), (1, .int y1), (2, .int y2)]) dX10_makes_290 0 rfl (nI_1 i) (by decide) rfl ?_
    refine go_goto (pc := 293) (tgt := 269) dX10_makes_293 (by decide) ?_
    refine go_arr (g := fun q => if 6102 ≤ q ∧ q < 6102 + (i + 1) then (-1) else f q) (fun q _ => ?_) (ih (i + 1) (by omega) (by omega))
    by_cases h : q = 6102 + i
    · subst h; simp [upd]
    · simp only [upd, if_neg h]
      by_cases h2 : 6102 ≤ q ∧ q < 6102 + i
      · rw [if_pos h2, if_pos (by omega)]
      · rw [if_neg h2, if_neg (by omega)]
theorem gz_nb (p : Prop) [Decidable p] : narrow .boolean (.int (if p then (1 : Int32) else 0)) = .int (if p then (1 : Int32) else 0) := by split <;> rfl
theorem go_sec {M : gM} {B : gB} {pc : Nat} {lv : List (Nat × Value)} {st : List Value} {v : Value} {x y : Int32} (h : x = y) (kk : Go l G M B pc lv (v :: .int y :: st) n k w) : Go l G M B pc lv (v :: .int x :: st) n k w := by subst h; exact kk
end MK

/-! first() of the reference on a fresh object (after p1, part 13) -/
theorem up_congr {z n a : Nat} {w w' : Nat → va_E} {e : va_E} (h : ∀ q, q < n → w (z + q) = w' (z + q)) : ∀ q, q < n → va_up w a e (z + q) = va_up w' a e (z + q) := by
  intro q hq
  by_cases hi : z + q = a
  · rw [hi, va_up_self, va_up_self]
  · rw [va_up_ne _ _ hi, va_up_ne _ _ hi]; exact h q hq
theorem wl_up2 {z i j n : Nat} {L : List va_E} {e e' : va_E} (h1 : Nat.blt i L.length = true) (h2 : Nat.blt j L.length = true) (hn : L.length = n) : ∀ q, q < n → va_up (va_up (wl z L) (z + i) e) (z + j) e' (z + q) = wl z ((L.set i e).set j e') (z + q) :=
  fun q hq => (up_congr (wl_up h1 hn) q hq).trans (wl_up (by rw [List.length_set]; exact h2) (by rw [List.length_set]; exact hn) q hq)
abbrev mO (b b1 b2 b8 b9 b10 b11 b13 b15 : Nat) (f3 f4 f5 f6 f7 f12 f14 : Int32) : va_E := ob 10 [.ref b, .ref b1, .ref b2, .int f3, .int f4, .int f5, .int f6, .int f7, .ref b8, .ref b9, .ref b10, .ref b11, .int f12, .ref b13, .int f14, .ref b15]
def sx (x : Int32) : Nat → Int32 := fun j => if j = 0 then x else if 20 ≤ j ∧ j < 84 then (-1) else 0
section M1
variable {l : Launch} {G : gG} {n k : Nat} {w : Nat → va_E}
theorem ff_l1 {B : gB} {a b b1 b2 b8 b9 b10 b11 b13 b15 : Nat} {f3 f4 f5 f6 f7 f12 f14 : Int32} {x : Int32} {f : Nat → Int32} (ha : G.2.1 ≤ a ∧ a < G.2.1 + n) (hb : G.2.1 ≤ b ∧ b < G.2.1 + n) (hab : a ≠ b) (hw : w a = mO b b1 b2 b8 b9 b10 b11 b13 b15 f3 f4 f5 f6 f7 f12 f14)
    (kk : Go l G mX10_first B 22 [(2, .int (nI 26100)), (0, .ref a), (1, .int x)] [] n k (va_up w b (ai G 26100 (fun j => if j < 26100 then 0 else f j)))) :
    ∀ (d i : Nat), 26100 - i = d → i ≤ 26100 → Go l G mX10_first B 2 [(2, .int (nI i)), (0, .ref a), (1, .int x)] [] n k (va_up w b (ai G 26100 (fun j => if j < i then 0 else f j))) := by
  intro d
  induction d with
  | zero =>
    intro i hd hi
    have hiN : i = 26100 := by omega
    subst hiN
    refine go_iload_n (pc := 2) dX10_first_2 rfl rfl ?_
    refine go_sipush (pc := 3) (v := nI 26100) dX10_first_3 (by decide) ?_
    exact go_icmp_ge_t (pc := 6) (tgt := 22) dX10_first_6 (by decide) (nI_le (Nat.le_refl _) (by decide)) kk
  | succ d ih =>
    intro i hd hi
    have hlt : i < 26100 := by omega
    refine go_iload_n (pc := 2) dX10_first_2 rfl rfl ?_
    refine go_sipush (pc := 3) (v := nI 26100) dX10_first_3 (by decide) ?_
    refine go_icmp_ge_f (pc := 6) (tgt := 22) dX10_first_6 (by decide) (nI_ge hlt (by decide)) ?_
    refine go_aload_n (pc := 9) dX10_first_9 rfl rfl ?_
    refine go_get (pc := 10) fX10_9 rfl ha ((va_up_ne _ _ hab).trans hw) rfl dX10_first_10 ?_
    refine go_iload_n (pc := 13) dX10_first_13 rfl rfl ?_
    refine go_iconst (pc := 14) (v := 0) dX10_first_14 (by decide) ?_
    refine go_iast (pc := 15) hb (va_up_self _ _ _) (vp_in_nI hlt (by decide)) dX10_first_15 ?_
    refine go_w (va_up_up _ _ _ _) ?_
    refine go_iinc (pc := 16) (v := nI (i + 1)) (lv' := [(2, .int (nI (i + 1))), (0, .ref a), (1, .int x)]) dX10_first_16 0 rfl (nI_1 i) (by decide) rfl ?_
    refine go_goto (pc := 19) (tgt := 2) dX10_first_19 (by decide) ?_
    rw [nI_clamp (by omega)]
    refine go_arr (g := fun j => if j < i + 1 then 0 else f j) (fun j _ => ?_) (ih (i + 1) (by omega) (by omega))
    by_cases h : j = i
    · subst h; simp [upd]
    · simp only [upd, if_neg h]
      by_cases h2 : j < i
      · rw [if_pos h2, if_pos (by omega)]
      · rw [if_neg h2, if_neg (by omega)]
theorem ff_l2 {B : gB} {a b b1 b2 b8 b9 b10 b11 b13 b15 : Nat} {f3 f4 f5 f6 f7 f12 f14 : Int32} {x : Int32} (ha : G.2.1 ≤ a ∧ a < G.2.1 + n) (hb : G.2.1 ≤ b ∧ b < G.2.1 + n) (hab : a ≠ b) (hw : w a = mO b b1 b2 b8 b9 b10 b11 b13 b15 f3 f4 f5 f6 f7 f12 f14)
    (kk : Go l G mX10_first B 51 [(2, .int (nI 84)), (0, .ref a), (1, .int x)] [] n k (va_up w b (ai G 26100 (fun j => if j = 0 then x else if 20 ≤ j ∧ j < 84 then (-1) else 0)))) :
    ∀ (d i : Nat), 84 - i = d → 20 ≤ i → i ≤ 84 → Go l G mX10_first B 32 [(2, .int (nI i)), (0, .ref a), (1, .int x)] [] n k (va_up w b (ai G 26100 (fun j => if j = 0 then x else if 20 ≤ j ∧ j < i then (-1) else 0))) := by
  intro d
  induction d with
  | zero =>
    intro i hd h20 hi
    have hiN : i = 84 := by omega
    subst hiN
    refine go_iload_n (pc := 32) dX10_first_32 rfl rfl ?_
    refine go_bipush (pc := 33) (v := nI 84) dX10_first_33 (by decide) ?_
    exact go_icmp_ge_t (pc := 35) (tgt := 51) dX10_first_35 (by decide) (nI_le (Nat.le_refl _) (by decide)) kk
  | succ d ih =>
    intro i hd h20 hi
    have hlt : i < 84 := by omega
    refine go_iload_n (pc := 32) dX10_first_32 rfl rfl ?_
    refine go_bipush (pc := 33) (v := nI 84) dX10_first_33 (by decide) ?_
    refine go_icmp_ge_f (pc := 35) (tgt := 51) dX10_first_35 (by decide) (nI_ge hlt (by decide)) ?_
    refine go_aload_n (pc := 38) dX10_first_38 rfl rfl ?_
    refine go_get (pc := 39) fX10_9 rfl ha ((va_up_ne _ _ hab).trans hw) rfl dX10_first_39 ?_
    refine go_iload_n (pc := 42) dX10_first_42 rfl rfl ?_
    refine go_iconst (pc := 43) (v := (-1)) dX10_first_43 (by decide) ?_
    refine go_iast (pc := 44) hb (va_up_self _ _ _) (vp_in_nI (by omega) (by decide)) dX10_first_44 ?_
    refine go_w (va_up_up _ _ _ _) ?_
    refine go_iinc (pc := 45) (v := nI (i + 1)) (lv' := [(2, .int (nI (i + 1))), (0, .ref a), (1, .int x)]) dX10_first_45 0 rfl (nI_1 i) (by decide) rfl ?_
    refine go_goto (pc := 48) (tgt := 32) dX10_first_48 (by decide) ?_
    rw [nI_clamp (by omega)]
    refine go_arr (g := fun j => if j = 0 then x else if 20 ≤ j ∧ j < i + 1 then (-1) else 0) (fun j _ => ?_) (ih (i + 1) (by omega) (by omega) (by omega))
    by_cases h : j = i
    · subst h
      rw [if_neg (by omega), if_pos (by omega)]
      simp [upd]
    · simp only [upd, if_neg h]
      by_cases h0 : j = 0
      · rw [if_pos h0, if_pos h0]
      · rw [if_neg h0, if_neg h0]
        by_cases h2 : 20 ≤ j ∧ j < i
        · rw [if_pos h2, if_pos (by omega)]
        · rw [if_neg h2, if_neg (by omega)]
/-- first(x): the start, of x ints -/
theorem ct_first {a b b1 b2 b8 b9 b10 b11 b13 b15 : Nat} {f3 f4 f5 f6 f7 f12 f14 : Int32} {f : Nat → Int32} (x : Int32) (ha : G.2.1 ≤ a ∧ a < G.2.1 + n) (hb : G.2.1 ≤ b ∧ b < G.2.1 + n) (hab : a ≠ b) (hw : w a = mO b b1 b2 b8 b9 b10 b11 b13 b15 f3 f4 f5 f6 f7 f12 f14) (hs : w b = ai G 26100 f) : Ct l G mX10_first 0 0 [.ref a, .int x] n k w (none, n, k, va_up (va_up w b (ai G 26100 (sx x))) a (mO b b1 b2 b8 b9 b10 b11 b13 b15 0 0 0 0 0 f12 f14)) := by
  refine Ct.of (by decide) (Nat.le_of_ble_eq_true rfl) ⟨Nat.le_refl _, Nat.le_refl _⟩ ?_
  show Go l G mX10_first _ 0 [(0, .ref a), (1, .int x)] [] n k w
  refine go_iconst (pc := 0) (v := nI 0) dX10_first_0 (by decide) ?_
  refine go_istore_n (pc := 1) (lv' := [(2, .int (nI 0)), (0, .ref a), (1, .int x)]) dX10_first_1 rfl (by decide) rfl ?_
  refine go_ext (w' := va_up w b (ai G 26100 (fun j => if j < 0 then 0 else f j))) (fun i _ => ?_) (ff_l1 ha hb hab hw ?_ 26100 0 rfl (Nat.zero_le _))
  · by_cases hi : G.2.1 + i = b
    · rw [hi, va_up_self, hs]; simp
    · rw [va_up_ne _ _ hi]
  refine go_aload_n (pc := 22) dX10_first_22 rfl rfl ?_
  refine go_get (pc := 23) fX10_9 rfl ha ((va_up_ne _ _ hab).trans hw) rfl dX10_first_23 ?_
  refine go_iconst (pc := 26) (v := nI 0) dX10_first_26 (by decide) ?_
  refine go_iload_n (pc := 27) dX10_first_27 rfl rfl ?_
  refine go_iast (pc := 28) hb (va_up_self _ _ _) (vp_in_nI (by decide) (by decide)) dX10_first_28 ?_
  refine go_w (va_up_up _ _ _ _) ?_
  refine go_arr (g := fun j => if j = 0 then x else if 20 ≤ j ∧ j < 20 then (-1) else 0) (fun j hj => ?_) ?_
  · rw [nI_clamp (by decide)]
    by_cases h0 : j = 0
    · subst h0; simp [upd]
    · rw [if_neg h0, if_neg (by omega)]
      simp only [upd, if_neg h0]
      rw [if_pos hj]
  refine go_bipush (pc := 29) (v := nI 20) dX10_first_29 (by decide) ?_
  refine go_istore_n (pc := 31) (lv' := [(2, .int (nI 20)), (0, .ref a), (1, .int x)]) dX10_first_31 rfl (by decide) rfl ?_
  refine ff_l2 ha hb hab hw ?_ 64 20 rfl (by decide) (by decide)
  show Go l G mX10_first _ 51 _ _ n k (va_up w b (ai G 26100 (sx x)))
  refine go_aload_n (pc := 51) dX10_first_51 rfl rfl ?_
  refine go_iconst (pc := 52) (v := 0) dX10_first_52 (by decide) ?_
  refine go_put (pc := 53) fX10_42 rfl ha ((va_up_ne _ _ hab).trans hw) (Nat.le_of_ble_eq_true rfl) rfl rfl dX10_first_53 ?_
  refine go_aload_n (pc := 56) dX10_first_56 rfl rfl ?_
  refine go_iconst (pc := 57) (v := 0) dX10_first_57 (by decide) ?_
  refine go_put (pc := 58) fX10_46 rfl ha (va_up_self _ _ _) (Nat.le_of_ble_eq_true rfl) rfl rfl dX10_first_58 ?_
  refine go_w (va_up_up _ _ _ _) ?_
  refine go_aload_n (pc := 61) dX10_first_61 rfl rfl ?_
  refine go_iconst (pc := 62) (v := 0) dX10_first_62 (by decide) ?_
  refine go_put (pc := 63) fX10_49 rfl ha (va_up_self _ _ _) (Nat.le_of_ble_eq_true rfl) rfl rfl dX10_first_63 ?_
  refine go_w (va_up_up _ _ _ _) ?_
  refine go_aload_n (pc := 66) dX10_first_66 rfl rfl ?_
  refine go_iconst (pc := 67) (v := 0) dX10_first_67 (by decide) ?_
  refine go_put (pc := 68) fX10_53 rfl ha (va_up_self _ _ _) (Nat.le_of_ble_eq_true rfl) rfl rfl dX10_first_68 ?_
  refine go_w (va_up_up _ _ _ _) ?_
  refine go_aload_n (pc := 71) dX10_first_71 rfl rfl ?_
  refine go_iconst (pc := 72) (v := 0) dX10_first_72 (by decide) ?_
  refine go_put (pc := 73) fX10_56 rfl ha (va_up_self _ _ _) (Nat.le_of_ble_eq_true rfl) rfl rfl dX10_first_73 ?_
  refine go_w (va_up_up _ _ _ _) ?_
  exact go_vret (pc := 76) rfl dX10_first_76
end M1

/-! small methods of the class, in any world, laid by wip/tools/xgen.py -/
theorem up_congr {z n a : Nat} {w w' : Nat → va_E} {e : va_E} (h : ∀ q, q < n → w (z + q) = w' (z + q)) : ∀ q, q < n → va_up w a e (z + q) = va_up w' a e (z + q) := by
  intro q hq
  by_cases hi : z + q = a
  · rw [hi, va_up_self, va_up_self]
  · rw [va_up_ne _ _ hi, va_up_ne _ _ hi]; exact h q hq
theorem wl_up2 {z i j n : Nat} {L : List va_E} {e e' : va_E} (h1 : Nat.blt i L.length = true) (h2 : Nat.blt j L.length = true) (hn : L.length = n) : ∀ q, q < n → va_up (va_up (wl z L) (z + i) e) (z + j) e' (z + q) = wl z ((L.set i e).set j e') (z + q) :=
  fun q hq => (up_congr (wl_up h1 hn) q hq).trans (wl_up (by rw [List.length_set]; exact h2) (by rw [List.length_set]; exact hn) q hq)
theorem wl_up3 {z i j m n : Nat} {L : List va_E} {e e' e'' : va_E} (h1 : Nat.blt i L.length = true) (h2 : Nat.blt j L.length = true) (h3 : Nat.blt m L.length = true) (hn : L.length = n) : ∀ q, q < n → va_up (va_up (va_up (wl z L) (z + i) e) (z + j) e') (z + m) e'' (z + q) = wl z (((L.set i e).set j e').set m e'') (z + q) :=
  fun q hq => (up_congr (wl_up2 h1 h2 hn) q hq).trans (wl_up (by rw [List.length_set, List.length_set]; exact h3) (by rw [List.length_set, List.length_set]; exact hn) q hq)
section X1
variable {l : Launch} {G : gG} {n k : Nat} {w : Nat → va_E}
/-- has(NONE): no -/
theorem ct_has_n {a : Nat} : Ct l G mX2_has 0 0 [.ref a, .int ((-1))] n k w (some (.int 0), n, k, w) := by
  refine Ct.of (by decide) (Nat.le_of_ble_eq_true rfl) ⟨Nat.le_refl _, Nat.le_refl _⟩ ?_
  show Go l G mX2_has _ 0 [(0, .ref a), (1, .int ((-1)))] [] n k w
  refine go_iload_n (pc := 0) dX2_has_0 rfl rfl ?_
  refine go_if_lt_t (pc := 1) (tgt := 25) dX2_has_1 (by decide) (by decide) ?_
  refine go_iconst (pc := 25) (v := 0) dX2_has_25 (by decide) ?_
  exact go_zret (pc := 26) rfl rfl dX2_has_26
/-- mark while no cycle is under way: nothing -/
theorem ct_mark_0 {a a0 a1 a2 a3 a4 a6 a7 : Nat} {g5 g8 : Int32} {x1 x2 x3 x4 : Int32} {u1 u2 u3 : Int32} {p4 p5 p6 p7 p8 : Nat} (h2 : G.2.1 ≤ a2 ∧ a2 < G.2.1 + n) (ha : G.2.1 ≤ a ∧ a < G.2.1 + n) (hw : w a = ob 7 [.ref a0, .ref a1, .ref a2, .ref a3, .ref a4, .int g5, .ref a6, .ref a7, .int g8]) (hm : w a2 = ob 3 [.int 0, .int u1, .int u2, .int u3, .ref p4, .ref p5, .ref p6, .ref p7, .ref p8]) : Ct l G mX7_mark 0 0 [.ref a, .int x1, .int x2, .int x3, .int x4] n k w (none, n, k, w) := by
  refine Ct.of (by decide) (Nat.le_of_ble_eq_true rfl) ⟨Nat.le_refl _, Nat.le_refl _⟩ ?_
  show Go l G mX7_mark _ 0 [(0, .ref a), (1, .int x1), (2, .int x2), (3, .int x3), (4, .int x4)] [] n k w
  refine go_aload_n (pc := 0) dX7_mark_0 rfl rfl ?_
  refine go_get (pc := 1) fX7_36 rfl ha hw rfl dX7_mark_1 ?_
  refine go_get (pc := 4) fX7_40 rfl h2 hm rfl dX7_mark_4 ?_
  refine go_if_eq_t (pc := 7) (tgt := 33) dX7_mark_7 (by decide) (by decide) ?_
  exact go_vret (pc := 33) rfl dX7_mark_33
/-- mark(NONE, ..): nothing -/
theorem ct_mark_n {a a0 a1 a2 a3 a4 a6 a7 : Nat} {g5 g8 : Int32} {fs : List Value} {x2 x3 x4 : Int32} {u1 u2 u3 : Int32} {p4 p5 p6 p7 p8 : Nat} (h2 : G.2.1 ≤ a2 ∧ a2 < G.2.1 + n) (h1 : G.2.1 ≤ a1 ∧ a1 < G.2.1 + n) (ha : G.2.1 ≤ a ∧ a < G.2.1 + n) (hw : w a = ob 7 [.ref a0, .ref a1, .ref a2, .ref a3, .ref a4, .int g5, .ref a6, .ref a7, .int g8]) (hm : w a2 = ob 3 [.int 1, .int u1, .int u2, .int u3, .ref p4, .ref p5, .ref p6, .ref p7, .ref p8]) (hh : w a1 = ob 2 fs) : Ct l G mX7_mark 1 21 [.ref a, .int ((-1)), .int x2, .int x3, .int x4] n k w (none, n, k, w) := by
  refine Ct.of (by decide) (Nat.le_of_ble_eq_true rfl) ⟨Nat.le_refl _, Nat.le_refl _⟩ ?_
  show Go l G mX7_mark _ 0 [(0, .ref a), (1, .int ((-1))), (2, .int x2), (3, .int x3), (4, .int x4)] [] n k w
  refine go_aload_n (pc := 0) dX7_mark_0 rfl rfl ?_
  refine go_get (pc := 1) fX7_36 rfl ha hw rfl dX7_mark_1 ?_
  refine go_get (pc := 4) fX7_40 rfl h2 hm rfl dX7_mark_4 ?_
  refine go_if_eq_f (pc := 7) (tgt := 33) dX7_mark_7 (by decide) (by decide) ?_
  refine go_aload_n (pc := 10) dX7_mark_10 rfl rfl ?_
  refine go_get (pc := 11) fX7_31 rfl ha hw rfl dX7_mark_11 ?_
  refine go_iload_n (pc := 14) dX7_mark_14 rfl rfl ?_
  refine go_callV_i (pc := 15) vX7_61 rfl (ct_has_n) rfl rfl h1 hh rfl (Nat.le_of_ble_eq_true rfl) ⟨Nat.le_of_ble_eq_true rfl, Nat.le_of_ble_eq_true rfl, (Nat.le_add_right _ _), (Nat.le_add_right _ _)⟩ dX7_mark_15 ?_
  refine go_if_eq_t (pc := 18) (tgt := 33) dX7_mark_18 (by decide) (by decide) ?_
  exact go_vret (pc := 33) rfl dX7_mark_33
/-- reach(NONE): nothing -/
theorem ct_reach_n {a a0 a1 a2 a3 a4 a6 a7 : Nat} {g5 g8 : Int32} {fs : List Value} (h1 : G.2.1 ≤ a1 ∧ a1 < G.2.1 + n) (ha : G.2.1 ≤ a ∧ a < G.2.1 + n) (hw : w a = ob 7 [.ref a0, .ref a1, .ref a2, .ref a3, .ref a4, .int g5, .ref a6, .ref a7, .int g8]) (hh : w a1 = ob 2 fs) : Ct l G mX7_reach 1 21 [.ref a, .int ((-1))] n k w (none, n, k, w) := by
  refine Ct.of (by decide) (Nat.le_of_ble_eq_true rfl) ⟨Nat.le_refl _, Nat.le_refl _⟩ ?_
  show Go l G mX7_reach _ 0 [(0, .ref a), (1, .int ((-1)))] [] n k w
  refine go_aload_n (pc := 0) dX7_reach_0 rfl rfl ?_
  refine go_get (pc := 1) fX7_31 rfl ha hw rfl dX7_reach_1 ?_
  refine go_iload_n (pc := 4) dX7_reach_4 rfl rfl ?_
  refine go_callV_i (pc := 5) vX7_61 rfl (ct_has_n) rfl rfl h1 hh rfl (Nat.le_of_ble_eq_true rfl) ⟨Nat.le_of_ble_eq_true rfl, Nat.le_of_ble_eq_true rfl, (Nat.le_add_right _ _), (Nat.le_add_right _ _)⟩ dX7_reach_5 ?_
  refine go_if_eq_t (pc := 8) (tgt := 47) dX7_reach_8 (by decide) (by decide) ?_
  exact go_vret (pc := 47) rfl dX7_reach_47
/-- a number more -/
theorem ct_add {a b c q N : Nat} {f g : Nat → Int32} (x1 : Int32) (hq : q < N) (hN : N < 2 ^ 31) (ha : G.2.1 ≤ a ∧ a < G.2.1 + n) (hb : G.2.1 ≤ b ∧ b < G.2.1 + n) (hc : G.2.1 ≤ c ∧ c < G.2.1 + n) (hab : a ≠ b) (hac : a ≠ c) (hbc : b ≠ c) (hw : w a = ob 4 [.int (nI q), .ref b, .ref c]) (hf : w b = ai G N f) (hg : w c = ai G N g) : Ct l G mX4_add 0 0 [.ref a, .int x1] n k w (none, n, k, (va_up (va_up (va_up w b (ai G N (upd f (nI q).toNatClampNeg x1))) c (ai G N (upd g (nI q).toNatClampNeg x1))) a (ob 4 [.int ((nI q) + 1), .ref b, .ref c]))) := by
  refine Ct.of (by decide) (Nat.le_of_ble_eq_true rfl) ⟨Nat.le_refl _, Nat.le_refl _⟩ ?_
  show Go l G mX4_add _ 0 [(0, .ref a), (1, .int x1)] [] n k w
  refine go_aload_n (pc := 0) dX4_add_0 rfl rfl ?_
  refine go_get (pc := 1) fX4_22 rfl ha hw rfl dX4_add_1 ?_
  refine go_aload_n (pc := 4) dX4_add_4 rfl rfl ?_
  refine go_get (pc := 5) fX4_9 rfl ha hw rfl dX4_add_5 ?_
  refine go_alen (pc := 8) hb hf dX4_add_8 ?_
  refine go_icmp_ge_f (pc := 9) (tgt := 54) dX4_add_9 (by decide) (nI_ge hq hN) ?_
  refine go_aload_n (pc := 12) dX4_add_12 rfl rfl ?_
  refine go_get (pc := 13) fX4_22 rfl ha hw rfl dX4_add_13 ?_
  refine go_aload_n (pc := 16) dX4_add_16 rfl rfl ?_
  refine go_get (pc := 17) fX4_15 rfl ha hw rfl dX4_add_17 ?_
  refine go_alen (pc := 20) hc hg dX4_add_20 ?_
  refine go_icmp_ge_f (pc := 21) (tgt := 54) dX4_add_21 (by decide) (nI_ge hq hN) ?_
  refine go_aload_n (pc := 24) dX4_add_24 rfl rfl ?_
  refine go_get (pc := 25) fX4_9 rfl ha hw rfl dX4_add_25 ?_
  refine go_aload_n (pc := 28) dX4_add_28 rfl rfl ?_
  refine go_get (pc := 29) fX4_22 rfl ha hw rfl dX4_add_29 ?_
  refine go_iload_n (pc := 32) dX4_add_32 rfl rfl ?_
  refine go_iast (pc := 33) hb hf (vp_in_nI hq hN) dX4_add_33 ?_
  refine go_aload_n (pc := 34) dX4_add_34 rfl rfl ?_
  refine go_get (pc := 35) fX4_15 rfl ha ((va_up_ne _ _ hab).trans hw) rfl dX4_add_35 ?_
  refine go_aload_n (pc := 38) dX4_add_38 rfl rfl ?_
  refine go_get (pc := 39) fX4_22 rfl ha ((va_up_ne _ _ hab).trans hw) rfl dX4_add_39 ?_
  refine go_iload_n (pc := 42) dX4_add_42 rfl rfl ?_
  refine go_iast (pc := 43) hc ((va_up_ne _ _ (Ne.symm hbc)).trans hg) (vp_in_nI hq hN) dX4_add_43 ?_
  refine go_aload_n (pc := 44) dX4_add_44 rfl rfl ?_
  refine go_dup (pc := 45) dX4_add_45 rfl ?_
  refine go_get (pc := 46) fX4_22 rfl ha ((va_up_ne _ _ hac).trans ((va_up_ne _ _ hab).trans hw)) rfl dX4_add_46 ?_
  refine go_iconst (pc := 49) (v := 1) dX4_add_49 (by decide) ?_
  refine go_iadd (pc := 50) dX4_add_50 ?_
  refine go_put (pc := 51) fX4_22 rfl ha ((va_up_ne _ _ hac).trans ((va_up_ne _ _ hab).trans hw)) (Nat.le_of_ble_eq_true rfl) rfl rfl dX4_add_51 ?_
  exact go_vret (pc := 54) rfl dX4_add_54
theorem sum_loop {B : gB} {a N q : Nat} {f : Nat → Int32} (hq : q ≤ N) (hN : N < 2 ^ 31) (ha : G.2.1 ≤ a ∧ a < G.2.1 + n) (hw : w a = ai G N f)
    (kk : Go l G mX4_sumOf B 24 [(3, .int (nI q)), (2, .int (gsum f q)), (0, .ref a), (1, .int (nI q))] [] n k w) :
    ∀ (d i : Nat), q - i = d → i ≤ q → Go l G mX4_sumOf B 4 [(3, .int (nI i)), (2, .int (gsum f i)), (0, .ref a), (1, .int (nI q))] [] n k w := by
  intro d
  induction d with
  | zero =>
    intro i hd hi
    have hiN : i = q := by omega
    subst hiN
    refine go_iload_n (pc := 4) dX4_sumOf_4 rfl rfl ?_
    refine go_iload_n (pc := 5) dX4_sumOf_5 rfl rfl ?_
    exact go_icmp_ge_t (pc := 6) (tgt := 24) dX4_sumOf_6 (by decide) (nI_le (Nat.le_refl _) (by omega)) kk
  | succ d ih =>
    intro i hd hi
    have hlt : i < q := by omega
    refine go_iload_n (pc := 4) dX4_sumOf_4 rfl rfl ?_
    refine go_iload_n (pc := 5) dX4_sumOf_5 rfl rfl ?_
    refine go_icmp_ge_f (pc := 6) (tgt := 24) dX4_sumOf_6 (by decide) (nI_ge hlt (by omega)) ?_
    refine go_bipush (pc := 9) (v := 31) dX4_sumOf_9 (by decide) ?_
    refine go_iload_n (pc := 11) dX4_sumOf_11 rfl rfl ?_
    refine go_imul (pc := 12) dX4_sumOf_12 ?_
    refine go_aload_n (pc := 13) dX4_sumOf_13 rfl rfl ?_
    refine go_iload_n (pc := 14) dX4_sumOf_14 rfl rfl ?_
    refine go_iald (pc := 15) ha hw (vp_in_nI (by omega) hN) dX4_sumOf_15 ?_
    refine go_iadd (pc := 16) dX4_sumOf_16 ?_
    refine go_top (y := gsum f (i + 1)) (by rw [nI_clamp (by omega)]; rfl) ?_
    refine go_istore_n (pc := 17) (lv' := [(2, .int (gsum f (i + 1))), (3, .int (nI i)), (0, .ref a), (1, .int (nI q))]) dX4_sumOf_17 rfl (by decide) rfl ?_
    refine go_iinc (pc := 18) (v := nI (i + 1)) (lv' := [(3, .int (nI (i + 1))), (2, .int (gsum f (i + 1))), (0, .ref a), (1, .int (nI q))]) dX4_sumOf_18 1 rfl (nI_1 i) (by decide) rfl ?_
    refine go_goto (pc := 21) (tgt := 4) dX4_sumOf_21 (by decide) ?_
    exact ih (i + 1) (by omega) (by omega)
/-- the sum of the first q numbers of a row -/
theorem ct_sumOf {a N q : Nat} {f : Nat → Int32} (hq : q ≤ N) (hN : N < 2 ^ 31) (ha : G.2.1 ≤ a ∧ a < G.2.1 + n) (hw : w a = ai G N f) : Ct l G mX4_sumOf 0 0 [.ref a, .int (nI q)] n k w (some (.int (gsum f q)), n, k, w) := by
  refine Ct.of (by decide) (Nat.le_of_ble_eq_true rfl) ⟨Nat.le_refl _, Nat.le_refl _⟩ ?_
  show Go l G mX4_sumOf _ 0 [(0, .ref a), (1, .int (nI q))] [] n k w
  refine go_iconst (pc := 0) (v := 1) dX4_sumOf_0 (by decide) ?_
  refine go_istore_n (pc := 1) (lv' := [(2, .int 1), (0, .ref a), (1, .int (nI q))]) dX4_sumOf_1 rfl (by decide) rfl ?_
  refine go_iconst (pc := 2) (v := nI 0) dX4_sumOf_2 (by decide) ?_
  refine go_istore_n (pc := 3) (lv' := [(3, .int (nI 0)), (2, .int 1), (0, .ref a), (1, .int (nI q))]) dX4_sumOf_3 rfl (by decide) rfl ?_
  refine sum_loop hq hN ha hw ?_ q 0 (Nat.sub_zero q) (Nat.zero_le q)
  refine go_iload_n (pc := 24) dX4_sumOf_24 rfl rfl ?_
  exact go_iret (pc := 25) rfl dX4_sumOf_25
end X1

/-! public methods on the fresh world, laid by wip/tools/p1gen.py -/
set_option maxRecDepth 100000 in
set_option maxHeartbeats 4000000 in
theorem cX10_mark_25 {l : Launch} {G : gG} {n k : Nat} {w : Nat → va_E} (hn : 42 ≤ n) (hw : ∀ i, 32 ≤ i → i < 42 → w (G.2.1 + i) = wl G.2.1 (LF G) (G.2.1 + i)) : Ct l G mX10_mark 0 0 [.ref (G.2.1 + 32), .int ((-1)), .int 0, .int 0, .int ((-1))] n k (va_up w (G.2.1 + 33) (ai G 26100 (upd (upd (upd (sx 256) (3 : Int32).toNatClampNeg 1) (4 : Int32).toNatClampNeg 0) (17 : Int32).toNatClampNeg 0))) (none, n, k, (va_up w (G.2.1 + 33) (ai G 26100 (upd (upd (upd (sx 256) (3 : Int32).toNatClampNeg 1) (4 : Int32).toNatClampNeg 0) (17 : Int32).toNatClampNeg 0)))) := by
  refine Ct.of (by decide) (Nat.le_of_ble_eq_true rfl) ⟨Nat.le_refl _, Nat.le_refl _⟩ ?_
  show Go l G mX10_mark _ 0 [(0, .ref (G.2.1 + 32)), (1, .int ((-1))), (2, .int 0), (3, .int 0), (4, .int ((-1)))] [] n k (va_up w (G.2.1 + 33) (ai G 26100 (upd (upd (upd (sx 256) (3 : Int32).toNatClampNeg 1) (4 : Int32).toNatClampNeg 0) (17 : Int32).toNatClampNeg 0)))
  refine go_iload_n (pc := 0) dX10_mark_0 rfl rfl ?_
  refine go_iconst (pc := 1) (v := (-1)) dX10_mark_1 (by decide) ?_
  refine go_icmp_eq_t (pc := 2) (tgt := 14) dX10_mark_2 (by decide) (by decide) ?_
  exact go_vret (pc := 14) rfl dX10_mark_14
set_option maxRecDepth 100000 in
set_option maxHeartbeats 4000000 in
theorem cX10_mark_26 {l : Launch} {G : gG} {n k : Nat} {w : Nat → va_E} (hn : 42 ≤ n) (hw : ∀ i, 32 ≤ i → i < 42 → w (G.2.1 + i) = wl G.2.1 (LF G) (G.2.1 + i)) : Ct l G mX10_mark 0 0 [.ref (G.2.1 + 32), .int ((-1)), .int 0, .int 1, .int ((-1))] n k (va_up w (G.2.1 + 33) (ai G 26100 (upd (upd (upd (sx 256) (3 : Int32).toNatClampNeg 1) (4 : Int32).toNatClampNeg 0) (17 : Int32).toNatClampNeg 0))) (none, n, k, (va_up w (G.2.1 + 33) (ai G 26100 (upd (upd (upd (sx 256) (3 : Int32).toNatClampNeg 1) (4 : Int32).toNatClampNeg 0) (17 : Int32).toNatClampNeg 0)))) := by
  refine Ct.of (by decide) (Nat.le_of_ble_eq_true rfl) ⟨Nat.le_refl _, Nat.le_refl _⟩ ?_
  show Go l G mX10_mark _ 0 [(0, .ref (G.2.1 + 32)), (1, .int ((-1))), (2, .int 0), (3, .int 1), (4, .int ((-1)))] [] n k (va_up w (G.2.1 + 33) (ai G 26100 (upd (upd (upd (sx 256) (3 : Int32).toNatClampNeg 1) (4 : Int32).toNatClampNeg 0) (17 : Int32).toNatClampNeg 0)))
  refine go_iload_n (pc := 0) dX10_mark_0 rfl rfl ?_
  refine go_iconst (pc := 1) (v := (-1)) dX10_mark_1 (by decide) ?_
  refine go_icmp_eq_t (pc := 2) (tgt := 14) dX10_mark_2 (by decide) (by decide) ?_
  exact go_vret (pc := 14) rfl dX10_mark_14
set_option maxRecDepth 100000 in
set_option maxHeartbeats 4000000 in
theorem cX10_mark_27 {l : Launch} {G : gG} {n k : Nat} {w : Nat → va_E} (hn : 42 ≤ n) (hw : ∀ i, 32 ≤ i → i < 42 → w (G.2.1 + i) = wl G.2.1 (LF G) (G.2.1 + i)) : Ct l G mX10_mark 0 0 [.ref (G.2.1 + 32), .int ((-1)), .int 0, .int 2, .int ((-1))] n k (va_up w (G.2.1 + 33) (ai G 26100 (upd (upd (upd (sx 256) (3 : Int32).toNatClampNeg 1) (4 : Int32).toNatClampNeg 0) (17 : Int32).toNatClampNeg 0))) (none, n, k, (va_up w (G.2.1 + 33) (ai G 26100 (upd (upd (upd (sx 256) (3 : Int32).toNatClampNeg 1) (4 : Int32).toNatClampNeg 0) (17 : Int32).toNatClampNeg 0)))) := by
  refine Ct.of (by decide) (Nat.le_of_ble_eq_true rfl) ⟨Nat.le_refl _, Nat.le_refl _⟩ ?_
  show Go l G mX10_mark _ 0 [(0, .ref (G.2.1 + 32)), (1, .int ((-1))), (2, .int 0), (3, .int 2), (4, .int ((-1)))] [] n k (va_up w (G.2.1 + 33) (ai G 26100 (upd (upd (upd (sx 256) (3 : Int32).toNatClampNeg 1) (4 : Int32).toNatClampNeg 0) (17 : Int32).toNatClampNeg 0)))
  refine go_iload_n (pc := 0) dX10_mark_0 rfl rfl ?_
  refine go_iconst (pc := 1) (v := (-1)) dX10_mark_1 (by decide) ?_
  refine go_icmp_eq_t (pc := 2) (tgt := 14) dX10_mark_2 (by decide) (by decide) ?_
  exact go_vret (pc := 14) rfl dX10_mark_14
set_option maxRecDepth 100000 in
set_option maxHeartbeats 4000000 in
theorem cX10_mark_28 {l : Launch} {G : gG} {n k : Nat} {w : Nat → va_E} (hn : 42 ≤ n) (hw : ∀ i, 32 ≤ i → i < 42 → w (G.2.1 + i) = wl G.2.1 (LF G) (G.2.1 + i)) : Ct l G mX10_mark 0 0 [.ref (G.2.1 + 32), .int ((-1)), .int 0, .int 3, .int ((-1))] n k (va_up w (G.2.1 + 33) (ai G 26100 (upd (upd (upd (sx 256) (3 : Int32).toNatClampNeg 1) (4 : Int32).toNatClampNeg 0) (17 : Int32).toNatClampNeg 0))) (none, n, k, (va_up w (G.2.1 + 33) (ai G 26100 (upd (upd (upd (sx 256) (3 : Int32).toNatClampNeg 1) (4 : Int32).toNatClampNeg 0) (17 : Int32).toNatClampNeg 0)))) := by
  refine Ct.of (by decide) (Nat.le_of_ble_eq_true rfl) ⟨Nat.le_refl _, Nat.le_refl _⟩ ?_
  show Go l G mX10_mark _ 0 [(0, .ref (G.2.1 + 32)), (1, .int ((-1))), (2, .int 0), (3, .int 3), (4, .int ((-1)))] [] n k (va_up w (G.2.1 + 33) (ai G 26100 (upd (upd (upd (sx 256) (3 : Int32).toNatClampNeg 1) (4 : Int32).toNatClampNeg 0) (17 : Int32).toNatClampNeg 0)))
  refine go_iload_n (pc := 0) dX10_mark_0 rfl rfl ?_
  refine go_iconst (pc := 1) (v := (-1)) dX10_mark_1 (by decide) ?_
  refine go_icmp_eq_t (pc := 2) (tgt := 14) dX10_mark_2 (by decide) (by decide) ?_
  exact go_vret (pc := 14) rfl dX10_mark_14
set_option maxRecDepth 100000 in
set_option maxHeartbeats 4000000 in
theorem cX10_mark_29 {l : Launch} {G : gG} {n k : Nat} {w : Nat → va_E} (hn : 42 ≤ n) (hw : ∀ i, 32 ≤ i → i < 42 → w (G.2.1 + i) = wl G.2.1 (LF G) (G.2.1 + i)) : Ct l G mX10_mark 0 0 [.ref (G.2.1 + 32), .int ((-1)), .int 0, .int 4, .int ((-1))] n k (va_up w (G.2.1 + 33) (ai G 26100 (upd (upd (upd (sx 256) (3 : Int32).toNatClampNeg 1) (4 : Int32).toNatClampNeg 0) (17 : Int32).toNatClampNeg 0))) (none, n, k, (va_up w (G.2.1 + 33) (ai G 26100 (upd (upd (upd (sx 256) (3 : Int32).toNatClampNeg 1) (4 : Int32).toNatClampNeg 0) (17 : Int32).toNatClampNeg 0)))) := by
  refine Ct.of (by decide) (Nat.le_of_ble_eq_true rfl) ⟨Nat.le_refl _, Nat.le_refl _⟩ ?_
  show Go l G mX10_mark _ 0 [(0, .ref (G.2.1 + 32)), (1, .int ((-1))), (2, .int 0), (3, .int 4), (4, .int ((-1)))] [] n k (va_up w (G.2.1 + 33) (ai G 26100 (upd (upd (upd (sx 256) (3 : Int32).toNatClampNeg 1) (4 : Int32).toNatClampNeg 0) (17 : Int32).toNatClampNeg 0)))
  refine go_iload_n (pc := 0) dX10_mark_0 rfl rfl ?_
  refine go_iconst (pc := 1) (v := (-1)) dX10_mark_1 (by decide) ?_
  refine go_icmp_eq_t (pc := 2) (tgt := 14) dX10_mark_2 (by decide) (by decide) ?_
  exact go_vret (pc := 14) rfl dX10_mark_14
set_option maxRecDepth 100000 in
set_option maxHeartbeats 4000000 in
theorem cX10_mark_30 {l : Launch} {G : gG} {n k : Nat} {w : Nat → va_E} (hn : 42 ≤ n) (hw : ∀ i, 32 ≤ i → i < 42 → w (G.2.1 + i) = wl G.2.1 (LF G) (G.2.1 + i)) : Ct l G mX10_mark 0 0 [.ref (G.2.1 + 32), .int ((-1)), .int 0, .int 5, .int ((-1))] n k (va_up w (G.2.1 + 33) (ai G 26100 (upd (upd (upd (sx 256) (3 : Int32).toNatClampNeg 1) (4 : Int32).toNatClampNeg 0) (17 : Int32).toNatClampNeg 0))) (none, n, k, (va_up w (G.2.1 + 33) (ai G 26100 (upd (upd (upd (sx 256) (3 : Int32).toNatClampNeg 1) (4 : Int32).toNatClampNeg 0) (17 : Int32).toNatClampNeg 0)))) := by
  refine Ct.of (by decide) (Nat.le_of_ble_eq_true rfl) ⟨Nat.le_refl _, Nat.le_refl _⟩ ?_
  show Go l G mX10_mark _ 0 [(0, .ref (G.2.1 + 32)), (1, .int ((-1))), (2, .int 0), (3, .int 5), (4, .int ((-1)))] [] n k (va_up w (G.2.1 + 33) (ai G 26100 (upd (upd (upd (sx 256) (3 : Int32).toNatClampNeg 1) (4 : Int32).toNatClampNeg 0) (17 : Int32).toNatClampNeg 0)))
  refine go_iload_n (pc := 0) dX10_mark_0 rfl rfl ?_
  refine go_iconst (pc := 1) (v := (-1)) dX10_mark_1 (by decide) ?_
  refine go_icmp_eq_t (pc := 2) (tgt := 14) dX10_mark_2 (by decide) (by decide) ?_
  exact go_vret (pc := 14) rfl dX10_mark_14
set_option maxRecDepth 100000 in
set_option maxHeartbeats 4000000 in
theorem cX10_mark_31 {l : Launch} {G : gG} {n k : Nat} {w : Nat → va_E} (hn : 42 ≤ n) (hw : ∀ i, 32 ≤ i → i < 42 → w (G.2.1 + i) = wl G.2.1 (LF G) (G.2.1 + i)) : Ct l G mX10_mark 0 0 [.ref (G.2.1 + 32), .int ((-1)), .int 0, .int 6, .int ((-1))] n k (va_up w (G.2.1 + 33) (ai G 26100 (upd (upd (upd (sx 256) (3 : Int32).toNatClampNeg 1) (4 : Int32).toNatClampNeg 0) (17 : Int32).toNatClampNeg 0))) (none, n, k, (va_up w (G.2.1 + 33) (ai G 26100 (upd (upd (upd (sx 256) (3 : Int32).toNatClampNeg 1) (4 : Int32).toNatClampNeg 0) (17 : Int32).toNatClampNeg 0)))) := by
  refine Ct.of (by decide) (Nat.le_of_ble_eq_true rfl) ⟨Nat.le_refl _, Nat.le_refl _⟩ ?_
  show Go l G mX10_mark _ 0 [(0, .ref (G.2.1 + 32)), (1, .int ((-1))), (2, .int 0), (3, .int 6), (4, .int ((-1)))] [] n k (va_up w (G.2.1 + 33) (ai G 26100 (upd (upd (upd (sx 256) (3 : Int32).toNatClampNeg 1) (4 : Int32).toNatClampNeg 0) (17 : Int32).toNatClampNeg 0)))
  refine go_iload_n (pc := 0) dX10_mark_0 rfl rfl ?_
  refine go_iconst (pc := 1) (v := (-1)) dX10_mark_1 (by decide) ?_
  refine go_icmp_eq_t (pc := 2) (tgt := 14) dX10_mark_2 (by decide) (by decide) ?_
  exact go_vret (pc := 14) rfl dX10_mark_14
set_option maxRecDepth 100000 in
set_option maxHeartbeats 4000000 in
theorem cX10_mark_32 {l : Launch} {G : gG} {n k : Nat} {w : Nat → va_E} (hn : 42 ≤ n) (hw : ∀ i, 32 ≤ i → i < 42 → w (G.2.1 + i) = wl G.2.1 (LF G) (G.2.1 + i)) : Ct l G mX10_mark 0 0 [.ref (G.2.1 + 32), .int ((-1)), .int 0, .int 7, .int ((-1))] n k (va_up w (G.2.1 + 33) (ai G 26100 (upd (upd (upd (sx 256) (3 : Int32).toNatClampNeg 1) (4 : Int32).toNatClampNeg 0) (17 : Int32).toNatClampNeg 0))) (none, n, k, (va_up w (G.2.1 + 33) (ai G 26100 (upd (upd (upd (sx 256) (3 : Int32).toNatClampNeg 1) (4 : Int32).toNatClampNeg 0) (17 : Int32).toNatClampNeg 0)))) := by
  refine Ct.of (by decide) (Nat.le_of_ble_eq_true rfl) ⟨Nat.le_refl _, Nat.le_refl _⟩ ?_
  show Go l G mX10_mark _ 0 [(0, .ref (G.2.1 + 32)), (1, .int ((-1))), (2, .int 0), (3, .int 7), (4, .int ((-1)))] [] n k (va_up w (G.2.1 + 33) (ai G 26100 (upd (upd (upd (sx 256) (3 : Int32).toNatClampNeg 1) (4 : Int32).toNatClampNeg 0) (17 : Int32).toNatClampNeg 0)))
  refine go_iload_n (pc := 0) dX10_mark_0 rfl rfl ?_
  refine go_iconst (pc := 1) (v := (-1)) dX10_mark_1 (by decide) ?_
  refine go_icmp_eq_t (pc := 2) (tgt := 14) dX10_mark_2 (by decide) (by decide) ?_
  exact go_vret (pc := 14) rfl dX10_mark_14
set_option maxRecDepth 100000 in
set_option maxHeartbeats 4000000 in
theorem cX10_mark_33 {l : Launch} {G : gG} {n k : Nat} {w : Nat → va_E} (hn : 42 ≤ n) (hw : ∀ i, 32 ≤ i → i < 42 → w (G.2.1 + i) = wl G.2.1 (LF G) (G.2.1 + i)) : Ct l G mX10_mark 0 0 [.ref (G.2.1 + 32), .int ((-1)), .int 0, .int 8, .int ((-1))] n k (va_up w (G.2.1 + 33) (ai G 26100 (upd (upd (upd (sx 256) (3 : Int32).toNatClampNeg 1) (4 : Int32).toNatClampNeg 0) (17 : Int32).toNatClampNeg 0))) (none, n, k, (va_up w (G.2.1 + 33) (ai G 26100 (upd (upd (upd (sx 256) (3 : Int32).toNatClampNeg 1) (4 : Int32).toNatClampNeg 0) (17 : Int32).toNatClampNeg 0)))) := by
  refine Ct.of (by decide) (Nat.le_of_ble_eq_true rfl) ⟨Nat.le_refl _, Nat.le_refl _⟩ ?_
  show Go l G mX10_mark _ 0 [(0, .ref (G.2.1 + 32)), (1, .int ((-1))), (2, .int 0), (3, .int 8), (4, .int ((-1)))] [] n k (va_up w (G.2.1 + 33) (ai G 26100 (upd (upd (upd (sx 256) (3 : Int32).toNatClampNeg 1) (4 : Int32).toNatClampNeg 0) (17 : Int32).toNatClampNeg 0)))
  refine go_iload_n (pc := 0) dX10_mark_0 rfl rfl ?_
  refine go_iconst (pc := 1) (v := (-1)) dX10_mark_1 (by decide) ?_
  refine go_icmp_eq_t (pc := 2) (tgt := 14) dX10_mark_2 (by decide) (by decide) ?_
  exact go_vret (pc := 14) rfl dX10_mark_14
set_option maxRecDepth 100000 in
set_option maxHeartbeats 4000000 in
theorem cX10_mark_34 {l : Launch} {G : gG} {n k : Nat} {w : Nat → va_E} (hn : 42 ≤ n) (hw : ∀ i, 32 ≤ i → i < 42 → w (G.2.1 + i) = wl G.2.1 (LF G) (G.2.1 + i)) : Ct l G mX10_mark 0 0 [.ref (G.2.1 + 32), .int ((-1)), .int 0, .int 9, .int ((-1))] n k (va_up w (G.2.1 + 33) (ai G 26100 (upd (upd (upd (sx 256) (3 : Int32).toNatClampNeg 1) (4 : Int32).toNatClampNeg 0) (17 : Int32).toNatClampNeg 0))) (none, n, k, (va_up w (G.2.1 + 33) (ai G 26100 (upd (upd (upd (sx 256) (3 : Int32).toNatClampNeg 1) (4 : Int32).toNatClampNeg 0) (17 : Int32).toNatClampNeg 0)))) := by
  refine Ct.of (by decide) (Nat.le_of_ble_eq_true rfl) ⟨Nat.le_refl _, Nat.le_refl _⟩ ?_
  show Go l G mX10_mark _ 0 [(0, .ref (G.2.1 + 32)), (1, .int ((-1))), (2, .int 0), (3, .int 9), (4, .int ((-1)))] [] n k (va_up w (G.2.1 + 33) (ai G 26100 (upd (upd (upd (sx 256) (3 : Int32).toNatClampNeg 1) (4 : Int32).toNatClampNeg 0) (17 : Int32).toNatClampNeg 0)))
  refine go_iload_n (pc := 0) dX10_mark_0 rfl rfl ?_
  refine go_iconst (pc := 1) (v := (-1)) dX10_mark_1 (by decide) ?_
  refine go_icmp_eq_t (pc := 2) (tgt := 14) dX10_mark_2 (by decide) (by decide) ?_
  exact go_vret (pc := 14) rfl dX10_mark_14
set_option maxRecDepth 100000 in
set_option maxHeartbeats 4000000 in
theorem cX10_mark_35 {l : Launch} {G : gG} {n k : Nat} {w : Nat → va_E} (hn : 42 ≤ n) (hw : ∀ i, 32 ≤ i → i < 42 → w (G.2.1 + i) = wl G.2.1 (LF G) (G.2.1 + i)) : Ct l G mX10_mark 0 0 [.ref (G.2.1 + 32), .int ((-1)), .int 0, .int 10, .int ((-1))] n k (va_up w (G.2.1 + 33) (ai G 26100 (upd (upd (upd (sx 256) (3 : Int32).toNatClampNeg 1) (4 : Int32).toNatClampNeg 0) (17 : Int32).toNatClampNeg 0))) (none, n, k, (va_up w (G.2.1 + 33) (ai G 26100 (upd (upd (upd (sx 256) (3 : Int32).toNatClampNeg 1) (4 : Int32).toNatClampNeg 0) (17 : Int32).toNatClampNeg 0)))) := by
  refine Ct.of (by decide) (Nat.le_of_ble_eq_true rfl) ⟨Nat.le_refl _, Nat.le_refl _⟩ ?_
  show Go l G mX10_mark _ 0 [(0, .ref (G.2.1 + 32)), (1, .int ((-1))), (2, .int 0), (3, .int 10), (4, .int ((-1)))] [] n k (va_up w (G.2.1 + 33) (ai G 26100 (upd (upd (upd (sx 256) (3 : Int32).toNatClampNeg 1) (4 : Int32).toNatClampNeg 0) (17 : Int32).toNatClampNeg 0)))
  refine go_iload_n (pc := 0) dX10_mark_0 rfl rfl ?_
  refine go_iconst (pc := 1) (v := (-1)) dX10_mark_1 (by decide) ?_
  refine go_icmp_eq_t (pc := 2) (tgt := 14) dX10_mark_2 (by decide) (by decide) ?_
  exact go_vret (pc := 14) rfl dX10_mark_14
set_option maxRecDepth 100000 in
set_option maxHeartbeats 4000000 in
theorem cX10_mark_36 {l : Launch} {G : gG} {n k : Nat} {w : Nat → va_E} (hn : 42 ≤ n) (hw : ∀ i, 32 ≤ i → i < 42 → w (G.2.1 + i) = wl G.2.1 (LF G) (G.2.1 + i)) : Ct l G mX10_mark 0 0 [.ref (G.2.1 + 32), .int ((-1)), .int 0, .int 11, .int ((-1))] n k (va_up w (G.2.1 + 33) (ai G 26100 (upd (upd (upd (sx 256) (3 : Int32).toNatClampNeg 1) (4 : Int32).toNatClampNeg 0) (17 : Int32).toNatClampNeg 0))) (none, n, k, (va_up w (G.2.1 + 33) (ai G 26100 (upd (upd (upd (sx 256) (3 : Int32).toNatClampNeg 1) (4 : Int32).toNatClampNeg 0) (17 : Int32).toNatClampNeg 0)))) := by
  refine Ct.of (by decide) (Nat.le_of_ble_eq_true rfl) ⟨Nat.le_refl _, Nat.le_refl _⟩ ?_
  show Go l G mX10_mark _ 0 [(0, .ref (G.2.1 + 32)), (1, .int ((-1))), (2, .int 0), (3, .int 11), (4, .int ((-1)))] [] n k (va_up w (G.2.1 + 33) (ai G 26100 (upd (upd (upd (sx 256) (3 : Int32).toNatClampNeg 1) (4 : Int32).toNatClampNeg 0) (17 : Int32).toNatClampNeg 0)))
  refine go_iload_n (pc := 0) dX10_mark_0 rfl rfl ?_
  refine go_iconst (pc := 1) (v := (-1)) dX10_mark_1 (by decide) ?_
  refine go_icmp_eq_t (pc := 2) (tgt := 14) dX10_mark_2 (by decide) (by decide) ?_
  exact go_vret (pc := 14) rfl dX10_mark_14
set_option maxRecDepth 100000 in
set_option maxHeartbeats 4000000 in
theorem cX10_mark_37 {l : Launch} {G : gG} {n k : Nat} {w : Nat → va_E} (hn : 42 ≤ n) (hw : ∀ i, 32 ≤ i → i < 42 → w (G.2.1 + i) = wl G.2.1 (LF G) (G.2.1 + i)) : Ct l G mX10_mark 0 0 [.ref (G.2.1 + 32), .int ((-1)), .int 0, .int 12, .int ((-1))] n k (va_up w (G.2.1 + 33) (ai G 26100 (upd (upd (upd (sx 256) (3 : Int32).toNatClampNeg 1) (4 : Int32).toNatClampNeg 0) (17 : Int32).toNatClampNeg 0))) (none, n, k, (va_up w (G.2.1 + 33) (ai G 26100 (upd (upd (upd (sx 256) (3 : Int32).toNatClampNeg 1) (4 : Int32).toNatClampNeg 0) (17 : Int32).toNatClampNeg 0)))) := by
  refine Ct.of (by decide) (Nat.le_of_ble_eq_true rfl) ⟨Nat.le_refl _, Nat.le_refl _⟩ ?_
  show Go l G mX10_mark _ 0 [(0, .ref (G.2.1 + 32)), (1, .int ((-1))), (2, .int 0), (3, .int 12), (4, .int ((-1)))] [] n k (va_up w (G.2.1 + 33) (ai G 26100 (upd (upd (upd (sx 256) (3 : Int32).toNatClampNeg 1) (4 : Int32).toNatClampNeg 0) (17 : Int32).toNatClampNeg 0)))
  refine go_iload_n (pc := 0) dX10_mark_0 rfl rfl ?_
  refine go_iconst (pc := 1) (v := (-1)) dX10_mark_1 (by decide) ?_
  refine go_icmp_eq_t (pc := 2) (tgt := 14) dX10_mark_2 (by decide) (by decide) ?_
  exact go_vret (pc := 14) rfl dX10_mark_14
set_option maxRecDepth 100000 in
set_option maxHeartbeats 4000000 in
theorem cX10_mark_38 {l : Launch} {G : gG} {n k : Nat} {w : Nat → va_E} (hn : 42 ≤ n) (hw : ∀ i, 32 ≤ i → i < 42 → w (G.2.1 + i) = wl G.2.1 (LF G) (G.2.1 + i)) : Ct l G mX10_mark 0 0 [.ref (G.2.1 + 32), .int ((-1)), .int 0, .int 13, .int ((-1))] n k (va_up w (G.2.1 + 33) (ai G 26100 (upd (upd (upd (sx 256) (3 : Int32).toNatClampNeg 1) (4 : Int32).toNatClampNeg 0) (17 : Int32).toNatClampNeg 0))) (none, n, k, (va_up w (G.2.1 + 33) (ai G 26100 (upd (upd (upd (sx 256) (3 : Int32).toNatClampNeg 1) (4 : Int32).toNatClampNeg 0) (17 : Int32).toNatClampNeg 0)))) := by
  refine Ct.of (by decide) (Nat.le_of_ble_eq_true rfl) ⟨Nat.le_refl _, Nat.le_refl _⟩ ?_
  show Go l G mX10_mark _ 0 [(0, .ref (G.2.1 + 32)), (1, .int ((-1))), (2, .int 0), (3, .int 13), (4, .int ((-1)))] [] n k (va_up w (G.2.1 + 33) (ai G 26100 (upd (upd (upd (sx 256) (3 : Int32).toNatClampNeg 1) (4 : Int32).toNatClampNeg 0) (17 : Int32).toNatClampNeg 0)))
  refine go_iload_n (pc := 0) dX10_mark_0 rfl rfl ?_
  refine go_iconst (pc := 1) (v := (-1)) dX10_mark_1 (by decide) ?_
  refine go_icmp_eq_t (pc := 2) (tgt := 14) dX10_mark_2 (by decide) (by decide) ?_
  exact go_vret (pc := 14) rfl dX10_mark_14
set_option maxRecDepth 100000 in
set_option maxHeartbeats 4000000 in
theorem cX10_mark_39 {l : Launch} {G : gG} {n k : Nat} {w : Nat → va_E} (hn : 42 ≤ n) (hw : ∀ i, 32 ≤ i → i < 42 → w (G.2.1 + i) = wl G.2.1 (LF G) (G.2.1 + i)) : Ct l G mX10_mark 0 0 [.ref (G.2.1 + 32), .int ((-1)), .int 0, .int 14, .int ((-1))] n k (va_up w (G.2.1 + 33) (ai G 26100 (upd (upd (upd (sx 256) (3 : Int32).toNatClampNeg 1) (4 : Int32).toNatClampNeg 0) (17 : Int32).toNatClampNeg 0))) (none, n, k, (va_up w (G.2.1 + 33) (ai G 26100 (upd (upd (upd (sx 256) (3 : Int32).toNatClampNeg 1) (4 : Int32).toNatClampNeg 0) (17 : Int32).toNatClampNeg 0)))) := by
  refine Ct.of (by decide) (Nat.le_of_ble_eq_true rfl) ⟨Nat.le_refl _, Nat.le_refl _⟩ ?_
  show Go l G mX10_mark _ 0 [(0, .ref (G.2.1 + 32)), (1, .int ((-1))), (2, .int 0), (3, .int 14), (4, .int ((-1)))] [] n k (va_up w (G.2.1 + 33) (ai G 26100 (upd (upd (upd (sx 256) (3 : Int32).toNatClampNeg 1) (4 : Int32).toNatClampNeg 0) (17 : Int32).toNatClampNeg 0)))
  refine go_iload_n (pc := 0) dX10_mark_0 rfl rfl ?_
  refine go_iconst (pc := 1) (v := (-1)) dX10_mark_1 (by decide) ?_
  refine go_icmp_eq_t (pc := 2) (tgt := 14) dX10_mark_2 (by decide) (by decide) ?_
  exact go_vret (pc := 14) rfl dX10_mark_14
set_option maxRecDepth 100000 in
set_option maxHeartbeats 4000000 in
theorem cX10_mark_40 {l : Launch} {G : gG} {n k : Nat} {w : Nat → va_E} (hn : 42 ≤ n) (hw : ∀ i, 32 ≤ i → i < 42 → w (G.2.1 + i) = wl G.2.1 (LF G) (G.2.1 + i)) : Ct l G mX10_mark 0 0 [.ref (G.2.1 + 32), .int ((-1)), .int 0, .int 15, .int ((-1))] n k (va_up w (G.2.1 + 33) (ai G 26100 (upd (upd (upd (sx 256) (3 : Int32).toNatClampNeg 1) (4 : Int32).toNatClampNeg 0) (17 : Int32).toNatClampNeg 0))) (none, n, k, (va_up w (G.2.1 + 33) (ai G 26100 (upd (upd (upd (sx 256) (3 : Int32).toNatClampNeg 1) (4 : Int32).toNatClampNeg 0) (17 : Int32).toNatClampNeg 0)))) := by
  refine Ct.of (by decide) (Nat.le_of_ble_eq_true rfl) ⟨Nat.le_refl _, Nat.le_refl _⟩ ?_
  show Go l G mX10_mark _ 0 [(0, .ref (G.2.1 + 32)), (1, .int ((-1))), (2, .int 0), (3, .int 15), (4, .int ((-1)))] [] n k (va_up w (G.2.1 + 33) (ai G 26100 (upd (upd (upd (sx 256) (3 : Int32).toNatClampNeg 1) (4 : Int32).toNatClampNeg 0) (17 : Int32).toNatClampNeg 0)))
  refine go_iload_n (pc := 0) dX10_mark_0 rfl rfl ?_
  refine go_iconst (pc := 1) (v := (-1)) dX10_mark_1 (by decide) ?_
  refine go_icmp_eq_t (pc := 2) (tgt := 14) dX10_mark_2 (by decide) (by decide) ?_
  exact go_vret (pc := 14) rfl dX10_mark_14
set_option maxRecDepth 100000 in
set_option maxHeartbeats 4000000 in
theorem cX10_mark_41 {l : Launch} {G : gG} {n k : Nat} {w : Nat → va_E} (hn : 42 ≤ n) (hw : ∀ i, 32 ≤ i → i < 42 → w (G.2.1 + i) = wl G.2.1 (LF G) (G.2.1 + i)) : Ct l G mX10_mark 0 0 [.ref (G.2.1 + 32), .int ((-1)), .int 0, .int 16, .int ((-1))] n k (va_up w (G.2.1 + 33) (ai G 26100 (upd (upd (upd (sx 256) (3 : Int32).toNatClampNeg 1) (4 : Int32).toNatClampNeg 0) (17 : Int32).toNatClampNeg 0))) (none, n, k, (va_up w (G.2.1 + 33) (ai G 26100 (upd (upd (upd (sx 256) (3 : Int32).toNatClampNeg 1) (4 : Int32).toNatClampNeg 0) (17 : Int32).toNatClampNeg 0)))) := by
  refine Ct.of (by decide) (Nat.le_of_ble_eq_true rfl) ⟨Nat.le_refl _, Nat.le_refl _⟩ ?_
  show Go l G mX10_mark _ 0 [(0, .ref (G.2.1 + 32)), (1, .int ((-1))), (2, .int 0), (3, .int 16), (4, .int ((-1)))] [] n k (va_up w (G.2.1 + 33) (ai G 26100 (upd (upd (upd (sx 256) (3 : Int32).toNatClampNeg 1) (4 : Int32).toNatClampNeg 0) (17 : Int32).toNatClampNeg 0)))
  refine go_iload_n (pc := 0) dX10_mark_0 rfl rfl ?_
  refine go_iconst (pc := 1) (v := (-1)) dX10_mark_1 (by decide) ?_
  refine go_icmp_eq_t (pc := 2) (tgt := 14) dX10_mark_2 (by decide) (by decide) ?_
  exact go_vret (pc := 14) rfl dX10_mark_14
set_option maxRecDepth 100000 in
set_option maxHeartbeats 4000000 in
theorem cX10_mark_42 {l : Launch} {G : gG} {n k : Nat} {w : Nat → va_E} (hn : 42 ≤ n) (hw : ∀ i, 32 ≤ i → i < 42 → w (G.2.1 + i) = wl G.2.1 (LF G) (G.2.1 + i)) : Ct l G mX10_mark 0 0 [.ref (G.2.1 + 32), .int ((-1)), .int 0, .int 17, .int ((-1))] n k (va_up w (G.2.1 + 33) (ai G 26100 (upd (upd (upd (sx 256) (3 : Int32).toNatClampNeg 1) (4 : Int32).toNatClampNeg 0) (17 : Int32).toNatClampNeg 0))) (none, n, k, (va_up w (G.2.1 + 33) (ai G 26100 (upd (upd (upd (sx 256) (3 : Int32).toNatClampNeg 1) (4 : Int32).toNatClampNeg 0) (17 : Int32).toNatClampNeg 0)))) := by
  refine Ct.of (by decide) (Nat.le_of_ble_eq_true rfl) ⟨Nat.le_refl _, Nat.le_refl _⟩ ?_
  show Go l G mX10_mark _ 0 [(0, .ref (G.2.1 + 32)), (1, .int ((-1))), (2, .int 0), (3, .int 17), (4, .int ((-1)))] [] n k (va_up w (G.2.1 + 33) (ai G 26100 (upd (upd (upd (sx 256) (3 : Int32).toNatClampNeg 1) (4 : Int32).toNatClampNeg 0) (17 : Int32).toNatClampNeg 0)))
  refine go_iload_n (pc := 0) dX10_mark_0 rfl rfl ?_
  refine go_iconst (pc := 1) (v := (-1)) dX10_mark_1 (by decide) ?_
  refine go_icmp_eq_t (pc := 2) (tgt := 14) dX10_mark_2 (by decide) (by decide) ?_
  exact go_vret (pc := 14) rfl dX10_mark_14
set_option maxRecDepth 100000 in
set_option maxHeartbeats 4000000 in
theorem cX10_mark_43 {l : Launch} {G : gG} {n k : Nat} {w : Nat → va_E} (hn : 42 ≤ n) (hw : ∀ i, 32 ≤ i → i < 42 → w (G.2.1 + i) = wl G.2.1 (LF G) (G.2.1 + i)) : Ct l G mX10_mark 0 0 [.ref (G.2.1 + 32), .int ((-1)), .int 0, .int 18, .int ((-1))] n k (va_up w (G.2.1 + 33) (ai G 26100 (upd (upd (upd (sx 256) (3 : Int32).toNatClampNeg 1) (4 : Int32).toNatClampNeg 0) (17 : Int32).toNatClampNeg 0))) (none, n, k, (va_up w (G.2.1 + 33) (ai G 26100 (upd (upd (upd (sx 256) (3 : Int32).toNatClampNeg 1) (4 : Int32).toNatClampNeg 0) (17 : Int32).toNatClampNeg 0)))) := by
  refine Ct.of (by decide) (Nat.le_of_ble_eq_true rfl) ⟨Nat.le_refl _, Nat.le_refl _⟩ ?_
  show Go l G mX10_mark _ 0 [(0, .ref (G.2.1 + 32)), (1, .int ((-1))), (2, .int 0), (3, .int 18), (4, .int ((-1)))] [] n k (va_up w (G.2.1 + 33) (ai G 26100 (upd (upd (upd (sx 256) (3 : Int32).toNatClampNeg 1) (4 : Int32).toNatClampNeg 0) (17 : Int32).toNatClampNeg 0)))
  refine go_iload_n (pc := 0) dX10_mark_0 rfl rfl ?_
  refine go_iconst (pc := 1) (v := (-1)) dX10_mark_1 (by decide) ?_
  refine go_icmp_eq_t (pc := 2) (tgt := 14) dX10_mark_2 (by decide) (by decide) ?_
  exact go_vret (pc := 14) rfl dX10_mark_14
set_option maxRecDepth 100000 in
set_option maxHeartbeats 4000000 in
theorem cX10_mark_44 {l : Launch} {G : gG} {n k : Nat} {w : Nat → va_E} (hn : 42 ≤ n) (hw : ∀ i, 32 ≤ i → i < 42 → w (G.2.1 + i) = wl G.2.1 (LF G) (G.2.1 + i)) : Ct l G mX10_mark 0 0 [.ref (G.2.1 + 32), .int ((-1)), .int 0, .int 19, .int ((-1))] n k (va_up w (G.2.1 + 33) (ai G 26100 (upd (upd (upd (sx 256) (3 : Int32).toNatClampNeg 1) (4 : Int32).toNatClampNeg 0) (17 : Int32).toNatClampNeg 0))) (none, n, k, (va_up w (G.2.1 + 33) (ai G 26100 (upd (upd (upd (sx 256) (3 : Int32).toNatClampNeg 1) (4 : Int32).toNatClampNeg 0) (17 : Int32).toNatClampNeg 0)))) := by
  refine Ct.of (by decide) (Nat.le_of_ble_eq_true rfl) ⟨Nat.le_refl _, Nat.le_refl _⟩ ?_
  show Go l G mX10_mark _ 0 [(0, .ref (G.2.1 + 32)), (1, .int ((-1))), (2, .int 0), (3, .int 19), (4, .int ((-1)))] [] n k (va_up w (G.2.1 + 33) (ai G 26100 (upd (upd (upd (sx 256) (3 : Int32).toNatClampNeg 1) (4 : Int32).toNatClampNeg 0) (17 : Int32).toNatClampNeg 0)))
  refine go_iload_n (pc := 0) dX10_mark_0 rfl rfl ?_
  refine go_iconst (pc := 1) (v := (-1)) dX10_mark_1 (by decide) ?_
  refine go_icmp_eq_t (pc := 2) (tgt := 14) dX10_mark_2 (by decide) (by decide) ?_
  exact go_vret (pc := 14) rfl dX10_mark_14
set_option maxRecDepth 100000 in
set_option maxHeartbeats 4000000 in
theorem cX10_mark_45 {l : Launch} {G : gG} {n k : Nat} {w : Nat → va_E} (hn : 42 ≤ n) (hw : ∀ i, 32 ≤ i → i < 42 → w (G.2.1 + i) = wl G.2.1 (LF G) (G.2.1 + i)) : Ct l G mX10_mark 0 0 [.ref (G.2.1 + 32), .int ((-1)), .int 0, .int 20, .int ((-1))] n k (va_up w (G.2.1 + 33) (ai G 26100 (upd (upd (upd (sx 256) (3 : Int32).toNatClampNeg 1) (4 : Int32).toNatClampNeg 0) (17 : Int32).toNatClampNeg 0))) (none, n, k, (va_up w (G.2.1 + 33) (ai G 26100 (upd (upd (upd (sx 256) (3 : Int32).toNatClampNeg 1) (4 : Int32).toNatClampNeg 0) (17 : Int32).toNatClampNeg 0)))) := by
  refine Ct.of (by decide) (Nat.le_of_ble_eq_true rfl) ⟨Nat.le_refl _, Nat.le_refl _⟩ ?_
  show Go l G mX10_mark _ 0 [(0, .ref (G.2.1 + 32)), (1, .int ((-1))), (2, .int 0), (3, .int 20), (4, .int ((-1)))] [] n k (va_up w (G.2.1 + 33) (ai G 26100 (upd (upd (upd (sx 256) (3 : Int32).toNatClampNeg 1) (4 : Int32).toNatClampNeg 0) (17 : Int32).toNatClampNeg 0)))
  refine go_iload_n (pc := 0) dX10_mark_0 rfl rfl ?_
  refine go_iconst (pc := 1) (v := (-1)) dX10_mark_1 (by decide) ?_
  refine go_icmp_eq_t (pc := 2) (tgt := 14) dX10_mark_2 (by decide) (by decide) ?_
  exact go_vret (pc := 14) rfl dX10_mark_14
set_option maxRecDepth 100000 in
set_option maxHeartbeats 4000000 in
theorem cX10_mark_46 {l : Launch} {G : gG} {n k : Nat} {w : Nat → va_E} (hn : 42 ≤ n) (hw : ∀ i, 32 ≤ i → i < 42 → w (G.2.1 + i) = wl G.2.1 (LF G) (G.2.1 + i)) : Ct l G mX10_mark 0 0 [.ref (G.2.1 + 32), .int ((-1)), .int 0, .int 21, .int ((-1))] n k (va_up w (G.2.1 + 33) (ai G 26100 (upd (upd (upd (sx 256) (3 : Int32).toNatClampNeg 1) (4 : Int32).toNatClampNeg 0) (17 : Int32).toNatClampNeg 0))) (none, n, k, (va_up w (G.2.1 + 33) (ai G 26100 (upd (upd (upd (sx 256) (3 : Int32).toNatClampNeg 1) (4 : Int32).toNatClampNeg 0) (17 : Int32).toNatClampNeg 0)))) := by
  refine Ct.of (by decide) (Nat.le_of_ble_eq_true rfl) ⟨Nat.le_refl _, Nat.le_refl _⟩ ?_
  show Go l G mX10_mark _ 0 [(0, .ref (G.2.1 + 32)), (1, .int ((-1))), (2, .int 0), (3, .int 21), (4, .int ((-1)))] [] n k (va_up w (G.2.1 + 33) (ai G 26100 (upd (upd (upd (sx 256) (3 : Int32).toNatClampNeg 1) (4 : Int32).toNatClampNeg 0) (17 : Int32).toNatClampNeg 0)))
  refine go_iload_n (pc := 0) dX10_mark_0 rfl rfl ?_
  refine go_iconst (pc := 1) (v := (-1)) dX10_mark_1 (by decide) ?_
  refine go_icmp_eq_t (pc := 2) (tgt := 14) dX10_mark_2 (by decide) (by decide) ?_
  exact go_vret (pc := 14) rfl dX10_mark_14
set_option maxRecDepth 100000 in
set_option maxHeartbeats 4000000 in
theorem cX10_mark_47 {l : Launch} {G : gG} {n k : Nat} {w : Nat → va_E} (hn : 42 ≤ n) (hw : ∀ i, 32 ≤ i → i < 42 → w (G.2.1 + i) = wl G.2.1 (LF G) (G.2.1 + i)) : Ct l G mX10_mark 0 0 [.ref (G.2.1 + 32), .int ((-1)), .int 0, .int 22, .int ((-1))] n k (va_up w (G.2.1 + 33) (ai G 26100 (upd (upd (upd (sx 256) (3 : Int32).toNatClampNeg 1) (4 : Int32).toNatClampNeg 0) (17 : Int32).toNatClampNeg 0))) (none, n, k, (va_up w (G.2.1 + 33) (ai G 26100 (upd (upd (upd (sx 256) (3 : Int32).toNatClampNeg 1) (4 : Int32).toNatClampNeg 0) (17 : Int32).toNatClampNeg 0)))) := by
  refine Ct.of (by decide) (Nat.le_of_ble_eq_true rfl) ⟨Nat.le_refl _, Nat.le_refl _⟩ ?_
  show Go l G mX10_mark _ 0 [(0, .ref (G.2.1 + 32)), (1, .int ((-1))), (2, .int 0), (3, .int 22), (4, .int ((-1)))] [] n k (va_up w (G.2.1 + 33) (ai G 26100 (upd (upd (upd (sx 256) (3 : Int32).toNatClampNeg 1) (4 : Int32).toNatClampNeg 0) (17 : Int32).toNatClampNeg 0)))
  refine go_iload_n (pc := 0) dX10_mark_0 rfl rfl ?_
  refine go_iconst (pc := 1) (v := (-1)) dX10_mark_1 (by decide) ?_
  refine go_icmp_eq_t (pc := 2) (tgt := 14) dX10_mark_2 (by decide) (by decide) ?_
  exact go_vret (pc := 14) rfl dX10_mark_14
set_option maxRecDepth 100000 in
set_option maxHeartbeats 4000000 in
theorem cX10_mark_48 {l : Launch} {G : gG} {n k : Nat} {w : Nat → va_E} (hn : 42 ≤ n) (hw : ∀ i, 32 ≤ i → i < 42 → w (G.2.1 + i) = wl G.2.1 (LF G) (G.2.1 + i)) : Ct l G mX10_mark 0 0 [.ref (G.2.1 + 32), .int ((-1)), .int 0, .int 23, .int ((-1))] n k (va_up w (G.2.1 + 33) (ai G 26100 (upd (upd (upd (sx 256) (3 : Int32).toNatClampNeg 1) (4 : Int32).toNatClampNeg 0) (17 : Int32).toNatClampNeg 0))) (none, n, k, (va_up w (G.2.1 + 33) (ai G 26100 (upd (upd (upd (sx 256) (3 : Int32).toNatClampNeg 1) (4 : Int32).toNatClampNeg 0) (17 : Int32).toNatClampNeg 0)))) := by
  refine Ct.of (by decide) (Nat.le_of_ble_eq_true rfl) ⟨Nat.le_refl _, Nat.le_refl _⟩ ?_
  show Go l G mX10_mark _ 0 [(0, .ref (G.2.1 + 32)), (1, .int ((-1))), (2, .int 0), (3, .int 23), (4, .int ((-1)))] [] n k (va_up w (G.2.1 + 33) (ai G 26100 (upd (upd (upd (sx 256) (3 : Int32).toNatClampNeg 1) (4 : Int32).toNatClampNeg 0) (17 : Int32).toNatClampNeg 0)))
  refine go_iload_n (pc := 0) dX10_mark_0 rfl rfl ?_
  refine go_iconst (pc := 1) (v := (-1)) dX10_mark_1 (by decide) ?_
  refine go_icmp_eq_t (pc := 2) (tgt := 14) dX10_mark_2 (by decide) (by decide) ?_
  exact go_vret (pc := 14) rfl dX10_mark_14
set_option maxRecDepth 100000 in
set_option maxHeartbeats 4000000 in
theorem cX10_begin_2 {l : Launch} {G : gG} {n k : Nat} {w : Nat → va_E} (hn : 42 ≤ n) (hw : ∀ i, 32 ≤ i → i < 42 → w (G.2.1 + i) = wl G.2.1 (LF G) (G.2.1 + i)) : Ct l G mX10_begin 1 24 [.ref (G.2.1 + 32)] n k w (none, n, k, (va_up w (G.2.1 + 33) (ai G 26100 (upd (upd (upd (sx 256) (3 : Int32).toNatClampNeg 1) (4 : Int32).toNatClampNeg 0) (17 : Int32).toNatClampNeg 0)))) := by
  refine Ct.of (by decide) (Nat.le_of_ble_eq_true rfl) ⟨Nat.le_refl _, Nat.le_refl _⟩ ?_
  show Go l G mX10_begin _ 0 [(0, .ref (G.2.1 + 32))] [] n k w
  refine go_aload_n (pc := 0) dX10_begin_0 rfl rfl ?_
  refine go_get (pc := 1) fX10_9 rfl (gz_b (by omega)) ((hw 32 (by decide) (by decide)).trans (wl_at (i := 32) rfl)) rfl dX10_begin_1 ?_
  refine go_iconst (pc := 4) (v := 3) dX10_begin_4 (by decide) ?_
  refine go_iconst (pc := 5) (v := 1) dX10_begin_5 (by decide) ?_
  refine go_iast (pc := 6) (gz_b (by omega)) ((hw 33 (by decide) (by decide)).trans (wl_at (i := 33) rfl)) (gv_in (by decide)) dX10_begin_6 ?_
  refine go_aload_n (pc := 7) dX10_begin_7 rfl rfl ?_
  refine go_get (pc := 8) fX10_9 rfl (gz_b (by omega)) ((va_up_ne _ _ (gz_ne (by decide))).trans ((hw 32 (by decide) (by decide)).trans (wl_at (i := 32) rfl))) rfl dX10_begin_8 ?_
  refine go_iconst (pc := 11) (v := 4) dX10_begin_11 (by decide) ?_
  refine go_iconst (pc := 12) (v := 0) dX10_begin_12 (by decide) ?_
  refine go_iast (pc := 13) (gz_b (by omega)) (va_up_self _ _ _) (gv_in (by decide)) dX10_begin_13 ?_
  refine go_w (va_up_up _ _ _ _) ?_
  refine go_aload_n (pc := 14) dX10_begin_14 rfl rfl ?_
  refine go_get (pc := 15) fX10_9 rfl (gz_b (by omega)) ((va_up_ne _ _ (gz_ne (by decide))).trans ((hw 32 (by decide) (by decide)).trans (wl_at (i := 32) rfl))) rfl dX10_begin_15 ?_
  refine go_bipush (pc := 18) (v := 17) dX10_begin_18 (by decide) ?_
  refine go_iconst (pc := 20) (v := 0) dX10_begin_20 (by decide) ?_
  refine go_iast (pc := 21) (gz_b (by omega)) (va_up_self _ _ _) (gv_in (by decide)) dX10_begin_21 ?_
  refine go_w (va_up_up _ _ _ _) ?_
  refine go_iconst (pc := 22) (v := 0) dX10_begin_22 (by decide) ?_
  refine go_istore_n (pc := 23) (lv' := [(1, .int 0), (0, .ref (G.2.1 + 32))]) dX10_begin_23 rfl (by decide) rfl ?_
  refine go_iload_n (pc := 24) dX10_begin_24 rfl rfl ?_
  refine go_bipush (pc := 25) (v := 24) dX10_begin_25 (by decide) ?_
  refine go_icmp_ge_f (pc := 27) (tgt := 52) dX10_begin_27 (by decide) (by decide) ?_
  refine go_aload_n (pc := 30) dX10_begin_30 rfl rfl ?_
  refine go_aload_n (pc := 31) dX10_begin_31 rfl rfl ?_
  refine go_get (pc := 32) fX10_9 rfl (gz_b (by omega)) ((va_up_ne _ _ (gz_ne (by decide))).trans ((hw 32 (by decide) (by decide)).trans (wl_at (i := 32) rfl))) rfl dX10_begin_32 ?_
  refine go_bipush (pc := 35) (v := 20) dX10_begin_35 (by decide) ?_
  refine go_iload_n (pc := 37) dX10_begin_37 rfl rfl ?_
  refine go_iadd (pc := 38) dX10_begin_38 ?_
  refine go_top (y := 20) (by decide) ?_
  refine go_iald (pc := 39) (gz_b (by omega)) (va_up_self _ _ _) (gv_in (by decide)) dX10_begin_39 ?_
  refine go_top (y := (-1)) rfl ?_
  refine go_iconst (pc := 40) (v := 0) dX10_begin_40 (by decide) ?_
  refine go_iload_n (pc := 41) dX10_begin_41 rfl rfl ?_
  refine go_iconst (pc := 42) (v := (-1)) dX10_begin_42 (by decide) ?_
  refine go_callV_v (pc := 43) vX10_86 rfl (cX10_mark_25 hn hw) rfl rfl (gz_b (by omega)) ((va_up_ne _ _ (gz_ne (by decide))).trans ((hw 32 (by decide) (by decide)).trans (wl_at (i := 32) rfl))) rfl (Nat.le_of_ble_eq_true rfl) ⟨Nat.le_of_ble_eq_true rfl, Nat.le_of_ble_eq_true rfl, (Nat.le_add_right _ _), (Nat.le_add_right _ _)⟩ dX10_begin_43 ?_
  refine go_iinc (pc := 46) (v := 1) (lv' := [(1, .int 1), (0, .ref (G.2.1 + 32))]) dX10_begin_46 0 rfl (by first | rfl | decide) (by decide) rfl ?_
  refine go_goto (pc := 49) (tgt := 24) dX10_begin_49 (by decide) ?_
  refine go_iload_n (pc := 24) dX10_begin_24 rfl rfl ?_
  refine go_bipush (pc := 25) (v := 24) dX10_begin_25 (by decide) ?_
  refine go_icmp_ge_f (pc := 27) (tgt := 52) dX10_begin_27 (by decide) (by decide) ?_
  refine go_aload_n (pc := 30) dX10_begin_30 rfl rfl ?_
  refine go_aload_n (pc := 31) dX10_begin_31 rfl rfl ?_
  refine go_get (pc := 32) fX10_9 rfl (gz_b (by omega)) ((va_up_ne _ _ (gz_ne (by decide))).trans ((hw 32 (by decide) (by decide)).trans (wl_at (i := 32) rfl))) rfl dX10_begin_32 ?_
  refine go_bipush (pc := 35) (v := 20) dX10_begin_35 (by decide) ?_
  refine go_iload_n (pc := 37) dX10_begin_37 rfl rfl ?_
  refine go_iadd (pc := 38) dX10_begin_38 ?_
  refine go_top (y := 21) (by decide) ?_
  refine go_iald (pc := 39) (gz_b (by omega)) (va_up_self _ _ _) (gv_in (by decide)) dX10_begin_39 ?_
  refine go_top (y := (-1)) rfl ?_
  refine go_iconst (pc := 40) (v := 0) dX10_begin_40 (by decide) ?_
  refine go_iload_n (pc := 41) dX10_begin_41 rfl rfl ?_
  refine go_iconst (pc := 42) (v := (-1)) dX10_begin_42 (by decide) ?_
  refine go_callV_v (pc := 43) vX10_86 rfl (cX10_mark_26 hn hw) rfl rfl (gz_b (by omega)) ((va_up_ne _ _ (gz_ne (by decide))).trans ((hw 32 (by decide) (by decide)).trans (wl_at (i := 32) rfl))) rfl (Nat.le_of_ble_eq_true rfl) ⟨Nat.le_of_ble_eq_true rfl, Nat.le_of_ble_eq_true rfl, (Nat.le_add_right _ _), (Nat.le_add_right _ _)⟩ dX10_begin_43 ?_
  refine go_iinc (pc := 46) (v := 2) (lv' := [(1, .int 2), (0, .ref (G.2.1 + 32))]) dX10_begin_46 0 rfl (by first | rfl | decide) (by decide) rfl ?_
  refine go_goto (pc := 49) (tgt := 24) dX10_begin_49 (by decide) ?_
  refine go_iload_n (pc := 24) dX10_begin_24 rfl rfl ?_
  refine go_bipush (pc := 25) (v := 24) dX10_begin_25 (by decide) ?_
  refine go_icmp_ge_f (pc := 27) (tgt := 52) dX10_begin_27 (by decide) (by decide) ?_
  refine go_aload_n (pc := 30) dX10_begin_30 rfl rfl ?_
  refine go_aload_n (pc := 31) dX10_begin_31 rfl rfl ?_
  refine go_get (pc := 32) fX10_9 rfl (gz_b (by omega)) ((va_up_ne _ _ (gz_ne (by decide))).trans ((hw 32 (by decide) (by decide)).trans (wl_at (i := 32) rfl))) rfl dX10_begin_32 ?_
  refine go_bipush (pc := 35) (v := 20) dX10_begin_35 (by decide) ?_
  refine go_iload_n (pc := 37) dX10_begin_37 rfl rfl ?_
  refine go_iadd (pc := 38) dX10_begin_38 ?_
  refine go_top (y := 22) (by decide) ?_
  refine go_iald (pc := 39) (gz_b (by omega)) (va_up_self _ _ _) (gv_in (by decide)) dX10_begin_39 ?_
  refine go_top (y := (-1)) rfl ?_
  refine go_iconst (pc := 40) (v := 0) dX10_begin_40 (by decide) ?_
  refine go_iload_n (pc := 41) dX10_begin_41 rfl rfl ?_
  refine go_iconst (pc := 42) (v := (-1)) dX10_begin_42 (by decide) ?_
  refine go_callV_v (pc := 43) vX10_86 rfl (cX10_mark_27 hn hw) rfl rfl (gz_b (by omega)) ((va_up_ne _ _ (gz_ne (by decide))).trans ((hw 32 (by decide) (by decide)).trans (wl_at (i := 32) rfl))) rfl (Nat.le_of_ble_eq_true rfl) ⟨Nat.le_of_ble_eq_true rfl, Nat.le_of_ble_eq_true rfl, (Nat.le_add_right _ _), (Nat.le_add_right _ _)⟩ dX10_begin_43 ?_
  refine go_iinc (pc := 46) (v := 3) (lv' := [(1, .int 3), (0, .ref (G.2.1 + 32))]) dX10_begin_46 0 rfl (by first | rfl | decide) (by decide) rfl ?_
  refine go_goto (pc := 49) (tgt := 24) dX10_begin_49 (by decide) ?_
  refine go_iload_n (pc := 24) dX10_begin_24 rfl rfl ?_
  refine go_bipush (pc := 25) (v := 24) dX10_begin_25 (by decide) ?_
  refine go_icmp_ge_f (pc := 27) (tgt := 52) dX10_begin_27 (by decide) (by decide) ?_
  refine go_aload_n (pc := 30) dX10_begin_30 rfl rfl ?_
  refine go_aload_n (pc := 31) dX10_begin_31 rfl rfl ?_
  refine go_get (pc := 32) fX10_9 rfl (gz_b (by omega)) ((va_up_ne _ _ (gz_ne (by decide))).trans ((hw 32 (by decide) (by decide)).trans (wl_at (i := 32) rfl))) rfl dX10_begin_32 ?_
  refine go_bipush (pc := 35) (v := 20) dX10_begin_35 (by decide) ?_
  refine go_iload_n (pc := 37) dX10_begin_37 rfl rfl ?_
  refine go_iadd (pc := 38) dX10_begin_38 ?_
  refine go_top (y := 23) (by decide) ?_
  refine go_iald (pc := 39) (gz_b (by omega)) (va_up_self _ _ _) (gv_in (by decide)) dX10_begin_39 ?_
  refine go_top (y := (-1)) rfl ?_
  refine go_iconst (pc := 40) (v := 0) dX10_begin_40 (by decide) ?_
  refine go_iload_n (pc := 41) dX10_begin_41 rfl rfl ?_
  refine go_iconst (pc := 42) (v := (-1)) dX10_begin_42 (by decide) ?_
  refine go_callV_v (pc := 43) vX10_86 rfl (cX10_mark_28 hn hw) rfl rfl (gz_b (by omega)) ((va_up_ne _ _ (gz_ne (by decide))).trans ((hw 32 (by decide) (by decide)).trans (wl_at (i := 32) rfl))) rfl (Nat.le_of_ble_eq_true rfl) ⟨Nat.le_of_ble_eq_true rfl, Nat.le_of_ble_eq_true rfl, (Nat.le_add_right _ _), (Nat.le_add_right _ _)⟩ dX10_begin_43 ?_
  refine go_iinc (pc := 46) (v := 4) (lv' := [(1, .int 4), (0, .ref (G.2.1 + 32))]) dX10_begin_46 0 rfl (by first | rfl | decide) (by decide) rfl ?_
  refine go_goto (pc := 49) (tgt := 24) dX10_begin_49 (by decide) ?_
  refine go_iload_n (pc := 24) dX10_begin_24 rfl rfl ?_
  refine go_bipush (pc := 25) (v := 24) dX10_begin_25 (by decide) ?_
  refine go_icmp_ge_f (pc := 27) (tgt := 52) dX10_begin_27 (by decide) (by decide) ?_
  refine go_aload_n (pc := 30) dX10_begin_30 rfl rfl ?_
  refine go_aload_n (pc := 31) dX10_begin_31 rfl rfl ?_
  refine go_get (pc := 32) fX10_9 rfl (gz_b (by omega)) ((va_up_ne _ _ (gz_ne (by decide))).trans ((hw 32 (by decide) (by decide)).trans (wl_at (i := 32) rfl))) rfl dX10_begin_32 ?_
  refine go_bipush (pc := 35) (v := 20) dX10_begin_35 (by decide) ?_
  refine go_iload_n (pc := 37) dX10_begin_37 rfl rfl ?_
  refine go_iadd (pc := 38) dX10_begin_38 ?_
  refine go_top (y := 24) (by decide) ?_
  refine go_iald (pc := 39) (gz_b (by omega)) (va_up_self _ _ _) (gv_in (by decide)) dX10_begin_39 ?_
  refine go_top (y := (-1)) rfl ?_
  refine go_iconst (pc := 40) (v := 0) dX10_begin_40 (by decide) ?_
  refine go_iload_n (pc := 41) dX10_begin_41 rfl rfl ?_
  refine go_iconst (pc := 42) (v := (-1)) dX10_begin_42 (by decide) ?_
  refine go_callV_v (pc := 43) vX10_86 rfl (cX10_mark_29 hn hw) rfl rfl (gz_b (by omega)) ((va_up_ne _ _ (gz_ne (by decide))).trans ((hw 32 (by decide) (by decide)).trans (wl_at (i := 32) rfl))) rfl (Nat.le_of_ble_eq_true rfl) ⟨Nat.le_of_ble_eq_true rfl, Nat.le_of_ble_eq_true rfl, (Nat.le_add_right _ _), (Nat.le_add_right _ _)⟩ dX10_begin_43 ?_
  refine go_iinc (pc := 46) (v := 5) (lv' := [(1, .int 5), (0, .ref (G.2.1 + 32))]) dX10_begin_46 0 rfl (by first | rfl | decide) (by decide) rfl ?_
  refine go_goto (pc := 49) (tgt := 24) dX10_begin_49 (by decide) ?_
  refine go_iload_n (pc := 24) dX10_begin_24 rfl rfl ?_
  refine go_bipush (pc := 25) (v := 24) dX10_begin_25 (by decide) ?_
  refine go_icmp_ge_f (pc := 27) (tgt := 52) dX10_begin_27 (by decide) (by decide) ?_
  refine go_aload_n (pc := 30) dX10_begin_30 rfl rfl ?_
  refine go_aload_n (pc := 31) dX10_begin_31 rfl rfl ?_
  refine go_get (pc := 32) fX10_9 rfl (gz_b (by omega)) ((va_up_ne _ _ (gz_ne (by decide))).trans ((hw 32 (by decide) (by decide)).trans (wl_at (i := 32) rfl))) rfl dX10_begin_32 ?_
  refine go_bipush (pc := 35) (v := 20) dX10_begin_35 (by decide) ?_
  refine go_iload_n (pc := 37) dX10_begin_37 rfl rfl ?_
  refine go_iadd (pc := 38) dX10_begin_38 ?_
  refine go_top (y := 25) (by decide) ?_
  refine go_iald (pc := 39) (gz_b (by omega)) (va_up_self _ _ _) (gv_in (by decide)) dX10_begin_39 ?_
  refine go_top (y := (-1)) rfl ?_
  refine go_iconst (pc := 40) (v := 0) dX10_begin_40 (by decide) ?_
  refine go_iload_n (pc := 41) dX10_begin_41 rfl rfl ?_
  refine go_iconst (pc := 42) (v := (-1)) dX10_begin_42 (by decide) ?_
  refine go_callV_v (pc := 43) vX10_86 rfl (cX10_mark_30 hn hw) rfl rfl (gz_b (by omega)) ((va_up_ne _ _ (gz_ne (by decide))).trans ((hw 32 (by decide) (by decide)).trans (wl_at (i := 32) rfl))) rfl (Nat.le_of_ble_eq_true rfl) ⟨Nat.le_of_ble_eq_true rfl, Nat.le_of_ble_eq_true rfl, (Nat.le_add_right _ _), (Nat.le_add_right _ _)⟩ dX10_begin_43 ?_
  refine go_iinc (pc := 46) (v := 6) (lv' := [(1, .int 6), (0, .ref (G.2.1 + 32))]) dX10_begin_46 0 rfl (by first | rfl | decide) (by decide) rfl ?_
  refine go_goto (pc := 49) (tgt := 24) dX10_begin_49 (by decide) ?_
  refine go_iload_n (pc := 24) dX10_begin_24 rfl rfl ?_
  refine go_bipush (pc := 25) (v := 24) dX10_begin_25 (by decide) ?_
  refine go_icmp_ge_f (pc := 27) (tgt := 52) dX10_begin_27 (by decide) (by decide) ?_
  refine go_aload_n (pc := 30) dX10_begin_30 rfl rfl ?_
  refine go_aload_n (pc := 31) dX10_begin_31 rfl rfl ?_
  refine go_get (pc := 32) fX10_9 rfl (gz_b (by omega)) ((va_up_ne _ _ (gz_ne (by decide))).trans ((hw 32 (by decide) (by decide)).trans (wl_at (i := 32) rfl))) rfl dX10_begin_32 ?_
  refine go_bipush (pc := 35) (v := 20) dX10_begin_35 (by decide) ?_
  refine go_iload_n (pc := 37) dX10_begin_37 rfl rfl ?_
  refine go_iadd (pc := 38) dX10_begin_38 ?_
  refine go_top (y := 26) (by decide) ?_
  refine go_iald (pc := 39) (gz_b (by omega)) (va_up_self _ _ _) (gv_in (by decide)) dX10_begin_39 ?_
  refine go_top (y := (-1)) rfl ?_
  refine go_iconst (pc := 40) (v := 0) dX10_begin_40 (by decide) ?_
  refine go_iload_n (pc := 41) dX10_begin_41 rfl rfl ?_
  refine go_iconst (pc := 42) (v := (-1)) dX10_begin_42 (by decide) ?_
  refine go_callV_v (pc := 43) vX10_86 rfl (cX10_mark_31 hn hw) rfl rfl (gz_b (by omega)) ((va_up_ne _ _ (gz_ne (by decide))).trans ((hw 32 (by decide) (by decide)).trans (wl_at (i := 32) rfl))) rfl (Nat.le_of_ble_eq_true rfl) ⟨Nat.le_of_ble_eq_true rfl, Nat.le_of_ble_eq_true rfl, (Nat.le_add_right _ _), (Nat.le_add_right _ _)⟩ dX10_begin_43 ?_
  refine go_iinc (pc := 46) (v := 7) (lv' := [(1, .int 7), (0, .ref (G.2.1 + 32))]) dX10_begin_46 0 rfl (by first | rfl | decide) (by decide) rfl ?_
  refine go_goto (pc := 49) (tgt := 24) dX10_begin_49 (by decide) ?_
  refine go_iload_n (pc := 24) dX10_begin_24 rfl rfl ?_
  refine go_bipush (pc := 25) (v := 24) dX10_begin_25 (by decide) ?_
  refine go_icmp_ge_f (pc := 27) (tgt := 52) dX10_begin_27 (by decide) (by decide) ?_
  refine go_aload_n (pc := 30) dX10_begin_30 rfl rfl ?_
  refine go_aload_n (pc := 31) dX10_begin_31 rfl rfl ?_
  refine go_get (pc := 32) fX10_9 rfl (gz_b (by omega)) ((va_up_ne _ _ (gz_ne (by decide))).trans ((hw 32 (by decide) (by decide)).trans (wl_at (i := 32) rfl))) rfl dX10_begin_32 ?_
  refine go_bipush (pc := 35) (v := 20) dX10_begin_35 (by decide) ?_
  refine go_iload_n (pc := 37) dX10_begin_37 rfl rfl ?_
  refine go_iadd (pc := 38) dX10_begin_38 ?_
  refine go_top (y := 27) (by decide) ?_
  refine go_iald (pc := 39) (gz_b (by omega)) (va_up_self _ _ _) (gv_in (by decide)) dX10_begin_39 ?_
  refine go_top (y := (-1)) rfl ?_
  refine go_iconst (pc := 40) (v := 0) dX10_begin_40 (by decide) ?_
  refine go_iload_n (pc := 41) dX10_begin_41 rfl rfl ?_
  refine go_iconst (pc := 42) (v := (-1)) dX10_begin_42 (by decide) ?_
  refine go_callV_v (pc := 43) vX10_86 rfl (cX10_mark_32 hn hw) rfl rfl (gz_b (by omega)) ((va_up_ne _ _ (gz_ne (by decide))).trans ((hw 32 (by decide) (by decide)).trans (wl_at (i := 32) rfl))) rfl (Nat.le_of_ble_eq_true rfl) ⟨Nat.le_of_ble_eq_true rfl, Nat.le_of_ble_eq_true rfl, (Nat.le_add_right _ _), (Nat.le_add_right _ _)⟩ dX10_begin_43 ?_
  refine go_iinc (pc := 46) (v := 8) (lv' := [(1, .int 8), (0, .ref (G.2.1 + 32))]) dX10_begin_46 0 rfl (by first | rfl | decide) (by decide) rfl ?_
  refine go_goto (pc := 49) (tgt := 24) dX10_begin_49 (by decide) ?_
  refine go_iload_n (pc := 24) dX10_begin_24 rfl rfl ?_
  refine go_bipush (pc := 25) (v := 24) dX10_begin_25 (by decide) ?_
  refine go_icmp_ge_f (pc := 27) (tgt := 52) dX10_begin_27 (by decide) (by decide) ?_
  refine go_aload_n (pc := 30) dX10_begin_30 rfl rfl ?_
  refine go_aload_n (pc := 31) dX10_begin_31 rfl rfl ?_
  refine go_get (pc := 32) fX10_9 rfl (gz_b (by omega)) ((va_up_ne _ _ (gz_ne (by decide))).trans ((hw 32 (by decide) (by decide)).trans (wl_at (i := 32) rfl))) rfl dX10_begin_32 ?_
  refine go_bipush (pc := 35) (v := 20) dX10_begin_35 (by decide) ?_
  refine go_iload_n (pc := 37) dX10_begin_37 rfl rfl ?_
  refine go_iadd (pc := 38) dX10_begin_38 ?_
  refine go_top (y := 28) (by decide) ?_
  refine go_iald (pc := 39) (gz_b (by omega)) (va_up_self _ _ _) (gv_in (by decide)) dX10_begin_39 ?_
  refine go_top (y := (-1)) rfl ?_
  refine go_iconst (pc := 40) (v := 0) dX10_begin_40 (by decide) ?_
  refine go_iload_n (pc := 41) dX10_begin_41 rfl rfl ?_
  refine go_iconst (pc := 42) (v := (-1)) dX10_begin_42 (by decide) ?_
  refine go_callV_v (pc := 43) vX10_86 rfl (cX10_mark_33 hn hw) rfl rfl (gz_b (by omega)) ((va_up_ne _ _ (gz_ne (by decide))).trans ((hw 32 (by decide) (by decide)).trans (wl_at (i := 32) rfl))) rfl (Nat.le_of_ble_eq_true rfl) ⟨Nat.le_of_ble_eq_true rfl, Nat.le_of_ble_eq_true rfl, (Nat.le_add_right _ _), (Nat.le_add_right _ _)⟩ dX10_begin_43 ?_
  refine go_iinc (pc := 46) (v := 9) (lv' := [(1, .int 9), (0, .ref (G.2.1 + 32))]) dX10_begin_46 0 rfl (by first | rfl | decide) (by decide) rfl ?_
  refine go_goto (pc := 49) (tgt := 24) dX10_begin_49 (by decide) ?_
  refine go_iload_n (pc := 24) dX10_begin_24 rfl rfl ?_
  refine go_bipush (pc := 25) (v := 24) dX10_begin_25 (by decide) ?_
  refine go_icmp_ge_f (pc := 27) (tgt := 52) dX10_begin_27 (by decide) (by decide) ?_
  refine go_aload_n (pc := 30) dX10_begin_30 rfl rfl ?_
  refine go_aload_n (pc := 31) dX10_begin_31 rfl rfl ?_
  refine go_get (pc := 32) fX10_9 rfl (gz_b (by omega)) ((va_up_ne _ _ (gz_ne (by decide))).trans ((hw 32 (by decide) (by decide)).trans (wl_at (i := 32) rfl))) rfl dX10_begin_32 ?_
  refine go_bipush (pc := 35) (v := 20) dX10_begin_35 (by decide) ?_
  refine go_iload_n (pc := 37) dX10_begin_37 rfl rfl ?_
  refine go_iadd (pc := 38) dX10_begin_38 ?_
  refine go_top (y := 29) (by decide) ?_
  refine go_iald (pc := 39) (gz_b (by omega)) (va_up_self _ _ _) (gv_in (by decide)) dX10_begin_39 ?_
  refine go_top (y := (-1)) rfl ?_
  refine go_iconst (pc := 40) (v := 0) dX10_begin_40 (by decide) ?_
  refine go_iload_n (pc := 41) dX10_begin_41 rfl rfl ?_
  refine go_iconst (pc := 42) (v := (-1)) dX10_begin_42 (by decide) ?_
  refine go_callV_v (pc := 43) vX10_86 rfl (cX10_mark_34 hn hw) rfl rfl (gz_b (by omega)) ((va_up_ne _ _ (gz_ne (by decide))).trans ((hw 32 (by decide) (by decide)).trans (wl_at (i := 32) rfl))) rfl (Nat.le_of_ble_eq_true rfl) ⟨Nat.le_of_ble_eq_true rfl, Nat.le_of_ble_eq_true rfl, (Nat.le_add_right _ _), (Nat.le_add_right _ _)⟩ dX10_begin_43 ?_
  refine go_iinc (pc := 46) (v := 10) (lv' := [(1, .int 10), (0, .ref (G.2.1 + 32))]) dX10_begin_46 0 rfl (by first | rfl | decide) (by decide) rfl ?_
  refine go_goto (pc := 49) (tgt := 24) dX10_begin_49 (by decide) ?_
  refine go_iload_n (pc := 24) dX10_begin_24 rfl rfl ?_
  refine go_bipush (pc := 25) (v := 24) dX10_begin_25 (by decide) ?_
  refine go_icmp_ge_f (pc := 27) (tgt := 52) dX10_begin_27 (by decide) (by decide) ?_
  refine go_aload_n (pc := 30) dX10_begin_30 rfl rfl ?_
  refine go_aload_n (pc := 31) dX10_begin_31 rfl rfl ?_
  refine go_get (pc := 32) fX10_9 rfl (gz_b (by omega)) ((va_up_ne _ _ (gz_ne (by decide))).trans ((hw 32 (by decide) (by decide)).trans (wl_at (i := 32) rfl))) rfl dX10_begin_32 ?_
  refine go_bipush (pc := 35) (v := 20) dX10_begin_35 (by decide) ?_
  refine go_iload_n (pc := 37) dX10_begin_37 rfl rfl ?_
  refine go_iadd (pc := 38) dX10_begin_38 ?_
  refine go_top (y := 30) (by decide) ?_
  refine go_iald (pc := 39) (gz_b (by omega)) (va_up_self _ _ _) (gv_in (by decide)) dX10_begin_39 ?_
  refine go_top (y := (-1)) rfl ?_
  refine go_iconst (pc := 40) (v := 0) dX10_begin_40 (by decide) ?_
  refine go_iload_n (pc := 41) dX10_begin_41 rfl rfl ?_
  refine go_iconst (pc := 42) (v := (-1)) dX10_begin_42 (by decide) ?_
  refine go_callV_v (pc := 43) vX10_86 rfl (cX10_mark_35 hn hw) rfl rfl (gz_b (by omega)) ((va_up_ne _ _ (gz_ne (by decide))).trans ((hw 32 (by decide) (by decide)).trans (wl_at (i := 32) rfl))) rfl (Nat.le_of_ble_eq_true rfl) ⟨Nat.le_of_ble_eq_true rfl, Nat.le_of_ble_eq_true rfl, (Nat.le_add_right _ _), (Nat.le_add_right _ _)⟩ dX10_begin_43 ?_
  refine go_iinc (pc := 46) (v := 11) (lv' := [(1, .int 11), (0, .ref (G.2.1 + 32))]) dX10_begin_46 0 rfl (by first | rfl | decide) (by decide) rfl ?_
  refine go_goto (pc := 49) (tgt := 24) dX10_begin_49 (by decide) ?_
  refine go_iload_n (pc := 24) dX10_begin_24 rfl rfl ?_
  refine go_bipush (pc := 25) (v := 24) dX10_begin_25 (by decide) ?_
  refine go_icmp_ge_f (pc := 27) (tgt := 52) dX10_begin_27 (by decide) (by decide) ?_
  refine go_aload_n (pc := 30) dX10_begin_30 rfl rfl ?_
  refine go_aload_n (pc := 31) dX10_begin_31 rfl rfl ?_
  refine go_get (pc := 32) fX10_9 rfl (gz_b (by omega)) ((va_up_ne _ _ (gz_ne (by decide))).trans ((hw 32 (by decide) (by decide)).trans (wl_at (i := 32) rfl))) rfl dX10_begin_32 ?_
  refine go_bipush (pc := 35) (v := 20) dX10_begin_35 (by decide) ?_
  refine go_iload_n (pc := 37) dX10_begin_37 rfl rfl ?_
  refine go_iadd (pc := 38) dX10_begin_38 ?_
  refine go_top (y := 31) (by decide) ?_
  refine go_iald (pc := 39) (gz_b (by omega)) (va_up_self _ _ _) (gv_in (by decide)) dX10_begin_39 ?_
  refine go_top (y := (-1)) rfl ?_
  refine go_iconst (pc := 40) (v := 0) dX10_begin_40 (by decide) ?_
  refine go_iload_n (pc := 41) dX10_begin_41 rfl rfl ?_
  refine go_iconst (pc := 42) (v := (-1)) dX10_begin_42 (by decide) ?_
  refine go_callV_v (pc := 43) vX10_86 rfl (cX10_mark_36 hn hw) rfl rfl (gz_b (by omega)) ((va_up_ne _ _ (gz_ne (by decide))).trans ((hw 32 (by decide) (by decide)).trans (wl_at (i := 32) rfl))) rfl (Nat.le_of_ble_eq_true rfl) ⟨Nat.le_of_ble_eq_true rfl, Nat.le_of_ble_eq_true rfl, (Nat.le_add_right _ _), (Nat.le_add_right _ _)⟩ dX10_begin_43 ?_
  refine go_iinc (pc := 46) (v := 12) (lv' := [(1, .int 12), (0, .ref (G.2.1 + 32))]) dX10_begin_46 0 rfl (by first | rfl | decide) (by decide) rfl ?_
  refine go_goto (pc := 49) (tgt := 24) dX10_begin_49 (by decide) ?_
  refine go_iload_n (pc := 24) dX10_begin_24 rfl rfl ?_
  refine go_bipush (pc := 25) (v := 24) dX10_begin_25 (by decide) ?_
  refine go_icmp_ge_f (pc := 27) (tgt := 52) dX10_begin_27 (by decide) (by decide) ?_
  refine go_aload_n (pc := 30) dX10_begin_30 rfl rfl ?_
  refine go_aload_n (pc := 31) dX10_begin_31 rfl rfl ?_
  refine go_get (pc := 32) fX10_9 rfl (gz_b (by omega)) ((va_up_ne _ _ (gz_ne (by decide))).trans ((hw 32 (by decide) (by decide)).trans (wl_at (i := 32) rfl))) rfl dX10_begin_32 ?_
  refine go_bipush (pc := 35) (v := 20) dX10_begin_35 (by decide) ?_
  refine go_iload_n (pc := 37) dX10_begin_37 rfl rfl ?_
  refine go_iadd (pc := 38) dX10_begin_38 ?_
  refine go_top (y := 32) (by decide) ?_
  refine go_iald (pc := 39) (gz_b (by omega)) (va_up_self _ _ _) (gv_in (by decide)) dX10_begin_39 ?_
  refine go_top (y := (-1)) rfl ?_
  refine go_iconst (pc := 40) (v := 0) dX10_begin_40 (by decide) ?_
  refine go_iload_n (pc := 41) dX10_begin_41 rfl rfl ?_
  refine go_iconst (pc := 42) (v := (-1)) dX10_begin_42 (by decide) ?_
  refine go_callV_v (pc := 43) vX10_86 rfl (cX10_mark_37 hn hw) rfl rfl (gz_b (by omega)) ((va_up_ne _ _ (gz_ne (by decide))).trans ((hw 32 (by decide) (by decide)).trans (wl_at (i := 32) rfl))) rfl (Nat.le_of_ble_eq_true rfl) ⟨Nat.le_of_ble_eq_true rfl, Nat.le_of_ble_eq_true rfl, (Nat.le_add_right _ _), (Nat.le_add_right _ _)⟩ dX10_begin_43 ?_
  refine go_iinc (pc := 46) (v := 13) (lv' := [(1, .int 13), (0, .ref (G.2.1 + 32))]) dX10_begin_46 0 rfl (by first | rfl | decide) (by decide) rfl ?_
  refine go_goto (pc := 49) (tgt := 24) dX10_begin_49 (by decide) ?_
  refine go_iload_n (pc := 24) dX10_begin_24 rfl rfl ?_
  refine go_bipush (pc := 25) (v := 24) dX10_begin_25 (by decide) ?_
  refine go_icmp_ge_f (pc := 27) (tgt := 52) dX10_begin_27 (by decide) (by decide) ?_
  refine go_aload_n (pc := 30) dX10_begin_30 rfl rfl ?_
  refine go_aload_n (pc := 31) dX10_begin_31 rfl rfl ?_
  refine go_get (pc := 32) fX10_9 rfl (gz_b (by omega)) ((va_up_ne _ _ (gz_ne (by decide))).trans ((hw 32 (by decide) (by decide)).trans (wl_at (i := 32) rfl))) rfl dX10_begin_32 ?_
  refine go_bipush (pc := 35) (v := 20) dX10_begin_35 (by decide) ?_
  refine go_iload_n (pc := 37) dX10_begin_37 rfl rfl ?_
  refine go_iadd (pc := 38) dX10_begin_38 ?_
  refine go_top (y := 33) (by decide) ?_
  refine go_iald (pc := 39) (gz_b (by omega)) (va_up_self _ _ _) (gv_in (by decide)) dX10_begin_39 ?_
  refine go_top (y := (-1)) rfl ?_
  refine go_iconst (pc := 40) (v := 0) dX10_begin_40 (by decide) ?_
  refine go_iload_n (pc := 41) dX10_begin_41 rfl rfl ?_
  refine go_iconst (pc := 42) (v := (-1)) dX10_begin_42 (by decide) ?_
  refine go_callV_v (pc := 43) vX10_86 rfl (cX10_mark_38 hn hw) rfl rfl (gz_b (by omega)) ((va_up_ne _ _ (gz_ne (by decide))).trans ((hw 32 (by decide) (by decide)).trans (wl_at (i := 32) rfl))) rfl (Nat.le_of_ble_eq_true rfl) ⟨Nat.le_of_ble_eq_true rfl, Nat.le_of_ble_eq_true rfl, (Nat.le_add_right _ _), (Nat.le_add_right _ _)⟩ dX10_begin_43 ?_
  refine go_iinc (pc := 46) (v := 14) (lv' := [(1, .int 14), (0, .ref (G.2.1 + 32))]) dX10_begin_46 0 rfl (by first | rfl | decide) (by decide) rfl ?_
  refine go_goto (pc := 49) (tgt := 24) dX10_begin_49 (by decide) ?_
  refine go_iload_n (pc := 24) dX10_begin_24 rfl rfl ?_
  refine go_bipush (pc := 25) (v := 24) dX10_begin_25 (by decide) ?_
  refine go_icmp_ge_f (pc := 27) (tgt := 52) dX10_begin_27 (by decide) (by decide) ?_
  refine go_aload_n (pc := 30) dX10_begin_30 rfl rfl ?_
  refine go_aload_n (pc := 31) dX10_begin_31 rfl rfl ?_
  refine go_get (pc := 32) fX10_9 rfl (gz_b (by omega)) ((va_up_ne _ _ (gz_ne (by decide))).trans ((hw 32 (by decide) (by decide)).trans (wl_at (i := 32) rfl))) rfl dX10_begin_32 ?_
  refine go_bipush (pc := 35) (v := 20) dX10_begin_35 (by decide) ?_
  refine go_iload_n (pc := 37) dX10_begin_37 rfl rfl ?_
  refine go_iadd (pc := 38) dX10_begin_38 ?_
  refine go_top (y := 34) (by decide) ?_
  refine go_iald (pc := 39) (gz_b (by omega)) (va_up_self _ _ _) (gv_in (by decide)) dX10_begin_39 ?_
  refine go_top (y := (-1)) rfl ?_
  refine go_iconst (pc := 40) (v := 0) dX10_begin_40 (by decide) ?_
  refine go_iload_n (pc := 41) dX10_begin_41 rfl rfl ?_
  refine go_iconst (pc := 42) (v := (-1)) dX10_begin_42 (by decide) ?_
  refine go_callV_v (pc := 43) vX10_86 rfl (cX10_mark_39 hn hw) rfl rfl (gz_b (by omega)) ((va_up_ne _ _ (gz_ne (by decide))).trans ((hw 32 (by decide) (by decide)).trans (wl_at (i := 32) rfl))) rfl (Nat.le_of_ble_eq_true rfl) ⟨Nat.le_of_ble_eq_true rfl, Nat.le_of_ble_eq_true rfl, (Nat.le_add_right _ _), (Nat.le_add_right _ _)⟩ dX10_begin_43 ?_
  refine go_iinc (pc := 46) (v := 15) (lv' := [(1, .int 15), (0, .ref (G.2.1 + 32))]) dX10_begin_46 0 rfl (by first | rfl | decide) (by decide) rfl ?_
  refine go_goto (pc := 49) (tgt := 24) dX10_begin_49 (by decide) ?_
  refine go_iload_n (pc := 24) dX10_begin_24 rfl rfl ?_
  refine go_bipush (pc := 25) (v := 24) dX10_begin_25 (by decide) ?_
  refine go_icmp_ge_f (pc := 27) (tgt := 52) dX10_begin_27 (by decide) (by decide) ?_
  refine go_aload_n (pc := 30) dX10_begin_30 rfl rfl ?_
  refine go_aload_n (pc := 31) dX10_begin_31 rfl rfl ?_
  refine go_get (pc := 32) fX10_9 rfl (gz_b (by omega)) ((va_up_ne _ _ (gz_ne (by decide))).trans ((hw 32 (by decide) (by decide)).trans (wl_at (i := 32) rfl))) rfl dX10_begin_32 ?_
  refine go_bipush (pc := 35) (v := 20) dX10_begin_35 (by decide) ?_
  refine go_iload_n (pc := 37) dX10_begin_37 rfl rfl ?_
  refine go_iadd (pc := 38) dX10_begin_38 ?_
  refine go_top (y := 35) (by decide) ?_
  refine go_iald (pc := 39) (gz_b (by omega)) (va_up_self _ _ _) (gv_in (by decide)) dX10_begin_39 ?_
  refine go_top (y := (-1)) rfl ?_
  refine go_iconst (pc := 40) (v := 0) dX10_begin_40 (by decide) ?_
  refine go_iload_n (pc := 41) dX10_begin_41 rfl rfl ?_
  refine go_iconst (pc := 42) (v := (-1)) dX10_begin_42 (by decide) ?_
  refine go_callV_v (pc := 43) vX10_86 rfl (cX10_mark_40 hn hw) rfl rfl (gz_b (by omega)) ((va_up_ne _ _ (gz_ne (by decide))).trans ((hw 32 (by decide) (by decide)).trans (wl_at (i := 32) rfl))) rfl (Nat.le_of_ble_eq_true rfl) ⟨Nat.le_of_ble_eq_true rfl, Nat.le_of_ble_eq_true rfl, (Nat.le_add_right _ _), (Nat.le_add_right _ _)⟩ dX10_begin_43 ?_
  refine go_iinc (pc := 46) (v := 16) (lv' := [(1, .int 16), (0, .ref (G.2.1 + 32))]) dX10_begin_46 0 rfl (by first | rfl | decide) (by decide) rfl ?_
  refine go_goto (pc := 49) (tgt := 24) dX10_begin_49 (by decide) ?_
  refine go_iload_n (pc := 24) dX10_begin_24 rfl rfl ?_
  refine go_bipush (pc := 25) (v := 24) dX10_begin_25 (by decide) ?_
  refine go_icmp_ge_f (pc := 27) (tgt := 52) dX10_begin_27 (by decide) (by decide) ?_
  refine go_aload_n (pc := 30) dX10_begin_30 rfl rfl ?_
  refine go_aload_n (pc := 31) dX10_begin_31 rfl rfl ?_
  refine go_get (pc := 32) fX10_9 rfl (gz_b (by omega)) ((va_up_ne _ _ (gz_ne (by decide))).trans ((hw 32 (by decide) (by decide)).trans (wl_at (i := 32) rfl))) rfl dX10_begin_32 ?_
  refine go_bipush (pc := 35) (v := 20) dX10_begin_35 (by decide) ?_
  refine go_iload_n (pc := 37) dX10_begin_37 rfl rfl ?_
  refine go_iadd (pc := 38) dX10_begin_38 ?_
  refine go_top (y := 36) (by decide) ?_
  refine go_iald (pc := 39) (gz_b (by omega)) (va_up_self _ _ _) (gv_in (by decide)) dX10_begin_39 ?_
  refine go_top (y := (-1)) rfl ?_
  refine go_iconst (pc := 40) (v := 0) dX10_begin_40 (by decide) ?_
  refine go_iload_n (pc := 41) dX10_begin_41 rfl rfl ?_
  refine go_iconst (pc := 42) (v := (-1)) dX10_begin_42 (by decide) ?_
  refine go_callV_v (pc := 43) vX10_86 rfl (cX10_mark_41 hn hw) rfl rfl (gz_b (by omega)) ((va_up_ne _ _ (gz_ne (by decide))).trans ((hw 32 (by decide) (by decide)).trans (wl_at (i := 32) rfl))) rfl (Nat.le_of_ble_eq_true rfl) ⟨Nat.le_of_ble_eq_true rfl, Nat.le_of_ble_eq_true rfl, (Nat.le_add_right _ _), (Nat.le_add_right _ _)⟩ dX10_begin_43 ?_
  refine go_iinc (pc := 46) (v := 17) (lv' := [(1, .int 17), (0, .ref (G.2.1 + 32))]) dX10_begin_46 0 rfl (by first | rfl | decide) (by decide) rfl ?_
  refine go_goto (pc := 49) (tgt := 24) dX10_begin_49 (by decide) ?_
  refine go_iload_n (pc := 24) dX10_begin_24 rfl rfl ?_
  refine go_bipush (pc := 25) (v := 24) dX10_begin_25 (by decide) ?_
  refine go_icmp_ge_f (pc := 27) (tgt := 52) dX10_begin_27 (by decide) (by decide) ?_
  refine go_aload_n (pc := 30) dX10_begin_30 rfl rfl ?_
  refine go_aload_n (pc := 31) dX10_begin_31 rfl rfl ?_
  refine go_get (pc := 32) fX10_9 rfl (gz_b (by omega)) ((va_up_ne _ _ (gz_ne (by decide))).trans ((hw 32 (by decide) (by decide)).trans (wl_at (i := 32) rfl))) rfl dX10_begin_32 ?_
  refine go_bipush (pc := 35) (v := 20) dX10_begin_35 (by decide) ?_
  refine go_iload_n (pc := 37) dX10_begin_37 rfl rfl ?_
  refine go_iadd (pc := 38) dX10_begin_38 ?_
  refine go_top (y := 37) (by decide) ?_
  refine go_iald (pc := 39) (gz_b (by omega)) (va_up_self _ _ _) (gv_in (by decide)) dX10_begin_39 ?_
  refine go_top (y := (-1)) rfl ?_
  refine go_iconst (pc := 40) (v := 0) dX10_begin_40 (by decide) ?_
  refine go_iload_n (pc := 41) dX10_begin_41 rfl rfl ?_
  refine go_iconst (pc := 42) (v := (-1)) dX10_begin_42 (by decide) ?_
  refine go_callV_v (pc := 43) vX10_86 rfl (cX10_mark_42 hn hw) rfl rfl (gz_b (by omega)) ((va_up_ne _ _ (gz_ne (by decide))).trans ((hw 32 (by decide) (by decide)).trans (wl_at (i := 32) rfl))) rfl (Nat.le_of_ble_eq_true rfl) ⟨Nat.le_of_ble_eq_true rfl, Nat.le_of_ble_eq_true rfl, (Nat.le_add_right _ _), (Nat.le_add_right _ _)⟩ dX10_begin_43 ?_
  refine go_iinc (pc := 46) (v := 18) (lv' := [(1, .int 18), (0, .ref (G.2.1 + 32))]) dX10_begin_46 0 rfl (by first | rfl | decide) (by decide) rfl ?_
  refine go_goto (pc := 49) (tgt := 24) dX10_begin_49 (by decide) ?_
  refine go_iload_n (pc := 24) dX10_begin_24 rfl rfl ?_
  refine go_bipush (pc := 25) (v := 24) dX10_begin_25 (by decide) ?_
  refine go_icmp_ge_f (pc := 27) (tgt := 52) dX10_begin_27 (by decide) (by decide) ?_
  refine go_aload_n (pc := 30) dX10_begin_30 rfl rfl ?_
  refine go_aload_n (pc := 31) dX10_begin_31 rfl rfl ?_
  refine go_get (pc := 32) fX10_9 rfl (gz_b (by omega)) ((va_up_ne _ _ (gz_ne (by decide))).trans ((hw 32 (by decide) (by decide)).trans (wl_at (i := 32) rfl))) rfl dX10_begin_32 ?_
  refine go_bipush (pc := 35) (v := 20) dX10_begin_35 (by decide) ?_
  refine go_iload_n (pc := 37) dX10_begin_37 rfl rfl ?_
  refine go_iadd (pc := 38) dX10_begin_38 ?_
  refine go_top (y := 38) (by decide) ?_
  refine go_iald (pc := 39) (gz_b (by omega)) (va_up_self _ _ _) (gv_in (by decide)) dX10_begin_39 ?_
  refine go_top (y := (-1)) rfl ?_
  refine go_iconst (pc := 40) (v := 0) dX10_begin_40 (by decide) ?_
  refine go_iload_n (pc := 41) dX10_begin_41 rfl rfl ?_
  refine go_iconst (pc := 42) (v := (-1)) dX10_begin_42 (by decide) ?_
  refine go_callV_v (pc := 43) vX10_86 rfl (cX10_mark_43 hn hw) rfl rfl (gz_b (by omega)) ((va_up_ne _ _ (gz_ne (by decide))).trans ((hw 32 (by decide) (by decide)).trans (wl_at (i := 32) rfl))) rfl (Nat.le_of_ble_eq_true rfl) ⟨Nat.le_of_ble_eq_true rfl, Nat.le_of_ble_eq_true rfl, (Nat.le_add_right _ _), (Nat.le_add_right _ _)⟩ dX10_begin_43 ?_
  refine go_iinc (pc := 46) (v := 19) (lv' := [(1, .int 19), (0, .ref (G.2.1 + 32))]) dX10_begin_46 0 rfl (by first | rfl | decide) (by decide) rfl ?_
  refine go_goto (pc := 49) (tgt := 24) dX10_begin_49 (by decide) ?_
  refine go_iload_n (pc := 24) dX10_begin_24 rfl rfl ?_
  refine go_bipush (pc := 25) (v := 24) dX10_begin_25 (by decide) ?_
  refine go_icmp_ge_f (pc := 27) (tgt := 52) dX10_begin_27 (by decide) (by decide) ?_
  refine go_aload_n (pc := 30) dX10_begin_30 rfl rfl ?_
  refine go_aload_n (pc := 31) dX10_begin_31 rfl rfl ?_
  refine go_get (pc := 32) fX10_9 rfl (gz_b (by omega)) ((va_up_ne _ _ (gz_ne (by decide))).trans ((hw 32 (by decide) (by decide)).trans (wl_at (i := 32) rfl))) rfl dX10_begin_32 ?_
  refine go_bipush (pc := 35) (v := 20) dX10_begin_35 (by decide) ?_
  refine go_iload_n (pc := 37) dX10_begin_37 rfl rfl ?_
  refine go_iadd (pc := 38) dX10_begin_38 ?_
  refine go_top (y := 39) (by decide) ?_
  refine go_iald (pc := 39) (gz_b (by omega)) (va_up_self _ _ _) (gv_in (by decide)) dX10_begin_39 ?_
  refine go_top (y := (-1)) rfl ?_
  refine go_iconst (pc := 40) (v := 0) dX10_begin_40 (by decide) ?_
  refine go_iload_n (pc := 41) dX10_begin_41 rfl rfl ?_
  refine go_iconst (pc := 42) (v := (-1)) dX10_begin_42 (by decide) ?_
  refine go_callV_v (pc := 43) vX10_86 rfl (cX10_mark_44 hn hw) rfl rfl (gz_b (by omega)) ((va_up_ne _ _ (gz_ne (by decide))).trans ((hw 32 (by decide) (by decide)).trans (wl_at (i := 32) rfl))) rfl (Nat.le_of_ble_eq_true rfl) ⟨Nat.le_of_ble_eq_true rfl, Nat.le_of_ble_eq_true rfl, (Nat.le_add_right _ _), (Nat.le_add_right _ _)⟩ dX10_begin_43 ?_
  refine go_iinc (pc := 46) (v := 20) (lv' := [(1, .int 20), (0, .ref (G.2.1 + 32))]) dX10_begin_46 0 rfl (by first | rfl | decide) (by decide) rfl ?_
  refine go_goto (pc := 49) (tgt := 24) dX10_begin_49 (by decide) ?_
  refine go_iload_n (pc := 24) dX10_begin_24 rfl rfl ?_
  refine go_bipush (pc := 25) (v := 24) dX10_begin_25 (by decide) ?_
  refine go_icmp_ge_f (pc := 27) (tgt := 52) dX10_begin_27 (by decide) (by decide) ?_
  refine go_aload_n (pc := 30) dX10_begin_30 rfl rfl ?_
  refine go_aload_n (pc := 31) dX10_begin_31 rfl rfl ?_
  refine go_get (pc := 32) fX10_9 rfl (gz_b (by omega)) ((va_up_ne _ _ (gz_ne (by decide))).trans ((hw 32 (by decide) (by decide)).trans (wl_at (i := 32) rfl))) rfl dX10_begin_32 ?_
  refine go_bipush (pc := 35) (v := 20) dX10_begin_35 (by decide) ?_
  refine go_iload_n (pc := 37) dX10_begin_37 rfl rfl ?_
  refine go_iadd (pc := 38) dX10_begin_38 ?_
  refine go_top (y := 40) (by decide) ?_
  refine go_iald (pc := 39) (gz_b (by omega)) (va_up_self _ _ _) (gv_in (by decide)) dX10_begin_39 ?_
  refine go_top (y := (-1)) rfl ?_
  refine go_iconst (pc := 40) (v := 0) dX10_begin_40 (by decide) ?_
  refine go_iload_n (pc := 41) dX10_begin_41 rfl rfl ?_
  refine go_iconst (pc := 42) (v := (-1)) dX10_begin_42 (by decide) ?_
  refine go_callV_v (pc := 43) vX10_86 rfl (cX10_mark_45 hn hw) rfl rfl (gz_b (by omega)) ((va_up_ne _ _ (gz_ne (by decide))).trans ((hw 32 (by decide) (by decide)).trans (wl_at (i := 32) rfl))) rfl (Nat.le_of_ble_eq_true rfl) ⟨Nat.le_of_ble_eq_true rfl, Nat.le_of_ble_eq_true rfl, (Nat.le_add_right _ _), (Nat.le_add_right _ _)⟩ dX10_begin_43 ?_
  refine go_iinc (pc := 46) (v := 21) (lv' := [(1, .int 21), (0, .ref (G.2.1 + 32))]) dX10_begin_46 0 rfl (by first | rfl | decide) (by decide) rfl ?_
  refine go_goto (pc := 49) (tgt := 24) dX10_begin_49 (by decide) ?_
  refine go_iload_n (pc := 24) dX10_begin_24 rfl rfl ?_
  refine go_bipush (pc := 25) (v := 24) dX10_begin_25 (by decide) ?_
  refine go_icmp_ge_f (pc := 27) (tgt := 52) dX10_begin_27 (by decide) (by decide) ?_
  refine go_aload_n (pc := 30) dX10_begin_30 rfl rfl ?_
  refine go_aload_n (pc := 31) dX10_begin_31 rfl rfl ?_
  refine go_get (pc := 32) fX10_9 rfl (gz_b (by omega)) ((va_up_ne _ _ (gz_ne (by decide))).trans ((hw 32 (by decide) (by decide)).trans (wl_at (i := 32) rfl))) rfl dX10_begin_32 ?_
  refine go_bipush (pc := 35) (v := 20) dX10_begin_35 (by decide) ?_
  refine go_iload_n (pc := 37) dX10_begin_37 rfl rfl ?_
  refine go_iadd (pc := 38) dX10_begin_38 ?_
  refine go_top (y := 41) (by decide) ?_
  refine go_iald (pc := 39) (gz_b (by omega)) (va_up_self _ _ _) (gv_in (by decide)) dX10_begin_39 ?_
  refine go_top (y := (-1)) rfl ?_
  refine go_iconst (pc := 40) (v := 0) dX10_begin_40 (by decide) ?_
  refine go_iload_n (pc := 41) dX10_begin_41 rfl rfl ?_
  refine go_iconst (pc := 42) (v := (-1)) dX10_begin_42 (by decide) ?_
  refine go_callV_v (pc := 43) vX10_86 rfl (cX10_mark_46 hn hw) rfl rfl (gz_b (by omega)) ((va_up_ne _ _ (gz_ne (by decide))).trans ((hw 32 (by decide) (by decide)).trans (wl_at (i := 32) rfl))) rfl (Nat.le_of_ble_eq_true rfl) ⟨Nat.le_of_ble_eq_true rfl, Nat.le_of_ble_eq_true rfl, (Nat.le_add_right _ _), (Nat.le_add_right _ _)⟩ dX10_begin_43 ?_
  refine go_iinc (pc := 46) (v := 22) (lv' := [(1, .int 22), (0, .ref (G.2.1 + 32))]) dX10_begin_46 0 rfl (by first | rfl | decide) (by decide) rfl ?_
  refine go_goto (pc := 49) (tgt := 24) dX10_begin_49 (by decide) ?_
  refine go_iload_n (pc := 24) dX10_begin_24 rfl rfl ?_
  refine go_bipush (pc := 25) (v := 24) dX10_begin_25 (by decide) ?_
  refine go_icmp_ge_f (pc := 27) (tgt := 52) dX10_begin_27 (by decide) (by decide) ?_
  refine go_aload_n (pc := 30) dX10_begin_30 rfl rfl ?_
  refine go_aload_n (pc := 31) dX10_begin_31 rfl rfl ?_
  refine go_get (pc := 32) fX10_9 rfl (gz_b (by omega)) ((va_up_ne _ _ (gz_ne (by decide))).trans ((hw 32 (by decide) (by decide)).trans (wl_at (i := 32) rfl))) rfl dX10_begin_32 ?_
  refine go_bipush (pc := 35) (v := 20) dX10_begin_35 (by decide) ?_
  refine go_iload_n (pc := 37) dX10_begin_37 rfl rfl ?_
  refine go_iadd (pc := 38) dX10_begin_38 ?_
  refine go_top (y := 42) (by decide) ?_
  refine go_iald (pc := 39) (gz_b (by omega)) (va_up_self _ _ _) (gv_in (by decide)) dX10_begin_39 ?_
  refine go_top (y := (-1)) rfl ?_
  refine go_iconst (pc := 40) (v := 0) dX10_begin_40 (by decide) ?_
  refine go_iload_n (pc := 41) dX10_begin_41 rfl rfl ?_
  refine go_iconst (pc := 42) (v := (-1)) dX10_begin_42 (by decide) ?_
  refine go_callV_v (pc := 43) vX10_86 rfl (cX10_mark_47 hn hw) rfl rfl (gz_b (by omega)) ((va_up_ne _ _ (gz_ne (by decide))).trans ((hw 32 (by decide) (by decide)).trans (wl_at (i := 32) rfl))) rfl (Nat.le_of_ble_eq_true rfl) ⟨Nat.le_of_ble_eq_true rfl, Nat.le_of_ble_eq_true rfl, (Nat.le_add_right _ _), (Nat.le_add_right _ _)⟩ dX10_begin_43 ?_
  refine go_iinc (pc := 46) (v := 23) (lv' := [(1, .int 23), (0, .ref (G.2.1 + 32))]) dX10_begin_46 0 rfl (by first | rfl | decide) (by decide) rfl ?_
  refine go_goto (pc := 49) (tgt := 24) dX10_begin_49 (by decide) ?_
  refine go_iload_n (pc := 24) dX10_begin_24 rfl rfl ?_
  refine go_bipush (pc := 25) (v := 24) dX10_begin_25 (by decide) ?_
  refine go_icmp_ge_f (pc := 27) (tgt := 52) dX10_begin_27 (by decide) (by decide) ?_
  refine go_aload_n (pc := 30) dX10_begin_30 rfl rfl ?_
  refine go_aload_n (pc := 31) dX10_begin_31 rfl rfl ?_
  refine go_get (pc := 32) fX10_9 rfl (gz_b (by omega)) ((va_up_ne _ _ (gz_ne (by decide))).trans ((hw 32 (by decide) (by decide)).trans (wl_at (i := 32) rfl))) rfl dX10_begin_32 ?_
  refine go_bipush (pc := 35) (v := 20) dX10_begin_35 (by decide) ?_
  refine go_iload_n (pc := 37) dX10_begin_37 rfl rfl ?_
  refine go_iadd (pc := 38) dX10_begin_38 ?_
  refine go_top (y := 43) (by decide) ?_
  refine go_iald (pc := 39) (gz_b (by omega)) (va_up_self _ _ _) (gv_in (by decide)) dX10_begin_39 ?_
  refine go_top (y := (-1)) rfl ?_
  refine go_iconst (pc := 40) (v := 0) dX10_begin_40 (by decide) ?_
  refine go_iload_n (pc := 41) dX10_begin_41 rfl rfl ?_
  refine go_iconst (pc := 42) (v := (-1)) dX10_begin_42 (by decide) ?_
  refine go_callV_v (pc := 43) vX10_86 rfl (cX10_mark_48 hn hw) rfl rfl (gz_b (by omega)) ((va_up_ne _ _ (gz_ne (by decide))).trans ((hw 32 (by decide) (by decide)).trans (wl_at (i := 32) rfl))) rfl (Nat.le_of_ble_eq_true rfl) ⟨Nat.le_of_ble_eq_true rfl, Nat.le_of_ble_eq_true rfl, (Nat.le_add_right _ _), (Nat.le_add_right _ _)⟩ dX10_begin_43 ?_
  refine go_iinc (pc := 46) (v := 24) (lv' := [(1, .int 24), (0, .ref (G.2.1 + 32))]) dX10_begin_46 0 rfl (by first | rfl | decide) (by decide) rfl ?_
  refine go_goto (pc := 49) (tgt := 24) dX10_begin_49 (by decide) ?_
  refine go_iload_n (pc := 24) dX10_begin_24 rfl rfl ?_
  refine go_bipush (pc := 25) (v := 24) dX10_begin_25 (by decide) ?_
  refine go_icmp_ge_t (pc := 27) (tgt := 52) dX10_begin_27 (by decide) (by decide) ?_
  exact go_vret (pc := 52) rfl dX10_begin_52
set_option maxRecDepth 100000 in
set_option maxHeartbeats 4000000 in
theorem cX10_isLeft_2 {l : Launch} {G : gG} {n k : Nat} {w : Nat → va_E} (hn : 42 ≤ n) (hw : ∀ i, 32 ≤ i → i < 42 → w (G.2.1 + i) = wl G.2.1 (LF G) (G.2.1 + i)) : Ct l G mX10_isLeft 0 0 [.ref (G.2.1 + 32)] n k (va_up w (G.2.1 + 33) (ai G 26100 (upd (upd (upd (sx 256) (3 : Int32).toNatClampNeg 1) (4 : Int32).toNatClampNeg 0) (17 : Int32).toNatClampNeg 0))) (some (.int 0), n, k, (va_up w (G.2.1 + 33) (ai G 26100 (upd (upd (upd (sx 256) (3 : Int32).toNatClampNeg 1) (4 : Int32).toNatClampNeg 0) (17 : Int32).toNatClampNeg 0)))) := by
  refine Ct.of (by decide) (Nat.le_of_ble_eq_true rfl) ⟨Nat.le_refl _, Nat.le_refl _⟩ ?_
  show Go l G mX10_isLeft _ 0 [(0, .ref (G.2.1 + 32))] [] n k (va_up w (G.2.1 + 33) (ai G 26100 (upd (upd (upd (sx 256) (3 : Int32).toNatClampNeg 1) (4 : Int32).toNatClampNeg 0) (17 : Int32).toNatClampNeg 0)))
  refine go_aload_n (pc := 0) dX10_isLeft_0 rfl rfl ?_
  refine go_get (pc := 1) fX10_9 rfl (gz_b (by omega)) ((va_up_ne _ _ (gz_ne (by decide))).trans ((hw 32 (by decide) (by decide)).trans (wl_at (i := 32) rfl))) rfl dX10_isLeft_1 ?_
  refine go_bipush (pc := 4) (v := 17) dX10_isLeft_4 (by decide) ?_
  refine go_iald (pc := 6) (gz_b (by omega)) (va_up_self _ _ _) (gv_in (by decide)) dX10_isLeft_6 ?_
  refine go_top (y := 0) rfl ?_
  refine go_aload_n (pc := 7) dX10_isLeft_7 rfl rfl ?_
  refine go_get (pc := 8) fX10_9 rfl (gz_b (by omega)) ((va_up_ne _ _ (gz_ne (by decide))).trans ((hw 32 (by decide) (by decide)).trans (wl_at (i := 32) rfl))) rfl dX10_isLeft_8 ?_
  refine go_iconst (pc := 11) (v := 4) dX10_isLeft_11 (by decide) ?_
  refine go_iald (pc := 12) (gz_b (by omega)) (va_up_self _ _ _) (gv_in (by decide)) dX10_isLeft_12 ?_
  refine go_top (y := 0) rfl ?_
  refine go_icmp_ge_t (pc := 13) (tgt := 75) dX10_isLeft_13 (by decide) (by decide) ?_
  refine go_aload_n (pc := 75) dX10_isLeft_75 rfl rfl ?_
  refine go_get (pc := 76) fX10_9 rfl (gz_b (by omega)) ((va_up_ne _ _ (gz_ne (by decide))).trans ((hw 32 (by decide) (by decide)).trans (wl_at (i := 32) rfl))) rfl dX10_isLeft_76 ?_
  refine go_bipush (pc := 79) (v := 17) dX10_isLeft_79 (by decide) ?_
  refine go_iald (pc := 81) (gz_b (by omega)) (va_up_self _ _ _) (gv_in (by decide)) dX10_isLeft_81 ?_
  refine go_top (y := 0) rfl ?_
  refine go_aload_n (pc := 82) dX10_isLeft_82 rfl rfl ?_
  refine go_get (pc := 83) fX10_9 rfl (gz_b (by omega)) ((va_up_ne _ _ (gz_ne (by decide))).trans ((hw 32 (by decide) (by decide)).trans (wl_at (i := 32) rfl))) rfl dX10_isLeft_83 ?_
  refine go_iconst (pc := 86) (v := 4) dX10_isLeft_86 (by decide) ?_
  refine go_iald (pc := 87) (gz_b (by omega)) (va_up_self _ _ _) (gv_in (by decide)) dX10_isLeft_87 ?_
  refine go_top (y := 0) rfl ?_
  refine go_icmp_ge_t (pc := 88) (tgt := 95) dX10_isLeft_88 (by decide) (by decide) ?_
  refine go_iconst (pc := 95) (v := 0) dX10_isLeft_95 (by decide) ?_
  exact go_iret (pc := 96) rfl dX10_isLeft_96
set_option maxRecDepth 100000 in
set_option maxHeartbeats 4000000 in
theorem cX10_lookThrough_2 {l : Launch} {G : gG} {n k : Nat} {w : Nat → va_E} (hn : 42 ≤ n) (hw : ∀ i, 32 ≤ i → i < 42 → w (G.2.1 + i) = wl G.2.1 (LF G) (G.2.1 + i)) : Ct l G mX10_lookThrough 1 20 [.ref (G.2.1 + 32), .int 1000000] n k (va_up w (G.2.1 + 33) (ai G 26100 (upd (upd (upd (sx 256) (3 : Int32).toNatClampNeg 1) (4 : Int32).toNatClampNeg 0) (17 : Int32).toNatClampNeg 0))) (some (.int 0), n, k, (va_up w (G.2.1 + 33) (ai G 26100 (upd (upd (upd (sx 256) (3 : Int32).toNatClampNeg 1) (4 : Int32).toNatClampNeg 0) (17 : Int32).toNatClampNeg 0)))) := by
  refine Ct.of (by decide) (Nat.le_of_ble_eq_true rfl) ⟨Nat.le_refl _, Nat.le_refl _⟩ ?_
  show Go l G mX10_lookThrough _ 0 [(0, .ref (G.2.1 + 32)), (1, .int 1000000)] [] n k (va_up w (G.2.1 + 33) (ai G 26100 (upd (upd (upd (sx 256) (3 : Int32).toNatClampNeg 1) (4 : Int32).toNatClampNeg 0) (17 : Int32).toNatClampNeg 0)))
  refine go_iconst (pc := 0) (v := 0) dX10_lookThrough_0 (by decide) ?_
  refine go_istore_n (pc := 1) (lv' := [(2, .int 0), (0, .ref (G.2.1 + 32)), (1, .int 1000000)]) dX10_lookThrough_1 rfl (by decide) rfl ?_
  refine go_iload_n (pc := 2) dX10_lookThrough_2 rfl rfl ?_
  refine go_iload_n (pc := 3) dX10_lookThrough_3 rfl rfl ?_
  refine go_icmp_ge_f (pc := 4) (tgt := 78) dX10_lookThrough_4 (by decide) (by decide) ?_
  refine go_aload_n (pc := 7) dX10_lookThrough_7 rfl rfl ?_
  refine go_callV_i (pc := 8) vX10_94 rfl (cX10_isLeft_2 hn hw) rfl rfl (gz_b (by omega)) ((va_up_ne _ _ (gz_ne (by decide))).trans ((hw 32 (by decide) (by decide)).trans (wl_at (i := 32) rfl))) rfl (Nat.le_of_ble_eq_true rfl) ⟨Nat.le_of_ble_eq_true rfl, Nat.le_of_ble_eq_true rfl, (Nat.le_add_right _ _), (Nat.le_add_right _ _)⟩ dX10_lookThrough_8 ?_
  refine go_iconst (pc := 11) (v := 1) dX10_lookThrough_11 (by decide) ?_
  refine go_icmp_ne_t (pc := 12) (tgt := 78) dX10_lookThrough_12 (by decide) (by decide) ?_
  refine go_iload_n (pc := 78) dX10_lookThrough_78 rfl rfl ?_
  exact go_iret (pc := 79) rfl dX10_lookThrough_79
set_option maxRecDepth 100000 in
set_option maxHeartbeats 4000000 in
theorem cX10_giveBack_2 {l : Launch} {G : gG} {n k : Nat} {w : Nat → va_E} (hn : 42 ≤ n) (hw : ∀ i, 32 ≤ i → i < 42 → w (G.2.1 + i) = wl G.2.1 (LF G) (G.2.1 + i)) : Ct l G mX10_giveBack 0 0 [.ref (G.2.1 + 32)] n k (va_up w (G.2.1 + 33) (ai G 26100 (upd (upd (upd (upd (upd (upd (upd (sx 256) (3 : Int32).toNatClampNeg 1) (4 : Int32).toNatClampNeg 0) (17 : Int32).toNatClampNeg 0) (5 : Int32).toNatClampNeg 1) (6 : Int32).toNatClampNeg 0) (7 : Int32).toNatClampNeg 0) (8 : Int32).toNatClampNeg 0))) (none, n, k, (va_up w (G.2.1 + 33) (ai G 26100 (upd (upd (upd (upd (upd (upd (upd (sx 256) (3 : Int32).toNatClampNeg 1) (4 : Int32).toNatClampNeg 0) (17 : Int32).toNatClampNeg 0) (5 : Int32).toNatClampNeg 1) (6 : Int32).toNatClampNeg 0) (7 : Int32).toNatClampNeg 0) (8 : Int32).toNatClampNeg 0)))) := by
  refine Ct.of (by decide) (Nat.le_of_ble_eq_true rfl) ⟨Nat.le_refl _, Nat.le_refl _⟩ ?_
  show Go l G mX10_giveBack _ 0 [(0, .ref (G.2.1 + 32))] [] n k (va_up w (G.2.1 + 33) (ai G 26100 (upd (upd (upd (upd (upd (upd (upd (sx 256) (3 : Int32).toNatClampNeg 1) (4 : Int32).toNatClampNeg 0) (17 : Int32).toNatClampNeg 0) (5 : Int32).toNatClampNeg 1) (6 : Int32).toNatClampNeg 0) (7 : Int32).toNatClampNeg 0) (8 : Int32).toNatClampNeg 0)))
  refine go_iconst (pc := 0) (v := 0) dX10_giveBack_0 (by decide) ?_
  refine go_istore_n (pc := 1) (lv' := [(1, .int 0), (0, .ref (G.2.1 + 32))]) dX10_giveBack_1 rfl (by decide) rfl ?_
  refine go_iload_n (pc := 2) dX10_giveBack_2 rfl rfl ?_
  refine go_aload_n (pc := 3) dX10_giveBack_3 rfl rfl ?_
  refine go_get (pc := 4) fX10_9 rfl (gz_b (by omega)) ((va_up_ne _ _ (gz_ne (by decide))).trans ((hw 32 (by decide) (by decide)).trans (wl_at (i := 32) rfl))) rfl dX10_giveBack_4 ?_
  refine go_iconst (pc := 7) (v := 1) dX10_giveBack_7 (by decide) ?_
  refine go_iald (pc := 8) (gz_b (by omega)) (va_up_self _ _ _) (gv_in (by decide)) dX10_giveBack_8 ?_
  refine go_top (y := 0) rfl ?_
  refine go_icmp_ge_t (pc := 9) (tgt := 155) dX10_giveBack_9 (by decide) (by decide) ?_
  exact go_vret (pc := 155) rfl dX10_giveBack_155
set_option maxRecDepth 100000 in
set_option maxHeartbeats 4000000 in
theorem cX10_fade_2 {l : Launch} {G : gG} {n k : Nat} {w : Nat → va_E} (hn : 42 ≤ n) (hw : ∀ i, 32 ≤ i → i < 42 → w (G.2.1 + i) = wl G.2.1 (LF G) (G.2.1 + i)) : Ct l G mX10_fade 0 0 [.ref (G.2.1 + 32)] n k (va_up w (G.2.1 + 33) (ai G 26100 (upd (upd (upd (upd (upd (upd (upd (sx 256) (3 : Int32).toNatClampNeg 1) (4 : Int32).toNatClampNeg 0) (17 : Int32).toNatClampNeg 0) (5 : Int32).toNatClampNeg 1) (6 : Int32).toNatClampNeg 0) (7 : Int32).toNatClampNeg 0) (8 : Int32).toNatClampNeg 0))) (none, n, k, (va_up w (G.2.1 + 33) (ai G 26100 (upd (upd (upd (upd (upd (upd (upd (sx 256) (3 : Int32).toNatClampNeg 1) (4 : Int32).toNatClampNeg 0) (17 : Int32).toNatClampNeg 0) (5 : Int32).toNatClampNeg 1) (6 : Int32).toNatClampNeg 0) (7 : Int32).toNatClampNeg 0) (8 : Int32).toNatClampNeg 0)))) := by
  refine Ct.of (by decide) (Nat.le_of_ble_eq_true rfl) ⟨Nat.le_refl _, Nat.le_refl _⟩ ?_
  show Go l G mX10_fade _ 0 [(0, .ref (G.2.1 + 32))] [] n k (va_up w (G.2.1 + 33) (ai G 26100 (upd (upd (upd (upd (upd (upd (upd (sx 256) (3 : Int32).toNatClampNeg 1) (4 : Int32).toNatClampNeg 0) (17 : Int32).toNatClampNeg 0) (5 : Int32).toNatClampNeg 1) (6 : Int32).toNatClampNeg 0) (7 : Int32).toNatClampNeg 0) (8 : Int32).toNatClampNeg 0)))
  refine go_iconst (pc := 0) (v := 0) dX10_fade_0 (by decide) ?_
  refine go_istore_n (pc := 1) (lv' := [(1, .int 0), (0, .ref (G.2.1 + 32))]) dX10_fade_1 rfl (by decide) rfl ?_
  refine go_iload_n (pc := 2) dX10_fade_2 rfl rfl ?_
  refine go_aload_n (pc := 3) dX10_fade_3 rfl rfl ?_
  refine go_get (pc := 4) fX10_9 rfl (gz_b (by omega)) ((va_up_ne _ _ (gz_ne (by decide))).trans ((hw 32 (by decide) (by decide)).trans (wl_at (i := 32) rfl))) rfl dX10_fade_4 ?_
  refine go_iconst (pc := 7) (v := 1) dX10_fade_7 (by decide) ?_
  refine go_iald (pc := 8) (gz_b (by omega)) (va_up_self _ _ _) (gv_in (by decide)) dX10_fade_8 ?_
  refine go_top (y := 0) rfl ?_
  refine go_icmp_ge_t (pc := 9) (tgt := 210) dX10_fade_9 (by decide) (by decide) ?_
  exact go_vret (pc := 210) rfl dX10_fade_210
set_option maxRecDepth 100000 in
set_option maxHeartbeats 4000000 in
theorem cX10_write_28 {l : Launch} {G : gG} {n k : Nat} {w : Nat → va_E} (hn : 42 ≤ n) (hw : ∀ i, 32 ≤ i → i < 42 → w (G.2.1 + i) = wl G.2.1 (LF G) (G.2.1 + i)) : Ct l G mX10_write 0 0 [.ref (G.2.1 + 32), .int ((-1))] n k (va_up w (G.2.1 + 33) (ai G 26100 (upd (upd (upd (upd (upd (upd (upd (upd (upd (sx 256) (3 : Int32).toNatClampNeg 1) (4 : Int32).toNatClampNeg 0) (17 : Int32).toNatClampNeg 0) (5 : Int32).toNatClampNeg 1) (6 : Int32).toNatClampNeg 0) (7 : Int32).toNatClampNeg 0) (8 : Int32).toNatClampNeg 0) (9 : Int32).toNatClampNeg 0) (15 : Int32).toNatClampNeg 0))) (none, n, k, (va_up w (G.2.1 + 33) (ai G 26100 (upd (upd (upd (upd (upd (upd (upd (upd (upd (upd (upd (upd (sx 256) (3 : Int32).toNatClampNeg 1) (4 : Int32).toNatClampNeg 0) (17 : Int32).toNatClampNeg 0) (5 : Int32).toNatClampNeg 1) (6 : Int32).toNatClampNeg 0) (7 : Int32).toNatClampNeg 0) (8 : Int32).toNatClampNeg 0) (9 : Int32).toNatClampNeg 0) (15 : Int32).toNatClampNeg 0) (10100 : Int32).toNatClampNeg ((-1))) (18100 : Int32).toNatClampNeg ((-1))) (15 : Int32).toNatClampNeg 1)))) := by
  refine Ct.of (by decide) (Nat.le_of_ble_eq_true rfl) ⟨Nat.le_refl _, Nat.le_refl _⟩ ?_
  show Go l G mX10_write _ 0 [(0, .ref (G.2.1 + 32)), (1, .int ((-1)))] [] n k (va_up w (G.2.1 + 33) (ai G 26100 (upd (upd (upd (upd (upd (upd (upd (upd (upd (sx 256) (3 : Int32).toNatClampNeg 1) (4 : Int32).toNatClampNeg 0) (17 : Int32).toNatClampNeg 0) (5 : Int32).toNatClampNeg 1) (6 : Int32).toNatClampNeg 0) (7 : Int32).toNatClampNeg 0) (8 : Int32).toNatClampNeg 0) (9 : Int32).toNatClampNeg 0) (15 : Int32).toNatClampNeg 0)))
  refine go_aload_n (pc := 0) dX10_write_0 rfl rfl ?_
  refine go_get (pc := 1) fX10_9 rfl (gz_b (by omega)) ((va_up_ne _ _ (gz_ne (by decide))).trans ((hw 32 (by decide) (by decide)).trans (wl_at (i := 32) rfl))) rfl dX10_write_1 ?_
  refine go_sipush (pc := 4) (v := 10100) dX10_write_4 (by decide) ?_
  refine go_aload_n (pc := 7) dX10_write_7 rfl rfl ?_
  refine go_get (pc := 8) fX10_9 rfl (gz_b (by omega)) ((va_up_ne _ _ (gz_ne (by decide))).trans ((hw 32 (by decide) (by decide)).trans (wl_at (i := 32) rfl))) rfl dX10_write_8 ?_
  refine go_bipush (pc := 11) (v := 15) dX10_write_11 (by decide) ?_
  refine go_iald (pc := 13) (gz_b (by omega)) (va_up_self _ _ _) (gv_in (by decide)) dX10_write_13 ?_
  refine go_top (y := 0) rfl ?_
  refine go_iadd (pc := 14) dX10_write_14 ?_
  refine go_top (y := 10100) (by decide) ?_
  refine go_iload_n (pc := 15) dX10_write_15 rfl rfl ?_
  refine go_iast (pc := 16) (gz_b (by omega)) (va_up_self _ _ _) (gv_in (by decide)) dX10_write_16 ?_
  refine go_w (va_up_up _ _ _ _) ?_
  refine go_aload_n (pc := 17) dX10_write_17 rfl rfl ?_
  refine go_get (pc := 18) fX10_9 rfl (gz_b (by omega)) ((va_up_ne _ _ (gz_ne (by decide))).trans ((hw 32 (by decide) (by decide)).trans (wl_at (i := 32) rfl))) rfl dX10_write_18 ?_
  refine go_sipush (pc := 21) (v := 18100) dX10_write_21 (by decide) ?_
  refine go_aload_n (pc := 24) dX10_write_24 rfl rfl ?_
  refine go_get (pc := 25) fX10_9 rfl (gz_b (by omega)) ((va_up_ne _ _ (gz_ne (by decide))).trans ((hw 32 (by decide) (by decide)).trans (wl_at (i := 32) rfl))) rfl dX10_write_25 ?_
  refine go_bipush (pc := 28) (v := 15) dX10_write_28 (by decide) ?_
  refine go_iald (pc := 30) (gz_b (by omega)) (va_up_self _ _ _) (gv_in (by decide)) dX10_write_30 ?_
  refine go_top (y := 0) rfl ?_
  refine go_iadd (pc := 31) dX10_write_31 ?_
  refine go_top (y := 18100) (by decide) ?_
  refine go_iload_n (pc := 32) dX10_write_32 rfl rfl ?_
  refine go_iast (pc := 33) (gz_b (by omega)) (va_up_self _ _ _) (gv_in (by decide)) dX10_write_33 ?_
  refine go_w (va_up_up _ _ _ _) ?_
  refine go_aload_n (pc := 34) dX10_write_34 rfl rfl ?_
  refine go_get (pc := 35) fX10_9 rfl (gz_b (by omega)) ((va_up_ne _ _ (gz_ne (by decide))).trans ((hw 32 (by decide) (by decide)).trans (wl_at (i := 32) rfl))) rfl dX10_write_35 ?_
  refine go_bipush (pc := 38) (v := 15) dX10_write_38 (by decide) ?_
  refine go_dup2 (pc := 40) dX10_write_40 rfl rfl ?_
  refine go_iald (pc := 41) (gz_b (by omega)) (va_up_self _ _ _) (gv_in (by decide)) dX10_write_41 ?_
  refine go_top (y := 0) rfl ?_
  refine go_iconst (pc := 42) (v := 1) dX10_write_42 (by decide) ?_
  refine go_iadd (pc := 43) dX10_write_43 ?_
  refine go_top (y := 1) (by decide) ?_
  refine go_iast (pc := 44) (gz_b (by omega)) (va_up_self _ _ _) (gv_in (by decide)) dX10_write_44 ?_
  refine go_w (va_up_up _ _ _ _) ?_
  exact go_vret (pc := 45) rfl dX10_write_45
set_option maxRecDepth 100000 in
set_option maxHeartbeats 4000000 in
theorem cX10_write_29 {l : Launch} {G : gG} {n k : Nat} {w : Nat → va_E} (hn : 42 ≤ n) (hw : ∀ i, 32 ≤ i → i < 42 → w (G.2.1 + i) = wl G.2.1 (LF G) (G.2.1 + i)) : Ct l G mX10_write 0 0 [.ref (G.2.1 + 32), .int ((-1))] n k (va_up w (G.2.1 + 33) (ai G 26100 (upd (upd (upd (upd (upd (upd (upd (upd (upd (upd (upd (upd (sx 256) (3 : Int32).toNatClampNeg 1) (4 : Int32).toNatClampNeg 0) (17 : Int32).toNatClampNeg 0) (5 : Int32).toNatClampNeg 1) (6 : Int32).toNatClampNeg 0) (7 : Int32).toNatClampNeg 0) (8 : Int32).toNatClampNeg 0) (9 : Int32).toNatClampNeg 0) (15 : Int32).toNatClampNeg 0) (10100 : Int32).toNatClampNeg ((-1))) (18100 : Int32).toNatClampNeg ((-1))) (15 : Int32).toNatClampNeg 1))) (none, n, k, (va_up w (G.2.1 + 33) (ai G 26100 (upd (upd (upd (upd (upd (upd (upd (upd (upd (upd (upd (upd (upd (upd (upd (sx 256) (3 : Int32).toNatClampNeg 1) (4 : Int32).toNatClampNeg 0) (17 : Int32).toNatClampNeg 0) (5 : Int32).toNatClampNeg 1) (6 : Int32).toNatClampNeg 0) (7 : Int32).toNatClampNeg 0) (8 : Int32).toNatClampNeg 0) (9 : Int32).toNatClampNeg 0) (15 : Int32).toNatClampNeg 0) (10100 : Int32).toNatClampNeg ((-1))) (18100 : Int32).toNatClampNeg ((-1))) (15 : Int32).toNatClampNeg 1) (10101 : Int32).toNatClampNeg ((-1))) (18101 : Int32).toNatClampNeg ((-1))) (15 : Int32).toNatClampNeg 2)))) := by
  refine Ct.of (by decide) (Nat.le_of_ble_eq_true rfl) ⟨Nat.le_refl _, Nat.le_refl _⟩ ?_
  show Go l G mX10_write _ 0 [(0, .ref (G.2.1 + 32)), (1, .int ((-1)))] [] n k (va_up w (G.2.1 + 33) (ai G 26100 (upd (upd (upd (upd (upd (upd (upd (upd (upd (upd (upd (upd (sx 256) (3 : Int32).toNatClampNeg 1) (4 : Int32).toNatClampNeg 0) (17 : Int32).toNatClampNeg 0) (5 : Int32).toNatClampNeg 1) (6 : Int32).toNatClampNeg 0) (7 : Int32).toNatClampNeg 0) (8 : Int32).toNatClampNeg 0) (9 : Int32).toNatClampNeg 0) (15 : Int32).toNatClampNeg 0) (10100 : Int32).toNatClampNeg ((-1))) (18100 : Int32).toNatClampNeg ((-1))) (15 : Int32).toNatClampNeg 1)))
  refine go_aload_n (pc := 0) dX10_write_0 rfl rfl ?_
  refine go_get (pc := 1) fX10_9 rfl (gz_b (by omega)) ((va_up_ne _ _ (gz_ne (by decide))).trans ((hw 32 (by decide) (by decide)).trans (wl_at (i := 32) rfl))) rfl dX10_write_1 ?_
  refine go_sipush (pc := 4) (v := 10100) dX10_write_4 (by decide) ?_
  refine go_aload_n (pc := 7) dX10_write_7 rfl rfl ?_
  refine go_get (pc := 8) fX10_9 rfl (gz_b (by omega)) ((va_up_ne _ _ (gz_ne (by decide))).trans ((hw 32 (by decide) (by decide)).trans (wl_at (i := 32) rfl))) rfl dX10_write_8 ?_
  refine go_bipush (pc := 11) (v := 15) dX10_write_11 (by decide) ?_
  refine go_iald (pc := 13) (gz_b (by omega)) (va_up_self _ _ _) (gv_in (by decide)) dX10_write_13 ?_
  refine go_top (y := 1) rfl ?_
  refine go_iadd (pc := 14) dX10_write_14 ?_
  refine go_top (y := 10101) (by decide) ?_
  refine go_iload_n (pc := 15) dX10_write_15 rfl rfl ?_
  refine go_iast (pc := 16) (gz_b (by omega)) (va_up_self _ _ _) (gv_in (by decide)) dX10_write_16 ?_
  refine go_w (va_up_up _ _ _ _) ?_
  refine go_aload_n (pc := 17) dX10_write_17 rfl rfl ?_
  refine go_get (pc := 18) fX10_9 rfl (gz_b (by omega)) ((va_up_ne _ _ (gz_ne (by decide))).trans ((hw 32 (by decide) (by decide)).trans (wl_at (i := 32) rfl))) rfl dX10_write_18 ?_
  refine go_sipush (pc := 21) (v := 18100) dX10_write_21 (by decide) ?_
  refine go_aload_n (pc := 24) dX10_write_24 rfl rfl ?_
  refine go_get (pc := 25) fX10_9 rfl (gz_b (by omega)) ((va_up_ne _ _ (gz_ne (by decide))).trans ((hw 32 (by decide) (by decide)).trans (wl_at (i := 32) rfl))) rfl dX10_write_25 ?_
  refine go_bipush (pc := 28) (v := 15) dX10_write_28 (by decide) ?_
  refine go_iald (pc := 30) (gz_b (by omega)) (va_up_self _ _ _) (gv_in (by decide)) dX10_write_30 ?_
  refine go_top (y := 1) rfl ?_
  refine go_iadd (pc := 31) dX10_write_31 ?_
  refine go_top (y := 18101) (by decide) ?_
  refine go_iload_n (pc := 32) dX10_write_32 rfl rfl ?_
  refine go_iast (pc := 33) (gz_b (by omega)) (va_up_self _ _ _) (gv_in (by decide)) dX10_write_33 ?_
  refine go_w (va_up_up _ _ _ _) ?_
  refine go_aload_n (pc := 34) dX10_write_34 rfl rfl ?_
  refine go_get (pc := 35) fX10_9 rfl (gz_b (by omega)) ((va_up_ne _ _ (gz_ne (by decide))).trans ((hw 32 (by decide) (by decide)).trans (wl_at (i := 32) rfl))) rfl dX10_write_35 ?_
  refine go_bipush (pc := 38) (v := 15) dX10_write_38 (by decide) ?_
  refine go_dup2 (pc := 40) dX10_write_40 rfl rfl ?_
  refine go_iald (pc := 41) (gz_b (by omega)) (va_up_self _ _ _) (gv_in (by decide)) dX10_write_41 ?_
  refine go_top (y := 1) rfl ?_
  refine go_iconst (pc := 42) (v := 1) dX10_write_42 (by decide) ?_
  refine go_iadd (pc := 43) dX10_write_43 ?_
  refine go_top (y := 2) (by decide) ?_
  refine go_iast (pc := 44) (gz_b (by omega)) (va_up_self _ _ _) (gv_in (by decide)) dX10_write_44 ?_
  refine go_w (va_up_up _ _ _ _) ?_
  exact go_vret (pc := 45) rfl dX10_write_45
set_option maxRecDepth 100000 in
set_option maxHeartbeats 4000000 in
theorem cX10_write_30 {l : Launch} {G : gG} {n k : Nat} {w : Nat → va_E} (hn : 42 ≤ n) (hw : ∀ i, 32 ≤ i → i < 42 → w (G.2.1 + i) = wl G.2.1 (LF G) (G.2.1 + i)) : Ct l G mX10_write 0 0 [.ref (G.2.1 + 32), .int ((-1))] n k (va_up w (G.2.1 + 33) (ai G 26100 (upd (upd (upd (upd (upd (upd (upd (upd (upd (upd (upd (upd (upd (upd (upd (sx 256) (3 : Int32).toNatClampNeg 1) (4 : Int32).toNatClampNeg 0) (17 : Int32).toNatClampNeg 0) (5 : Int32).toNatClampNeg 1) (6 : Int32).toNatClampNeg 0) (7 : Int32).toNatClampNeg 0) (8 : Int32).toNatClampNeg 0) (9 : Int32).toNatClampNeg 0) (15 : Int32).toNatClampNeg 0) (10100 : Int32).toNatClampNeg ((-1))) (18100 : Int32).toNatClampNeg ((-1))) (15 : Int32).toNatClampNeg 1) (10101 : Int32).toNatClampNeg ((-1))) (18101 : Int32).toNatClampNeg ((-1))) (15 : Int32).toNatClampNeg 2))) (none, n, k, (va_up w (G.2.1 + 33) (ai G 26100 (upd (upd (upd (upd (upd (upd (upd (upd (upd (upd (upd (upd (upd (upd (upd (upd (upd (upd (sx 256) (3 : Int32).toNatClampNeg 1) (4 : Int32).toNatClampNeg 0) (17 : Int32).toNatClampNeg 0) (5 : Int32).toNatClampNeg 1) (6 : Int32).toNatClampNeg 0) (7 : Int32).toNatClampNeg 0) (8 : Int32).toNatClampNeg 0) (9 : Int32).toNatClampNeg 0) (15 : Int32).toNatClampNeg 0) (10100 : Int32).toNatClampNeg ((-1))) (18100 : Int32).toNatClampNeg ((-1))) (15 : Int32).toNatClampNeg 1) (10101 : Int32).toNatClampNeg ((-1))) (18101 : Int32).toNatClampNeg ((-1))) (15 : Int32).toNatClampNeg 2) (10102 : Int32).toNatClampNeg ((-1))) (18102 : Int32).toNatClampNeg ((-1))) (15 : Int32).toNatClampNeg 3)))) := by
  refine Ct.of (by decide) (Nat.le_of_ble_eq_true rfl) ⟨Nat.le_refl _, Nat.le_refl _⟩ ?_
  show Go l G mX10_write _ 0 [(0, .ref (G.2.1 + 32)), (1, .int ((-1)))] [] n k (va_up w (G.2.1 + 33) (ai G 26100 (upd (upd (upd (upd (upd (upd (upd (upd (upd (upd (upd (upd (upd (upd (upd (sx 256) (3 : Int32).toNatClampNeg 1) (4 : Int32).toNatClampNeg 0) (17 : Int32).toNatClampNeg 0) (5 : Int32).toNatClampNeg 1) (6 : Int32).toNatClampNeg 0) (7 : Int32).toNatClampNeg 0) (8 : Int32).toNatClampNeg 0) (9 : Int32).toNatClampNeg 0) (15 : Int32).toNatClampNeg 0) (10100 : Int32).toNatClampNeg ((-1))) (18100 : Int32).toNatClampNeg ((-1))) (15 : Int32).toNatClampNeg 1) (10101 : Int32).toNatClampNeg ((-1))) (18101 : Int32).toNatClampNeg ((-1))) (15 : Int32).toNatClampNeg 2)))
  refine go_aload_n (pc := 0) dX10_write_0 rfl rfl ?_
  refine go_get (pc := 1) fX10_9 rfl (gz_b (by omega)) ((va_up_ne _ _ (gz_ne (by decide))).trans ((hw 32 (by decide) (by decide)).trans (wl_at (i := 32) rfl))) rfl dX10_write_1 ?_
  refine go_sipush (pc := 4) (v := 10100) dX10_write_4 (by decide) ?_
  refine go_aload_n (pc := 7) dX10_write_7 rfl rfl ?_
  refine go_get (pc := 8) fX10_9 rfl (gz_b (by omega)) ((va_up_ne _ _ (gz_ne (by decide))).trans ((hw 32 (by decide) (by decide)).trans (wl_at (i := 32) rfl))) rfl dX10_write_8 ?_
  refine go_bipush (pc := 11) (v := 15) dX10_write_11 (by decide) ?_
  refine go_iald (pc := 13) (gz_b (by omega)) (va_up_self _ _ _) (gv_in (by decide)) dX10_write_13 ?_
  refine go_top (y := 2) rfl ?_
  refine go_iadd (pc := 14) dX10_write_14 ?_
  refine go_top (y := 10102) (by decide) ?_
  refine go_iload_n (pc := 15) dX10_write_15 rfl rfl ?_
  refine go_iast (pc := 16) (gz_b (by omega)) (va_up_self _ _ _) (gv_in (by decide)) dX10_write_16 ?_
  refine go_w (va_up_up _ _ _ _) ?_
  refine go_aload_n (pc := 17) dX10_write_17 rfl rfl ?_
  refine go_get (pc := 18) fX10_9 rfl (gz_b (by omega)) ((va_up_ne _ _ (gz_ne (by decide))).trans ((hw 32 (by decide) (by decide)).trans (wl_at (i := 32) rfl))) rfl dX10_write_18 ?_
  refine go_sipush (pc := 21) (v := 18100) dX10_write_21 (by decide) ?_
  refine go_aload_n (pc := 24) dX10_write_24 rfl rfl ?_
  refine go_get (pc := 25) fX10_9 rfl (gz_b (by omega)) ((va_up_ne _ _ (gz_ne (by decide))).trans ((hw 32 (by decide) (by decide)).trans (wl_at (i := 32) rfl))) rfl dX10_write_25 ?_
  refine go_bipush (pc := 28) (v := 15) dX10_write_28 (by decide) ?_
  refine go_iald (pc := 30) (gz_b (by omega)) (va_up_self _ _ _) (gv_in (by decide)) dX10_write_30 ?_
  refine go_top (y := 2) rfl ?_
  refine go_iadd (pc := 31) dX10_write_31 ?_
  refine go_top (y := 18102) (by decide) ?_
  refine go_iload_n (pc := 32) dX10_write_32 rfl rfl ?_
  refine go_iast (pc := 33) (gz_b (by omega)) (va_up_self _ _ _) (gv_in (by decide)) dX10_write_33 ?_
  refine go_w (va_up_up _ _ _ _) ?_
  refine go_aload_n (pc := 34) dX10_write_34 rfl rfl ?_
  refine go_get (pc := 35) fX10_9 rfl (gz_b (by omega)) ((va_up_ne _ _ (gz_ne (by decide))).trans ((hw 32 (by decide) (by decide)).trans (wl_at (i := 32) rfl))) rfl dX10_write_35 ?_
  refine go_bipush (pc := 38) (v := 15) dX10_write_38 (by decide) ?_
  refine go_dup2 (pc := 40) dX10_write_40 rfl rfl ?_
  refine go_iald (pc := 41) (gz_b (by omega)) (va_up_self _ _ _) (gv_in (by decide)) dX10_write_41 ?_
  refine go_top (y := 2) rfl ?_
  refine go_iconst (pc := 42) (v := 1) dX10_write_42 (by decide) ?_
  refine go_iadd (pc := 43) dX10_write_43 ?_
  refine go_top (y := 3) (by decide) ?_
  refine go_iast (pc := 44) (gz_b (by omega)) (va_up_self _ _ _) (gv_in (by decide)) dX10_write_44 ?_
  refine go_w (va_up_up _ _ _ _) ?_
  exact go_vret (pc := 45) rfl dX10_write_45
set_option maxRecDepth 100000 in
set_option maxHeartbeats 4000000 in
theorem cX10_write_31 {l : Launch} {G : gG} {n k : Nat} {w : Nat → va_E} (hn : 42 ≤ n) (hw : ∀ i, 32 ≤ i → i < 42 → w (G.2.1 + i) = wl G.2.1 (LF G) (G.2.1 + i)) : Ct l G mX10_write 0 0 [.ref (G.2.1 + 32), .int ((-1))] n k (va_up w (G.2.1 + 33) (ai G 26100 (upd (upd (upd (upd (upd (upd (upd (upd (upd (upd (upd (upd (upd (upd (upd (upd (upd (upd (sx 256) (3 : Int32).toNatClampNeg 1) (4 : Int32).toNatClampNeg 0) (17 : Int32).toNatClampNeg 0) (5 : Int32).toNatClampNeg 1) (6 : Int32).toNatClampNeg 0) (7 : Int32).toNatClampNeg 0) (8 : Int32).toNatClampNeg 0) (9 : Int32).toNatClampNeg 0) (15 : Int32).toNatClampNeg 0) (10100 : Int32).toNatClampNeg ((-1))) (18100 : Int32).toNatClampNeg ((-1))) (15 : Int32).toNatClampNeg 1) (10101 : Int32).toNatClampNeg ((-1))) (18101 : Int32).toNatClampNeg ((-1))) (15 : Int32).toNatClampNeg 2) (10102 : Int32).toNatClampNeg ((-1))) (18102 : Int32).toNatClampNeg ((-1))) (15 : Int32).toNatClampNeg 3))) (none, n, k, (va_up w (G.2.1 + 33) (ai G 26100 (upd (upd (upd (upd (upd (upd (upd (upd (upd (upd (upd (upd (upd (upd (upd (upd (upd (upd (upd (upd (upd (sx 256) (3 : Int32).toNatClampNeg 1) (4 : Int32).toNatClampNeg 0) (17 : Int32).toNatClampNeg 0) (5 : Int32).toNatClampNeg 1) (6 : Int32).toNatClampNeg 0) (7 : Int32).toNatClampNeg 0) (8 : Int32).toNatClampNeg 0) (9 : Int32).toNatClampNeg 0) (15 : Int32).toNatClampNeg 0) (10100 : Int32).toNatClampNeg ((-1))) (18100 : Int32).toNatClampNeg ((-1))) (15 : Int32).toNatClampNeg 1) (10101 : Int32).toNatClampNeg ((-1))) (18101 : Int32).toNatClampNeg ((-1))) (15 : Int32).toNatClampNeg 2) (10102 : Int32).toNatClampNeg ((-1))) (18102 : Int32).toNatClampNeg ((-1))) (15 : Int32).toNatClampNeg 3) (10103 : Int32).toNatClampNeg ((-1))) (18103 : Int32).toNatClampNeg ((-1))) (15 : Int32).toNatClampNeg 4)))) := by
  refine Ct.of (by decide) (Nat.le_of_ble_eq_true rfl) ⟨Nat.le_refl _, Nat.le_refl _⟩ ?_
  show Go l G mX10_write _ 0 [(0, .ref (G.2.1 + 32)), (1, .int ((-1)))] [] n k (va_up w (G.2.1 + 33) (ai G 26100 (upd (upd (upd (upd (upd (upd (upd (upd (upd (upd (upd (upd (upd (upd (upd (upd (upd (upd (sx 256) (3 : Int32).toNatClampNeg 1) (4 : Int32).toNatClampNeg 0) (17 : Int32).toNatClampNeg 0) (5 : Int32).toNatClampNeg 1) (6 : Int32).toNatClampNeg 0) (7 : Int32).toNatClampNeg 0) (8 : Int32).toNatClampNeg 0) (9 : Int32).toNatClampNeg 0) (15 : Int32).toNatClampNeg 0) (10100 : Int32).toNatClampNeg ((-1))) (18100 : Int32).toNatClampNeg ((-1))) (15 : Int32).toNatClampNeg 1) (10101 : Int32).toNatClampNeg ((-1))) (18101 : Int32).toNatClampNeg ((-1))) (15 : Int32).toNatClampNeg 2) (10102 : Int32).toNatClampNeg ((-1))) (18102 : Int32).toNatClampNeg ((-1))) (15 : Int32).toNatClampNeg 3)))
  refine go_aload_n (pc := 0) dX10_write_0 rfl rfl ?_
  refine go_get (pc := 1) fX10_9 rfl (gz_b (by omega)) ((va_up_ne _ _ (gz_ne (by decide))).trans ((hw 32 (by decide) (by decide)).trans (wl_at (i := 32) rfl))) rfl dX10_write_1 ?_
  refine go_sipush (pc := 4) (v := 10100) dX10_write_4 (by decide) ?_
  refine go_aload_n (pc := 7) dX10_write_7 rfl rfl ?_
  refine go_get (pc := 8) fX10_9 rfl (gz_b (by omega)) ((va_up_ne _ _ (gz_ne (by decide))).trans ((hw 32 (by decide) (by decide)).trans (wl_at (i := 32) rfl))) rfl dX10_write_8 ?_
  refine go_bipush (pc := 11) (v := 15) dX10_write_11 (by decide) ?_
  refine go_iald (pc := 13) (gz_b (by omega)) (va_up_self _ _ _) (gv_in (by decide)) dX10_write_13 ?_
  refine go_top (y := 3) rfl ?_
  refine go_iadd (pc := 14) dX10_write_14 ?_
  refine go_top (y := 10103) (by decide) ?_
  refine go_iload_n (pc := 15) dX10_write_15 rfl rfl ?_
  refine go_iast (pc := 16) (gz_b (by omega)) (va_up_self _ _ _) (gv_in (by decide)) dX10_write_16 ?_
  refine go_w (va_up_up _ _ _ _) ?_
  refine go_aload_n (pc := 17) dX10_write_17 rfl rfl ?_
  refine go_get (pc := 18) fX10_9 rfl (gz_b (by omega)) ((va_up_ne _ _ (gz_ne (by decide))).trans ((hw 32 (by decide) (by decide)).trans (wl_at (i := 32) rfl))) rfl dX10_write_18 ?_
  refine go_sipush (pc := 21) (v := 18100) dX10_write_21 (by decide) ?_
  refine go_aload_n (pc := 24) dX10_write_24 rfl rfl ?_
  refine go_get (pc := 25) fX10_9 rfl (gz_b (by omega)) ((va_up_ne _ _ (gz_ne (by decide))).trans ((hw 32 (by decide) (by decide)).trans (wl_at (i := 32) rfl))) rfl dX10_write_25 ?_
  refine go_bipush (pc := 28) (v := 15) dX10_write_28 (by decide) ?_
  refine go_iald (pc := 30) (gz_b (by omega)) (va_up_self _ _ _) (gv_in (by decide)) dX10_write_30 ?_
  refine go_top (y := 3) rfl ?_
  refine go_iadd (pc := 31) dX10_write_31 ?_
  refine go_top (y := 18103) (by decide) ?_
  refine go_iload_n (pc := 32) dX10_write_32 rfl rfl ?_
  refine go_iast (pc := 33) (gz_b (by omega)) (va_up_self _ _ _) (gv_in (by decide)) dX10_write_33 ?_
  refine go_w (va_up_up _ _ _ _) ?_
  refine go_aload_n (pc := 34) dX10_write_34 rfl rfl ?_
  refine go_get (pc := 35) fX10_9 rfl (gz_b (by omega)) ((va_up_ne _ _ (gz_ne (by decide))).trans ((hw 32 (by decide) (by decide)).trans (wl_at (i := 32) rfl))) rfl dX10_write_35 ?_
  refine go_bipush (pc := 38) (v := 15) dX10_write_38 (by decide) ?_
  refine go_dup2 (pc := 40) dX10_write_40 rfl rfl ?_
  refine go_iald (pc := 41) (gz_b (by omega)) (va_up_self _ _ _) (gv_in (by decide)) dX10_write_41 ?_
  refine go_top (y := 3) rfl ?_
  refine go_iconst (pc := 42) (v := 1) dX10_write_42 (by decide) ?_
  refine go_iadd (pc := 43) dX10_write_43 ?_
  refine go_top (y := 4) (by decide) ?_
  refine go_iast (pc := 44) (gz_b (by omega)) (va_up_self _ _ _) (gv_in (by decide)) dX10_write_44 ?_
  refine go_w (va_up_up _ _ _ _) ?_
  exact go_vret (pc := 45) rfl dX10_write_45
set_option maxRecDepth 100000 in
set_option maxHeartbeats 4000000 in
theorem cX10_write_32 {l : Launch} {G : gG} {n k : Nat} {w : Nat → va_E} (hn : 42 ≤ n) (hw : ∀ i, 32 ≤ i → i < 42 → w (G.2.1 + i) = wl G.2.1 (LF G) (G.2.1 + i)) : Ct l G mX10_write 0 0 [.ref (G.2.1 + 32), .int ((-1))] n k (va_up w (G.2.1 + 33) (ai G 26100 (upd (upd (upd (upd (upd (upd (upd (upd (upd (upd (upd (upd (upd (upd (upd (upd (upd (upd (upd (upd (upd (sx 256) (3 : Int32).toNatClampNeg 1) (4 : Int32).toNatClampNeg 0) (17 : Int32).toNatClampNeg 0) (5 : Int32).toNatClampNeg 1) (6 : Int32).toNatClampNeg 0) (7 : Int32).toNatClampNeg 0) (8 : Int32).toNatClampNeg 0) (9 : Int32).toNatClampNeg 0) (15 : Int32).toNatClampNeg 0) (10100 : Int32).toNatClampNeg ((-1))) (18100 : Int32).toNatClampNeg ((-1))) (15 : Int32).toNatClampNeg 1) (10101 : Int32).toNatClampNeg ((-1))) (18101 : Int32).toNatClampNeg ((-1))) (15 : Int32).toNatClampNeg 2) (10102 : Int32).toNatClampNeg ((-1))) (18102 : Int32).toNatClampNeg ((-1))) (15 : Int32).toNatClampNeg 3) (10103 : Int32).toNatClampNeg ((-1))) (18103 : Int32).toNatClampNeg ((-1))) (15 : Int32).toNatClampNeg 4))) (none, n, k, (va_up w (G.2.1 + 33) (ai G 26100 (upd (upd (upd (upd (upd (upd (upd (upd (upd (upd (upd (upd (upd (upd (upd (upd (upd (upd (upd (upd (upd (upd (upd (upd (sx 256) (3 : Int32).toNatClampNeg 1) (4 : Int32).toNatClampNeg 0) (17 : Int32).toNatClampNeg 0) (5 : Int32).toNatClampNeg 1) (6 : Int32).toNatClampNeg 0) (7 : Int32).toNatClampNeg 0) (8 : Int32).toNatClampNeg 0) (9 : Int32).toNatClampNeg 0) (15 : Int32).toNatClampNeg 0) (10100 : Int32).toNatClampNeg ((-1))) (18100 : Int32).toNatClampNeg ((-1))) (15 : Int32).toNatClampNeg 1) (10101 : Int32).toNatClampNeg ((-1))) (18101 : Int32).toNatClampNeg ((-1))) (15 : Int32).toNatClampNeg 2) (10102 : Int32).toNatClampNeg ((-1))) (18102 : Int32).toNatClampNeg ((-1))) (15 : Int32).toNatClampNeg 3) (10103 : Int32).toNatClampNeg ((-1))) (18103 : Int32).toNatClampNeg ((-1))) (15 : Int32).toNatClampNeg 4) (10104 : Int32).toNatClampNeg ((-1))) (18104 : Int32).toNatClampNeg ((-1))) (15 : Int32).toNatClampNeg 5)))) := by
  refine Ct.of (by decide) (Nat.le_of_ble_eq_true rfl) ⟨Nat.le_refl _, Nat.le_refl _⟩ ?_
  show Go l G mX10_write _ 0 [(0, .ref (G.2.1 + 32)), (1, .int ((-1)))] [] n k (va_up w (G.2.1 + 33) (ai G 26100 (upd (upd (upd (upd (upd (upd (upd (upd (upd (upd (upd (upd (upd (upd (upd (upd (upd (upd (upd (upd (upd (sx 256) (3 : Int32).toNatClampNeg 1) (4 : Int32).toNatClampNeg 0) (17 : Int32).toNatClampNeg 0) (5 : Int32).toNatClampNeg 1) (6 : Int32).toNatClampNeg 0) (7 : Int32).toNatClampNeg 0) (8 : Int32).toNatClampNeg 0) (9 : Int32).toNatClampNeg 0) (15 : Int32).toNatClampNeg 0) (10100 : Int32).toNatClampNeg ((-1))) (18100 : Int32).toNatClampNeg ((-1))) (15 : Int32).toNatClampNeg 1) (10101 : Int32).toNatClampNeg ((-1))) (18101 : Int32).toNatClampNeg ((-1))) (15 : Int32).toNatClampNeg 2) (10102 : Int32).toNatClampNeg ((-1))) (18102 : Int32).toNatClampNeg ((-1))) (15 : Int32).toNatClampNeg 3) (10103 : Int32).toNatClampNeg ((-1))) (18103 : Int32).toNatClampNeg ((-1))) (15 : Int32).toNatClampNeg 4)))
  refine go_aload_n (pc := 0) dX10_write_0 rfl rfl ?_
  refine go_get (pc := 1) fX10_9 rfl (gz_b (by omega)) ((va_up_ne _ _ (gz_ne (by decide))).trans ((hw 32 (by decide) (by decide)).trans (wl_at (i := 32) rfl))) rfl dX10_write_1 ?_
  refine go_sipush (pc := 4) (v := 10100) dX10_write_4 (by decide) ?_
  refine go_aload_n (pc := 7) dX10_write_7 rfl rfl ?_
  refine go_get (pc := 8) fX10_9 rfl (gz_b (by omega)) ((va_up_ne _ _ (gz_ne (by decide))).trans ((hw 32 (by decide) (by decide)).trans (wl_at (i := 32) rfl))) rfl dX10_write_8 ?_
  refine go_bipush (pc := 11) (v := 15) dX10_write_11 (by decide) ?_
  refine go_iald (pc := 13) (gz_b (by omega)) (va_up_self _ _ _) (gv_in (by decide)) dX10_write_13 ?_
  refine go_top (y := 4) rfl ?_
  refine go_iadd (pc := 14) dX10_write_14 ?_
  refine go_top (y := 10104) (by decide) ?_
  refine go_iload_n (pc := 15) dX10_write_15 rfl rfl ?_
  refine go_iast (pc := 16) (gz_b (by omega)) (va_up_self _ _ _) (gv_in (by decide)) dX10_write_16 ?_
  refine go_w (va_up_up _ _ _ _) ?_
  refine go_aload_n (pc := 17) dX10_write_17 rfl rfl ?_
  refine go_get (pc := 18) fX10_9 rfl (gz_b (by omega)) ((va_up_ne _ _ (gz_ne (by decide))).trans ((hw 32 (by decide) (by decide)).trans (wl_at (i := 32) rfl))) rfl dX10_write_18 ?_
  refine go_sipush (pc := 21) (v := 18100) dX10_write_21 (by decide) ?_
  refine go_aload_n (pc := 24) dX10_write_24 rfl rfl ?_
  refine go_get (pc := 25) fX10_9 rfl (gz_b (by omega)) ((va_up_ne _ _ (gz_ne (by decide))).trans ((hw 32 (by decide) (by decide)).trans (wl_at (i := 32) rfl))) rfl dX10_write_25 ?_
  refine go_bipush (pc := 28) (v := 15) dX10_write_28 (by decide) ?_
  refine go_iald (pc := 30) (gz_b (by omega)) (va_up_self _ _ _) (gv_in (by decide)) dX10_write_30 ?_
  refine go_top (y := 4) rfl ?_
  refine go_iadd (pc := 31) dX10_write_31 ?_
  refine go_top (y := 18104) (by decide) ?_
  refine go_iload_n (pc := 32) dX10_write_32 rfl rfl ?_
  refine go_iast (pc := 33) (gz_b (by omega)) (va_up_self _ _ _) (gv_in (by decide)) dX10_write_33 ?_
  refine go_w (va_up_up _ _ _ _) ?_
  refine go_aload_n (pc := 34) dX10_write_34 rfl rfl ?_
  refine go_get (pc := 35) fX10_9 rfl (gz_b (by omega)) ((va_up_ne _ _ (gz_ne (by decide))).trans ((hw 32 (by decide) (by decide)).trans (wl_at (i := 32) rfl))) rfl dX10_write_35 ?_
  refine go_bipush (pc := 38) (v := 15) dX10_write_38 (by decide) ?_
  refine go_dup2 (pc := 40) dX10_write_40 rfl rfl ?_
  refine go_iald (pc := 41) (gz_b (by omega)) (va_up_self _ _ _) (gv_in (by decide)) dX10_write_41 ?_
  refine go_top (y := 4) rfl ?_
  refine go_iconst (pc := 42) (v := 1) dX10_write_42 (by decide) ?_
  refine go_iadd (pc := 43) dX10_write_43 ?_
  refine go_top (y := 5) (by decide) ?_
  refine go_iast (pc := 44) (gz_b (by omega)) (va_up_self _ _ _) (gv_in (by decide)) dX10_write_44 ?_
  refine go_w (va_up_up _ _ _ _) ?_
  exact go_vret (pc := 45) rfl dX10_write_45
set_option maxRecDepth 100000 in
set_option maxHeartbeats 4000000 in
theorem cX10_write_33 {l : Launch} {G : gG} {n k : Nat} {w : Nat → va_E} (hn : 42 ≤ n) (hw : ∀ i, 32 ≤ i → i < 42 → w (G.2.1 + i) = wl G.2.1 (LF G) (G.2.1 + i)) : Ct l G mX10_write 0 0 [.ref (G.2.1 + 32), .int ((-1))] n k (va_up w (G.2.1 + 33) (ai G 26100 (upd (upd (upd (upd (upd (upd (upd (upd (upd (upd (upd (upd (upd (upd (upd (upd (upd (upd (upd (upd (upd (upd (upd (upd (sx 256) (3 : Int32).toNatClampNeg 1) (4 : Int32).toNatClampNeg 0) (17 : Int32).toNatClampNeg 0) (5 : Int32).toNatClampNeg 1) (6 : Int32).toNatClampNeg 0) (7 : Int32).toNatClampNeg 0) (8 : Int32).toNatClampNeg 0) (9 : Int32).toNatClampNeg 0) (15 : Int32).toNatClampNeg 0) (10100 : Int32).toNatClampNeg ((-1))) (18100 : Int32).toNatClampNeg ((-1))) (15 : Int32).toNatClampNeg 1) (10101 : Int32).toNatClampNeg ((-1))) (18101 : Int32).toNatClampNeg ((-1))) (15 : Int32).toNatClampNeg 2) (10102 : Int32).toNatClampNeg ((-1))) (18102 : Int32).toNatClampNeg ((-1))) (15 : Int32).toNatClampNeg 3) (10103 : Int32).toNatClampNeg ((-1))) (18103 : Int32).toNatClampNeg ((-1))) (15 : Int32).toNatClampNeg 4) (10104 : Int32).toNatClampNeg ((-1))) (18104 : Int32).toNatClampNeg ((-1))) (15 : Int32).toNatClampNeg 5))) (none, n, k, (va_up w (G.2.1 + 33) (ai G 26100 (upd (upd (upd (upd (upd (upd (upd (upd (upd (upd (upd (upd (upd (upd (upd (upd (upd (upd (upd (upd (upd (upd (upd (upd (upd (upd (upd (sx 256) (3 : Int32).toNatClampNeg 1) (4 : Int32).toNatClampNeg 0) (17 : Int32).toNatClampNeg 0) (5 : Int32).toNatClampNeg 1) (6 : Int32).toNatClampNeg 0) (7 : Int32).toNatClampNeg 0) (8 : Int32).toNatClampNeg 0) (9 : Int32).toNatClampNeg 0) (15 : Int32).toNatClampNeg 0) (10100 : Int32).toNatClampNeg ((-1))) (18100 : Int32).toNatClampNeg ((-1))) (15 : Int32).toNatClampNeg 1) (10101 : Int32).toNatClampNeg ((-1))) (18101 : Int32).toNatClampNeg ((-1))) (15 : Int32).toNatClampNeg 2) (10102 : Int32).toNatClampNeg ((-1))) (18102 : Int32).toNatClampNeg ((-1))) (15 : Int32).toNatClampNeg 3) (10103 : Int32).toNatClampNeg ((-1))) (18103 : Int32).toNatClampNeg ((-1))) (15 : Int32).toNatClampNeg 4) (10104 : Int32).toNatClampNeg ((-1))) (18104 : Int32).toNatClampNeg ((-1))) (15 : Int32).toNatClampNeg 5) (10105 : Int32).toNatClampNeg ((-1))) (18105 : Int32).toNatClampNeg ((-1))) (15 : Int32).toNatClampNeg 6)))) := by
  refine Ct.of (by decide) (Nat.le_of_ble_eq_true rfl) ⟨Nat.le_refl _, Nat.le_refl _⟩ ?_
  show Go l G mX10_write _ 0 [(0, .ref (G.2.1 + 32)), (1, .int ((-1)))] [] n k (va_up w (G.2.1 + 33) (ai G 26100 (upd (upd (upd (upd (upd (upd (upd (upd (upd (upd (upd (upd (upd (upd (upd (upd (upd (upd (upd (upd (upd (upd (upd (upd (sx 256) (3 : Int32).toNatClampNeg 1) (4 : Int32).toNatClampNeg 0) (17 : Int32).toNatClampNeg 0) (5 : Int32).toNatClampNeg 1) (6 : Int32).toNatClampNeg 0) (7 : Int32).toNatClampNeg 0) (8 : Int32).toNatClampNeg 0) (9 : Int32).toNatClampNeg 0) (15 : Int32).toNatClampNeg 0) (10100 : Int32).toNatClampNeg ((-1))) (18100 : Int32).toNatClampNeg ((-1))) (15 : Int32).toNatClampNeg 1) (10101 : Int32).toNatClampNeg ((-1))) (18101 : Int32).toNatClampNeg ((-1))) (15 : Int32).toNatClampNeg 2) (10102 : Int32).toNatClampNeg ((-1))) (18102 : Int32).toNatClampNeg ((-1))) (15 : Int32).toNatClampNeg 3) (10103 : Int32).toNatClampNeg ((-1))) (18103 : Int32).toNatClampNeg ((-1))) (15 : Int32).toNatClampNeg 4) (10104 : Int32).toNatClampNeg ((-1))) (18104 : Int32).toNatClampNeg ((-1))) (15 : Int32).toNatClampNeg 5)))
  refine go_aload_n (pc := 0) dX10_write_0 rfl rfl ?_
  refine go_get (pc := 1) fX10_9 rfl (gz_b (by omega)) ((va_up_ne _ _ (gz_ne (by decide))).trans ((hw 32 (by decide) (by decide)).trans (wl_at (i := 32) rfl))) rfl dX10_write_1 ?_
  refine go_sipush (pc := 4) (v := 10100) dX10_write_4 (by decide) ?_
  refine go_aload_n (pc := 7) dX10_write_7 rfl rfl ?_
  refine go_get (pc := 8) fX10_9 rfl (gz_b (by omega)) ((va_up_ne _ _ (gz_ne (by decide))).trans ((hw 32 (by decide) (by decide)).trans (wl_at (i := 32) rfl))) rfl dX10_write_8 ?_
  refine go_bipush (pc := 11) (v := 15) dX10_write_11 (by decide) ?_
  refine go_iald (pc := 13) (gz_b (by omega)) (va_up_self _ _ _) (gv_in (by decide)) dX10_write_13 ?_
  refine go_top (y := 5) rfl ?_
  refine go_iadd (pc := 14) dX10_write_14 ?_
  refine go_top (y := 10105) (by decide) ?_
  refine go_iload_n (pc := 15) dX10_write_15 rfl rfl ?_
  refine go_iast (pc := 16) (gz_b (by omega)) (va_up_self _ _ _) (gv_in (by decide)) dX10_write_16 ?_
  refine go_w (va_up_up _ _ _ _) ?_
  refine go_aload_n (pc := 17) dX10_write_17 rfl rfl ?_
  refine go_get (pc := 18) fX10_9 rfl (gz_b (by omega)) ((va_up_ne _ _ (gz_ne (by decide))).trans ((hw 32 (by decide) (by decide)).trans (wl_at (i := 32) rfl))) rfl dX10_write_18 ?_
  refine go_sipush (pc := 21) (v := 18100) dX10_write_21 (by decide) ?_
  refine go_aload_n (pc := 24) dX10_write_24 rfl rfl ?_
  refine go_get (pc := 25) fX10_9 rfl (gz_b (by omega)) ((va_up_ne _ _ (gz_ne (by decide))).trans ((hw 32 (by decide) (by decide)).trans (wl_at (i := 32) rfl))) rfl dX10_write_25 ?_
  refine go_bipush (pc := 28) (v := 15) dX10_write_28 (by decide) ?_
  refine go_iald (pc := 30) (gz_b (by omega)) (va_up_self _ _ _) (gv_in (by decide)) dX10_write_30 ?_
  refine go_top (y := 5) rfl ?_
  refine go_iadd (pc := 31) dX10_write_31 ?_
  refine go_top (y := 18105) (by decide) ?_
  refine go_iload_n (pc := 32) dX10_write_32 rfl rfl ?_
  refine go_iast (pc := 33) (gz_b (by omega)) (va_up_self _ _ _) (gv_in (by decide)) dX10_write_33 ?_
  refine go_w (va_up_up _ _ _ _) ?_
  refine go_aload_n (pc := 34) dX10_write_34 rfl rfl ?_
  refine go_get (pc := 35) fX10_9 rfl (gz_b (by omega)) ((va_up_ne _ _ (gz_ne (by decide))).trans ((hw 32 (by decide) (by decide)).trans (wl_at (i := 32) rfl))) rfl dX10_write_35 ?_
  refine go_bipush (pc := 38) (v := 15) dX10_write_38 (by decide) ?_
  refine go_dup2 (pc := 40) dX10_write_40 rfl rfl ?_
  refine go_iald (pc := 41) (gz_b (by omega)) (va_up_self _ _ _) (gv_in (by decide)) dX10_write_41 ?_
  refine go_top (y := 5) rfl ?_
  refine go_iconst (pc := 42) (v := 1) dX10_write_42 (by decide) ?_
  refine go_iadd (pc := 43) dX10_write_43 ?_
  refine go_top (y := 6) (by decide) ?_
  refine go_iast (pc := 44) (gz_b (by omega)) (va_up_self _ _ _) (gv_in (by decide)) dX10_write_44 ?_
  refine go_w (va_up_up _ _ _ _) ?_
  exact go_vret (pc := 45) rfl dX10_write_45
set_option maxRecDepth 100000 in
set_option maxHeartbeats 4000000 in
theorem cX10_write_34 {l : Launch} {G : gG} {n k : Nat} {w : Nat → va_E} (hn : 42 ≤ n) (hw : ∀ i, 32 ≤ i → i < 42 → w (G.2.1 + i) = wl G.2.1 (LF G) (G.2.1 + i)) : Ct l G mX10_write 0 0 [.ref (G.2.1 + 32), .int ((-1))] n k (va_up w (G.2.1 + 33) (ai G 26100 (upd (upd (upd (upd (upd (upd (upd (upd (upd (upd (upd (upd (upd (upd (upd (upd (upd (upd (upd (upd (upd (upd (upd (upd (upd (upd (upd (sx 256) (3 : Int32).toNatClampNeg 1) (4 : Int32).toNatClampNeg 0) (17 : Int32).toNatClampNeg 0) (5 : Int32).toNatClampNeg 1) (6 : Int32).toNatClampNeg 0) (7 : Int32).toNatClampNeg 0) (8 : Int32).toNatClampNeg 0) (9 : Int32).toNatClampNeg 0) (15 : Int32).toNatClampNeg 0) (10100 : Int32).toNatClampNeg ((-1))) (18100 : Int32).toNatClampNeg ((-1))) (15 : Int32).toNatClampNeg 1) (10101 : Int32).toNatClampNeg ((-1))) (18101 : Int32).toNatClampNeg ((-1))) (15 : Int32).toNatClampNeg 2) (10102 : Int32).toNatClampNeg ((-1))) (18102 : Int32).toNatClampNeg ((-1))) (15 : Int32).toNatClampNeg 3) (10103 : Int32).toNatClampNeg ((-1))) (18103 : Int32).toNatClampNeg ((-1))) (15 : Int32).toNatClampNeg 4) (10104 : Int32).toNatClampNeg ((-1))) (18104 : Int32).toNatClampNeg ((-1))) (15 : Int32).toNatClampNeg 5) (10105 : Int32).toNatClampNeg ((-1))) (18105 : Int32).toNatClampNeg ((-1))) (15 : Int32).toNatClampNeg 6))) (none, n, k, (va_up w (G.2.1 + 33) (ai G 26100 (upd (upd (upd (upd (upd (upd (upd (upd (upd (upd (upd (upd (upd (upd (upd (upd (upd (upd (upd (upd (upd (upd (upd (upd (upd (upd (upd (upd (upd (upd (sx 256) (3 : Int32).toNatClampNeg 1) (4 : Int32).toNatClampNeg 0) (17 : Int32).toNatClampNeg 0) (5 : Int32).toNatClampNeg 1) (6 : Int32).toNatClampNeg 0) (7 : Int32).toNatClampNeg 0) (8 : Int32).toNatClampNeg 0) (9 : Int32).toNatClampNeg 0) (15 : Int32).toNatClampNeg 0) (10100 : Int32).toNatClampNeg ((-1))) (18100 : Int32).toNatClampNeg ((-1))) (15 : Int32).toNatClampNeg 1) (10101 : Int32).toNatClampNeg ((-1))) (18101 : Int32).toNatClampNeg ((-1))) (15 : Int32).toNatClampNeg 2) (10102 : Int32).toNatClampNeg ((-1))) (18102 : Int32).toNatClampNeg ((-1))) (15 : Int32).toNatClampNeg 3) (10103 : Int32).toNatClampNeg ((-1))) (18103 : Int32).toNatClampNeg ((-1))) (15 : Int32).toNatClampNeg 4) (10104 : Int32).toNatClampNeg ((-1))) (18104 : Int32).toNatClampNeg ((-1))) (15 : Int32).toNatClampNeg 5) (10105 : Int32).toNatClampNeg ((-1))) (18105 : Int32).toNatClampNeg ((-1))) (15 : Int32).toNatClampNeg 6) (10106 : Int32).toNatClampNeg ((-1))) (18106 : Int32).toNatClampNeg ((-1))) (15 : Int32).toNatClampNeg 7)))) := by
  refine Ct.of (by decide) (Nat.le_of_ble_eq_true rfl) ⟨Nat.le_refl _, Nat.le_refl _⟩ ?_
  show Go l G mX10_write _ 0 [(0, .ref (G.2.1 + 32)), (1, .int ((-1)))] [] n k (va_up w (G.2.1 + 33) (ai G 26100 (upd (upd (upd (upd (upd (upd (upd (upd (upd (upd (upd (upd (upd (upd (upd (upd (upd (upd (upd (upd (upd (upd (upd (upd (upd (upd (upd (sx 256) (3 : Int32).toNatClampNeg 1) (4 : Int32).toNatClampNeg 0) (17 : Int32).toNatClampNeg 0) (5 : Int32).toNatClampNeg 1) (6 : Int32).toNatClampNeg 0) (7 : Int32).toNatClampNeg 0) (8 : Int32).toNatClampNeg 0) (9 : Int32).toNatClampNeg 0) (15 : Int32).toNatClampNeg 0) (10100 : Int32).toNatClampNeg ((-1))) (18100 : Int32).toNatClampNeg ((-1))) (15 : Int32).toNatClampNeg 1) (10101 : Int32).toNatClampNeg ((-1))) (18101 : Int32).toNatClampNeg ((-1))) (15 : Int32).toNatClampNeg 2) (10102 : Int32).toNatClampNeg ((-1))) (18102 : Int32).toNatClampNeg ((-1))) (15 : Int32).toNatClampNeg 3) (10103 : Int32).toNatClampNeg ((-1))) (18103 : Int32).toNatClampNeg ((-1))) (15 : Int32).toNatClampNeg 4) (10104 : Int32).toNatClampNeg ((-1))) (18104 : Int32).toNatClampNeg ((-1))) (15 : Int32).toNatClampNeg 5) (10105 : Int32).toNatClampNeg ((-1))) (18105 : Int32).toNatClampNeg ((-1))) (15 : Int32).toNatClampNeg 6)))
  refine go_aload_n (pc := 0) dX10_write_0 rfl rfl ?_
  refine go_get (pc := 1) fX10_9 rfl (gz_b (by omega)) ((va_up_ne _ _ (gz_ne (by decide))).trans ((hw 32 (by decide) (by decide)).trans (wl_at (i := 32) rfl))) rfl dX10_write_1 ?_
  refine go_sipush (pc := 4) (v := 10100) dX10_write_4 (by decide) ?_
  refine go_aload_n (pc := 7) dX10_write_7 rfl rfl ?_
  refine go_get (pc := 8) fX10_9 rfl (gz_b (by omega)) ((va_up_ne _ _ (gz_ne (by decide))).trans ((hw 32 (by decide) (by decide)).trans (wl_at (i := 32) rfl))) rfl dX10_write_8 ?_
  refine go_bipush (pc := 11) (v := 15) dX10_write_11 (by decide) ?_
  refine go_iald (pc := 13) (gz_b (by omega)) (va_up_self _ _ _) (gv_in (by decide)) dX10_write_13 ?_
  refine go_top (y := 6) rfl ?_
  refine go_iadd (pc := 14) dX10_write_14 ?_
  refine go_top (y := 10106) (by decide) ?_
  refine go_iload_n (pc := 15) dX10_write_15 rfl rfl ?_
  refine go_iast (pc := 16) (gz_b (by omega)) (va_up_self _ _ _) (gv_in (by decide)) dX10_write_16 ?_
  refine go_w (va_up_up _ _ _ _) ?_
  refine go_aload_n (pc := 17) dX10_write_17 rfl rfl ?_
  refine go_get (pc := 18) fX10_9 rfl (gz_b (by omega)) ((va_up_ne _ _ (gz_ne (by decide))).trans ((hw 32 (by decide) (by decide)).trans (wl_at (i := 32) rfl))) rfl dX10_write_18 ?_
  refine go_sipush (pc := 21) (v := 18100) dX10_write_21 (by decide) ?_
  refine go_aload_n (pc := 24) dX10_write_24 rfl rfl ?_
  refine go_get (pc := 25) fX10_9 rfl (gz_b (by omega)) ((va_up_ne _ _ (gz_ne (by decide))).trans ((hw 32 (by decide) (by decide)).trans (wl_at (i := 32) rfl))) rfl dX10_write_25 ?_
  refine go_bipush (pc := 28) (v := 15) dX10_write_28 (by decide) ?_
  refine go_iald (pc := 30) (gz_b (by omega)) (va_up_self _ _ _) (gv_in (by decide)) dX10_write_30 ?_
  refine go_top (y := 6) rfl ?_
  refine go_iadd (pc := 31) dX10_write_31 ?_
  refine go_top (y := 18106) (by decide) ?_
  refine go_iload_n (pc := 32) dX10_write_32 rfl rfl ?_
  refine go_iast (pc := 33) (gz_b (by omega)) (va_up_self _ _ _) (gv_in (by decide)) dX10_write_33 ?_
  refine go_w (va_up_up _ _ _ _) ?_
  refine go_aload_n (pc := 34) dX10_write_34 rfl rfl ?_
  refine go_get (pc := 35) fX10_9 rfl (gz_b (by omega)) ((va_up_ne _ _ (gz_ne (by decide))).trans ((hw 32 (by decide) (by decide)).trans (wl_at (i := 32) rfl))) rfl dX10_write_35 ?_
  refine go_bipush (pc := 38) (v := 15) dX10_write_38 (by decide) ?_
  refine go_dup2 (pc := 40) dX10_write_40 rfl rfl ?_
  refine go_iald (pc := 41) (gz_b (by omega)) (va_up_self _ _ _) (gv_in (by decide)) dX10_write_41 ?_
  refine go_top (y := 6) rfl ?_
  refine go_iconst (pc := 42) (v := 1) dX10_write_42 (by decide) ?_
  refine go_iadd (pc := 43) dX10_write_43 ?_
  refine go_top (y := 7) (by decide) ?_
  refine go_iast (pc := 44) (gz_b (by omega)) (va_up_self _ _ _) (gv_in (by decide)) dX10_write_44 ?_
  refine go_w (va_up_up _ _ _ _) ?_
  exact go_vret (pc := 45) rfl dX10_write_45
set_option maxRecDepth 100000 in
set_option maxHeartbeats 4000000 in
theorem cX10_write_35 {l : Launch} {G : gG} {n k : Nat} {w : Nat → va_E} (hn : 42 ≤ n) (hw : ∀ i, 32 ≤ i → i < 42 → w (G.2.1 + i) = wl G.2.1 (LF G) (G.2.1 + i)) : Ct l G mX10_write 0 0 [.ref (G.2.1 + 32), .int ((-1))] n k (va_up w (G.2.1 + 33) (ai G 26100 (upd (upd (upd (upd (upd (upd (upd (upd (upd (upd (upd (upd (upd (upd (upd (upd (upd (upd (upd (upd (upd (upd (upd (upd (upd (upd (upd (upd (upd (upd (sx 256) (3 : Int32).toNatClampNeg 1) (4 : Int32).toNatClampNeg 0) (17 : Int32).toNatClampNeg 0) (5 : Int32).toNatClampNeg 1) (6 : Int32).toNatClampNeg 0) (7 : Int32).toNatClampNeg 0) (8 : Int32).toNatClampNeg 0) (9 : Int32).toNatClampNeg 0) (15 : Int32).toNatClampNeg 0) (10100 : Int32).toNatClampNeg ((-1))) (18100 : Int32).toNatClampNeg ((-1))) (15 : Int32).toNatClampNeg 1) (10101 : Int32).toNatClampNeg ((-1))) (18101 : Int32).toNatClampNeg ((-1))) (15 : Int32).toNatClampNeg 2) (10102 : Int32).toNatClampNeg ((-1))) (18102 : Int32).toNatClampNeg ((-1))) (15 : Int32).toNatClampNeg 3) (10103 : Int32).toNatClampNeg ((-1))) (18103 : Int32).toNatClampNeg ((-1))) (15 : Int32).toNatClampNeg 4) (10104 : Int32).toNatClampNeg ((-1))) (18104 : Int32).toNatClampNeg ((-1))) (15 : Int32).toNatClampNeg 5) (10105 : Int32).toNatClampNeg ((-1))) (18105 : Int32).toNatClampNeg ((-1))) (15 : Int32).toNatClampNeg 6) (10106 : Int32).toNatClampNeg ((-1))) (18106 : Int32).toNatClampNeg ((-1))) (15 : Int32).toNatClampNeg 7))) (none, n, k, (va_up w (G.2.1 + 33) (ai G 26100 (upd (upd (upd (upd (upd (upd (upd (upd (upd (upd (upd (upd (upd (upd (upd (upd (upd (upd (upd (upd (upd (upd (upd (upd (upd (upd (upd (upd (upd (upd (upd (upd (upd (sx 256) (3 : Int32).toNatClampNeg 1) (4 : Int32).toNatClampNeg 0) (17 : Int32).toNatClampNeg 0) (5 : Int32).toNatClampNeg 1) (6 : Int32).toNatClampNeg 0) (7 : Int32).toNatClampNeg 0) (8 : Int32).toNatClampNeg 0) (9 : Int32).toNatClampNeg 0) (15 : Int32).toNatClampNeg 0) (10100 : Int32).toNatClampNeg ((-1))) (18100 : Int32).toNatClampNeg ((-1))) (15 : Int32).toNatClampNeg 1) (10101 : Int32).toNatClampNeg ((-1))) (18101 : Int32).toNatClampNeg ((-1))) (15 : Int32).toNatClampNeg 2) (10102 : Int32).toNatClampNeg ((-1))) (18102 : Int32).toNatClampNeg ((-1))) (15 : Int32).toNatClampNeg 3) (10103 : Int32).toNatClampNeg ((-1))) (18103 : Int32).toNatClampNeg ((-1))) (15 : Int32).toNatClampNeg 4) (10104 : Int32).toNatClampNeg ((-1))) (18104 : Int32).toNatClampNeg ((-1))) (15 : Int32).toNatClampNeg 5) (10105 : Int32).toNatClampNeg ((-1))) (18105 : Int32).toNatClampNeg ((-1))) (15 : Int32).toNatClampNeg 6) (10106 : Int32).toNatClampNeg ((-1))) (18106 : Int32).toNatClampNeg ((-1))) (15 : Int32).toNatClampNeg 7) (10107 : Int32).toNatClampNeg ((-1))) (18107 : Int32).toNatClampNeg ((-1))) (15 : Int32).toNatClampNeg 8)))) := by
  refine Ct.of (by decide) (Nat.le_of_ble_eq_true rfl) ⟨Nat.le_refl _, Nat.le_refl _⟩ ?_
  show Go l G mX10_write _ 0 [(0, .ref (G.2.1 + 32)), (1, .int ((-1)))] [] n k (va_up w (G.2.1 + 33) (ai G 26100 (upd (upd (upd (upd (upd (upd (upd (upd (upd (upd (upd (upd (upd (upd (upd (upd (upd (upd (upd (upd (upd (upd (upd (upd (upd (upd (upd (upd (upd (upd (sx 256) (3 : Int32).toNatClampNeg 1) (4 : Int32).toNatClampNeg 0) (17 : Int32).toNatClampNeg 0) (5 : Int32).toNatClampNeg 1) (6 : Int32).toNatClampNeg 0) (7 : Int32).toNatClampNeg 0) (8 : Int32).toNatClampNeg 0) (9 : Int32).toNatClampNeg 0) (15 : Int32).toNatClampNeg 0) (10100 : Int32).toNatClampNeg ((-1))) (18100 : Int32).toNatClampNeg ((-1))) (15 : Int32).toNatClampNeg 1) (10101 : Int32).toNatClampNeg ((-1))) (18101 : Int32).toNatClampNeg ((-1))) (15 : Int32).toNatClampNeg 2) (10102 : Int32).toNatClampNeg ((-1))) (18102 : Int32).toNatClampNeg ((-1))) (15 : Int32).toNatClampNeg 3) (10103 : Int32).toNatClampNeg ((-1))) (18103 : Int32).toNatClampNeg ((-1))) (15 : Int32).toNatClampNeg 4) (10104 : Int32).toNatClampNeg ((-1))) (18104 : Int32).toNatClampNeg ((-1))) (15 : Int32).toNatClampNeg 5) (10105 : Int32).toNatClampNeg ((-1))) (18105 : Int32).toNatClampNeg ((-1))) (15 : Int32).toNatClampNeg 6) (10106 : Int32).toNatClampNeg ((-1))) (18106 : Int32).toNatClampNeg ((-1))) (15 : Int32).toNatClampNeg 7)))
  refine go_aload_n (pc := 0) dX10_write_0 rfl rfl ?_
  refine go_get (pc := 1) fX10_9 rfl (gz_b (by omega)) ((va_up_ne _ _ (gz_ne (by decide))).trans ((hw 32 (by decide) (by decide)).trans (wl_at (i := 32) rfl))) rfl dX10_write_1 ?_
  refine go_sipush (pc := 4) (v := 10100) dX10_write_4 (by decide) ?_
  refine go_aload_n (pc := 7) dX10_write_7 rfl rfl ?_
  refine go_get (pc := 8) fX10_9 rfl (gz_b (by omega)) ((va_up_ne _ _ (gz_ne (by decide))).trans ((hw 32 (by decide) (by decide)).trans (wl_at (i := 32) rfl))) rfl dX10_write_8 ?_
  refine go_bipush (pc := 11) (v := 15) dX10_write_11 (by decide) ?_
  refine go_iald (pc := 13) (gz_b (by omega)) (va_up_self _ _ _) (gv_in (by decide)) dX10_write_13 ?_
  refine go_top (y := 7) rfl ?_
  refine go_iadd (pc := 14) dX10_write_14 ?_
  refine go_top (y := 10107) (by decide) ?_
  refine go_iload_n (pc := 15) dX10_write_15 rfl rfl ?_
  refine go_iast (pc := 16) (gz_b (by omega)) (va_up_self _ _ _) (gv_in (by decide)) dX10_write_16 ?_
  refine go_w (va_up_up _ _ _ _) ?_
  refine go_aload_n (pc := 17) dX10_write_17 rfl rfl ?_
  refine go_get (pc := 18) fX10_9 rfl (gz_b (by omega)) ((va_up_ne _ _ (gz_ne (by decide))).trans ((hw 32 (by decide) (by decide)).trans (wl_at (i := 32) rfl))) rfl dX10_write_18 ?_
  refine go_sipush (pc := 21) (v := 18100) dX10_write_21 (by decide) ?_
  refine go_aload_n (pc := 24) dX10_write_24 rfl rfl ?_
  refine go_get (pc := 25) fX10_9 rfl (gz_b (by omega)) ((va_up_ne _ _ (gz_ne (by decide))).trans ((hw 32 (by decide) (by decide)).trans (wl_at (i := 32) rfl))) rfl dX10_write_25 ?_
  refine go_bipush (pc := 28) (v := 15) dX10_write_28 (by decide) ?_
  refine go_iald (pc := 30) (gz_b (by omega)) (va_up_self _ _ _) (gv_in (by decide)) dX10_write_30 ?_
  refine go_top (y := 7) rfl ?_
  refine go_iadd (pc := 31) dX10_write_31 ?_
  refine go_top (y := 18107) (by decide) ?_
  refine go_iload_n (pc := 32) dX10_write_32 rfl rfl ?_
  refine go_iast (pc := 33) (gz_b (by omega)) (va_up_self _ _ _) (gv_in (by decide)) dX10_write_33 ?_
  refine go_w (va_up_up _ _ _ _) ?_
  refine go_aload_n (pc := 34) dX10_write_34 rfl rfl ?_
  refine go_get (pc := 35) fX10_9 rfl (gz_b (by omega)) ((va_up_ne _ _ (gz_ne (by decide))).trans ((hw 32 (by decide) (by decide)).trans (wl_at (i := 32) rfl))) rfl dX10_write_35 ?_
  refine go_bipush (pc := 38) (v := 15) dX10_write_38 (by decide) ?_
  refine go_dup2 (pc := 40) dX10_write_40 rfl rfl ?_
  refine go_iald (pc := 41) (gz_b (by omega)) (va_up_self _ _ _) (gv_in (by decide)) dX10_write_41 ?_
  refine go_top (y := 7) rfl ?_
  refine go_iconst (pc := 42) (v := 1) dX10_write_42 (by decide) ?_
  refine go_iadd (pc := 43) dX10_write_43 ?_
  refine go_top (y := 8) (by decide) ?_
  refine go_iast (pc := 44) (gz_b (by omega)) (va_up_self _ _ _) (gv_in (by decide)) dX10_write_44 ?_
  refine go_w (va_up_up _ _ _ _) ?_
  exact go_vret (pc := 45) rfl dX10_write_45
set_option maxRecDepth 100000 in
set_option maxHeartbeats 4000000 in
theorem cX10_write_36 {l : Launch} {G : gG} {n k : Nat} {w : Nat → va_E} (hn : 42 ≤ n) (hw : ∀ i, 32 ≤ i → i < 42 → w (G.2.1 + i) = wl G.2.1 (LF G) (G.2.1 + i)) : Ct l G mX10_write 0 0 [.ref (G.2.1 + 32), .int ((-1))] n k (va_up w (G.2.1 + 33) (ai G 26100 (upd (upd (upd (upd (upd (upd (upd (upd (upd (upd (upd (upd (upd (upd (upd (upd (upd (upd (upd (upd (upd (upd (upd (upd (upd (upd (upd (upd (upd (upd (upd (upd (upd (sx 256) (3 : Int32).toNatClampNeg 1) (4 : Int32).toNatClampNeg 0) (17 : Int32).toNatClampNeg 0) (5 : Int32).toNatClampNeg 1) (6 : Int32).toNatClampNeg 0) (7 : Int32).toNatClampNeg 0) (8 : Int32).toNatClampNeg 0) (9 : Int32).toNatClampNeg 0) (15 : Int32).toNatClampNeg 0) (10100 : Int32).toNatClampNeg ((-1))) (18100 : Int32).toNatClampNeg ((-1))) (15 : Int32).toNatClampNeg 1) (10101 : Int32).toNatClampNeg ((-1))) (18101 : Int32).toNatClampNeg ((-1))) (15 : Int32).toNatClampNeg 2) (10102 : Int32).toNatClampNeg ((-1))) (18102 : Int32).toNatClampNeg ((-1))) (15 : Int32).toNatClampNeg 3) (10103 : Int32).toNatClampNeg ((-1))) (18103 : Int32).toNatClampNeg ((-1))) (15 : Int32).toNatClampNeg 4) (10104 : Int32).toNatClampNeg ((-1))) (18104 : Int32).toNatClampNeg ((-1))) (15 : Int32).toNatClampNeg 5) (10105 : Int32).toNatClampNeg ((-1))) (18105 : Int32).toNatClampNeg ((-1))) (15 : Int32).toNatClampNeg 6) (10106 : Int32).toNatClampNeg ((-1))) (18106 : Int32).toNatClampNeg ((-1))) (15 : Int32).toNatClampNeg 7) (10107 : Int32).toNatClampNeg ((-1))) (18107 : Int32).toNatClampNeg ((-1))) (15 : Int32).toNatClampNeg 8))) (none, n, k, (va_up w (G.2.1 + 33) (ai G 26100 (upd (upd (upd (upd (upd (upd (upd (upd (upd (upd (upd (upd (upd (upd (upd (upd (upd (upd (upd (upd (upd (upd (upd (upd (upd (upd (upd (upd (upd (upd (upd (upd (upd (upd (upd (upd (sx 256) (3 : Int32).toNatClampNeg 1) (4 : Int32).toNatClampNeg 0) (17 : Int32).toNatClampNeg 0) (5 : Int32).toNatClampNeg 1) (6 : Int32).toNatClampNeg 0) (7 : Int32).toNatClampNeg 0) (8 : Int32).toNatClampNeg 0) (9 : Int32).toNatClampNeg 0) (15 : Int32).toNatClampNeg 0) (10100 : Int32).toNatClampNeg ((-1))) (18100 : Int32).toNatClampNeg ((-1))) (15 : Int32).toNatClampNeg 1) (10101 : Int32).toNatClampNeg ((-1))) (18101 : Int32).toNatClampNeg ((-1))) (15 : Int32).toNatClampNeg 2) (10102 : Int32).toNatClampNeg ((-1))) (18102 : Int32).toNatClampNeg ((-1))) (15 : Int32).toNatClampNeg 3) (10103 : Int32).toNatClampNeg ((-1))) (18103 : Int32).toNatClampNeg ((-1))) (15 : Int32).toNatClampNeg 4) (10104 : Int32).toNatClampNeg ((-1))) (18104 : Int32).toNatClampNeg ((-1))) (15 : Int32).toNatClampNeg 5) (10105 : Int32).toNatClampNeg ((-1))) (18105 : Int32).toNatClampNeg ((-1))) (15 : Int32).toNatClampNeg 6) (10106 : Int32).toNatClampNeg ((-1))) (18106 : Int32).toNatClampNeg ((-1))) (15 : Int32).toNatClampNeg 7) (10107 : Int32).toNatClampNeg ((-1))) (18107 : Int32).toNatClampNeg ((-1))) (15 : Int32).toNatClampNeg 8) (10108 : Int32).toNatClampNeg ((-1))) (18108 : Int32).toNatClampNeg ((-1))) (15 : Int32).toNatClampNeg 9)))) := by
  refine Ct.of (by decide) (Nat.le_of_ble_eq_true rfl) ⟨Nat.le_refl _, Nat.le_refl _⟩ ?_
  show Go l G mX10_write _ 0 [(0, .ref (G.2.1 + 32)), (1, .int ((-1)))] [] n k (va_up w (G.2.1 + 33) (ai G 26100 (upd (upd (upd (upd (upd (upd (upd (upd (upd (upd (upd (upd (upd (upd (upd (upd (upd (upd (upd (upd (upd (upd (upd (upd (upd (upd (upd (upd (upd (upd (upd (upd (upd (sx 256) (3 : Int32).toNatClampNeg 1) (4 : Int32).toNatClampNeg 0) (17 : Int32).toNatClampNeg 0) (5 : Int32).toNatClampNeg 1) (6 : Int32).toNatClampNeg 0) (7 : Int32).toNatClampNeg 0) (8 : Int32).toNatClampNeg 0) (9 : Int32).toNatClampNeg 0) (15 : Int32).toNatClampNeg 0) (10100 : Int32).toNatClampNeg ((-1))) (18100 : Int32).toNatClampNeg ((-1))) (15 : Int32).toNatClampNeg 1) (10101 : Int32).toNatClampNeg ((-1))) (18101 : Int32).toNatClampNeg ((-1))) (15 : Int32).toNatClampNeg 2) (10102 : Int32).toNatClampNeg ((-1))) (18102 : Int32).toNatClampNeg ((-1))) (15 : Int32).toNatClampNeg 3) (10103 : Int32).toNatClampNeg ((-1))) (18103 : Int32).toNatClampNeg ((-1))) (15 : Int32).toNatClampNeg 4) (10104 : Int32).toNatClampNeg ((-1))) (18104 : Int32).toNatClampNeg ((-1))) (15 : Int32).toNatClampNeg 5) (10105 : Int32).toNatClampNeg ((-1))) (18105 : Int32).toNatClampNeg ((-1))) (15 : Int32).toNatClampNeg 6) (10106 : Int32).toNatClampNeg ((-1))) (18106 : Int32).toNatClampNeg ((-1))) (15 : Int32).toNatClampNeg 7) (10107 : Int32).toNatClampNeg ((-1))) (18107 : Int32).toNatClampNeg ((-1))) (15 : Int32).toNatClampNeg 8)))
  refine go_aload_n (pc := 0) dX10_write_0 rfl rfl ?_
  refine go_get (pc := 1) fX10_9 rfl (gz_b (by omega)) ((va_up_ne _ _ (gz_ne (by decide))).trans ((hw 32 (by decide) (by decide)).trans (wl_at (i := 32) rfl))) rfl dX10_write_1 ?_
  refine go_sipush (pc := 4) (v := 10100) dX10_write_4 (by decide) ?_
  refine go_aload_n (pc := 7) dX10_write_7 rfl rfl ?_
  refine go_get (pc := 8) fX10_9 rfl (gz_b (by omega)) ((va_up_ne _ _ (gz_ne (by decide))).trans ((hw 32 (by decide) (by decide)).trans (wl_at (i := 32) rfl))) rfl dX10_write_8 ?_
  refine go_bipush (pc := 11) (v := 15) dX10_write_11 (by decide) ?_
  refine go_iald (pc := 13) (gz_b (by omega)) (va_up_self _ _ _) (gv_in (by decide)) dX10_write_13 ?_
  refine go_top (y := 8) rfl ?_
  refine go_iadd (pc := 14) dX10_write_14 ?_
  refine go_top (y := 10108) (by decide) ?_
  refine go_iload_n (pc := 15) dX10_write_15 rfl rfl ?_
  refine go_iast (pc := 16) (gz_b (by omega)) (va_up_self _ _ _) (gv_in (by decide)) dX10_write_16 ?_
  refine go_w (va_up_up _ _ _ _) ?_
  refine go_aload_n (pc := 17) dX10_write_17 rfl rfl ?_
  refine go_get (pc := 18) fX10_9 rfl (gz_b (by omega)) ((va_up_ne _ _ (gz_ne (by decide))).trans ((hw 32 (by decide) (by decide)).trans (wl_at (i := 32) rfl))) rfl dX10_write_18 ?_
  refine go_sipush (pc := 21) (v := 18100) dX10_write_21 (by decide) ?_
  refine go_aload_n (pc := 24) dX10_write_24 rfl rfl ?_
  refine go_get (pc := 25) fX10_9 rfl (gz_b (by omega)) ((va_up_ne _ _ (gz_ne (by decide))).trans ((hw 32 (by decide) (by decide)).trans (wl_at (i := 32) rfl))) rfl dX10_write_25 ?_
  refine go_bipush (pc := 28) (v := 15) dX10_write_28 (by decide) ?_
  refine go_iald (pc := 30) (gz_b (by omega)) (va_up_self _ _ _) (gv_in (by decide)) dX10_write_30 ?_
  refine go_top (y := 8) rfl ?_
  refine go_iadd (pc := 31) dX10_write_31 ?_
  refine go_top (y := 18108) (by decide) ?_
  refine go_iload_n (pc := 32) dX10_write_32 rfl rfl ?_
  refine go_iast (pc := 33) (gz_b (by omega)) (va_up_self _ _ _) (gv_in (by decide)) dX10_write_33 ?_
  refine go_w (va_up_up _ _ _ _) ?_
  refine go_aload_n (pc := 34) dX10_write_34 rfl rfl ?_
  refine go_get (pc := 35) fX10_9 rfl (gz_b (by omega)) ((va_up_ne _ _ (gz_ne (by decide))).trans ((hw 32 (by decide) (by decide)).trans (wl_at (i := 32) rfl))) rfl dX10_write_35 ?_
  refine go_bipush (pc := 38) (v := 15) dX10_write_38 (by decide) ?_
  refine go_dup2 (pc := 40) dX10_write_40 rfl rfl ?_
  refine go_iald (pc := 41) (gz_b (by omega)) (va_up_self _ _ _) (gv_in (by decide)) dX10_write_41 ?_
  refine go_top (y := 8) rfl ?_
  refine go_iconst (pc := 42) (v := 1) dX10_write_42 (by decide) ?_
  refine go_iadd (pc := 43) dX10_write_43 ?_
  refine go_top (y := 9) (by decide) ?_
  refine go_iast (pc := 44) (gz_b (by omega)) (va_up_self _ _ _) (gv_in (by decide)) dX10_write_44 ?_
  refine go_w (va_up_up _ _ _ _) ?_
  exact go_vret (pc := 45) rfl dX10_write_45
set_option maxRecDepth 100000 in
set_option maxHeartbeats 4000000 in
theorem cX10_write_37 {l : Launch} {G : gG} {n k : Nat} {w : Nat → va_E} (hn : 42 ≤ n) (hw : ∀ i, 32 ≤ i → i < 42 → w (G.2.1 + i) = wl G.2.1 (LF G) (G.2.1 + i)) : Ct l G mX10_write 0 0 [.ref (G.2.1 + 32), .int ((-1))] n k (va_up w (G.2.1 + 33) (ai G 26100 (upd (upd (upd (upd (upd (upd (upd (upd (upd (upd (upd (upd (upd (upd (upd (upd (upd (upd (upd (upd (upd (upd (upd (upd (upd (upd (upd (upd (upd (upd (upd (upd (upd (upd (upd (upd (sx 256) (3 : Int32).toNatClampNeg 1) (4 : Int32).toNatClampNeg 0) (17 : Int32).toNatClampNeg 0) (5 : Int32).toNatClampNeg 1) (6 : Int32).toNatClampNeg 0) (7 : Int32).toNatClampNeg 0) (8 : Int32).toNatClampNeg 0) (9 : Int32).toNatClampNeg 0) (15 : Int32).toNatClampNeg 0) (10100 : Int32).toNatClampNeg ((-1))) (18100 : Int32).toNatClampNeg ((-1))) (15 : Int32).toNatClampNeg 1) (10101 : Int32).toNatClampNeg ((-1))) (18101 : Int32).toNatClampNeg ((-1))) (15 : Int32).toNatClampNeg 2) (10102 : Int32).toNatClampNeg ((-1))) (18102 : Int32).toNatClampNeg ((-1))) (15 : Int32).toNatClampNeg 3) (10103 : Int32).toNatClampNeg ((-1))) (18103 : Int32).toNatClampNeg ((-1))) (15 : Int32).toNatClampNeg 4) (10104 : Int32).toNatClampNeg ((-1))) (18104 : Int32).toNatClampNeg ((-1))) (15 : Int32).toNatClampNeg 5) (10105 : Int32).toNatClampNeg ((-1))) (18105 : Int32).toNatClampNeg ((-1))) (15 : Int32).toNatClampNeg 6) (10106 : Int32).toNatClampNeg ((-1))) (18106 : Int32).toNatClampNeg ((-1))) (15 : Int32).toNatClampNeg 7) (10107 : Int32).toNatClampNeg ((-1))) (18107 : Int32).toNatClampNeg ((-1))) (15 : Int32).toNatClampNeg 8) (10108 : Int32).toNatClampNeg ((-1))) (18108 : Int32).toNatClampNeg ((-1))) (15 : Int32).toNatClampNeg 9))) (none, n, k, (va_up w (G.2.1 + 33) (ai G 26100 (upd (upd (upd (upd (upd (upd (upd (upd (upd (upd (upd (upd (upd (upd (upd (upd (upd (upd (upd (upd (upd (upd (upd (upd (upd (upd (upd (upd (upd (upd (upd (upd (upd (upd (upd (upd (upd (upd (upd (sx 256) (3 : Int32).toNatClampNeg 1) (4 : Int32).toNatClampNeg 0) (17 : Int32).toNatClampNeg 0) (5 : Int32).toNatClampNeg 1) (6 : Int32).toNatClampNeg 0) (7 : Int32).toNatClampNeg 0) (8 : Int32).toNatClampNeg 0) (9 : Int32).toNatClampNeg 0) (15 : Int32).toNatClampNeg 0) (10100 : Int32).toNatClampNeg ((-1))) (18100 : Int32).toNatClampNeg ((-1))) (15 : Int32).toNatClampNeg 1) (10101 : Int32).toNatClampNeg ((-1))) (18101 : Int32).toNatClampNeg ((-1))) (15 : Int32).toNatClampNeg 2) (10102 : Int32).toNatClampNeg ((-1))) (18102 : Int32).toNatClampNeg ((-1))) (15 : Int32).toNatClampNeg 3) (10103 : Int32).toNatClampNeg ((-1))) (18103 : Int32).toNatClampNeg ((-1))) (15 : Int32).toNatClampNeg 4) (10104 : Int32).toNatClampNeg ((-1))) (18104 : Int32).toNatClampNeg ((-1))) (15 : Int32).toNatClampNeg 5) (10105 : Int32).toNatClampNeg ((-1))) (18105 : Int32).toNatClampNeg ((-1))) (15 : Int32).toNatClampNeg 6) (10106 : Int32).toNatClampNeg ((-1))) (18106 : Int32).toNatClampNeg ((-1))) (15 : Int32).toNatClampNeg 7) (10107 : Int32).toNatClampNeg ((-1))) (18107 : Int32).toNatClampNeg ((-1))) (15 : Int32).toNatClampNeg 8) (10108 : Int32).toNatClampNeg ((-1))) (18108 : Int32).toNatClampNeg ((-1))) (15 : Int32).toNatClampNeg 9) (10109 : Int32).toNatClampNeg ((-1))) (18109 : Int32).toNatClampNeg ((-1))) (15 : Int32).toNatClampNeg 10)))) := by
  refine Ct.of (by decide) (Nat.le_of_ble_eq_true rfl) ⟨Nat.le_refl _, Nat.le_refl _⟩ ?_
  show Go l G mX10_write _ 0 [(0, .ref (G.2.1 + 32)), (1, .int ((-1)))] [] n k (va_up w (G.2.1 + 33) (ai G 26100 (upd (upd (upd (upd (upd (upd (upd (upd (upd (upd (upd (upd (upd (upd (upd (upd (upd (upd (upd (upd (upd (upd (upd (upd (upd (upd (upd (upd (upd (upd (upd (upd (upd (upd (upd (upd (sx 256) (3 : Int32).toNatClampNeg 1) (4 : Int32).toNatClampNeg 0) (17 : Int32).toNatClampNeg 0) (5 : Int32).toNatClampNeg 1) (6 : Int32).toNatClampNeg 0) (7 : Int32).toNatClampNeg 0) (8 : Int32).toNatClampNeg 0) (9 : Int32).toNatClampNeg 0) (15 : Int32).toNatClampNeg 0) (10100 : Int32).toNatClampNeg ((-1))) (18100 : Int32).toNatClampNeg ((-1))) (15 : Int32).toNatClampNeg 1) (10101 : Int32).toNatClampNeg ((-1))) (18101 : Int32).toNatClampNeg ((-1))) (15 : Int32).toNatClampNeg 2) (10102 : Int32).toNatClampNeg ((-1))) (18102 : Int32).toNatClampNeg ((-1))) (15 : Int32).toNatClampNeg 3) (10103 : Int32).toNatClampNeg ((-1))) (18103 : Int32).toNatClampNeg ((-1))) (15 : Int32).toNatClampNeg 4) (10104 : Int32).toNatClampNeg ((-1))) (18104 : Int32).toNatClampNeg ((-1))) (15 : Int32).toNatClampNeg 5) (10105 : Int32).toNatClampNeg ((-1))) (18105 : Int32).toNatClampNeg ((-1))) (15 : Int32).toNatClampNeg 6) (10106 : Int32).toNatClampNeg ((-1))) (18106 : Int32).toNatClampNeg ((-1))) (15 : Int32).toNatClampNeg 7) (10107 : Int32).toNatClampNeg ((-1))) (18107 : Int32).toNatClampNeg ((-1))) (15 : Int32).toNatClampNeg 8) (10108 : Int32).toNatClampNeg ((-1))) (18108 : Int32).toNatClampNeg ((-1))) (15 : Int32).toNatClampNeg 9)))
  refine go_aload_n (pc := 0) dX10_write_0 rfl rfl ?_
  refine go_get (pc := 1) fX10_9 rfl (gz_b (by omega)) ((va_up_ne _ _ (gz_ne (by decide))).trans ((hw 32 (by decide) (by decide)).trans (wl_at (i := 32) rfl))) rfl dX10_write_1 ?_
  refine go_sipush (pc := 4) (v := 10100) dX10_write_4 (by decide) ?_
  refine go_aload_n (pc := 7) dX10_write_7 rfl rfl ?_
  refine go_get (pc := 8) fX10_9 rfl (gz_b (by omega)) ((va_up_ne _ _ (gz_ne (by decide))).trans ((hw 32 (by decide) (by decide)).trans (wl_at (i := 32) rfl))) rfl dX10_write_8 ?_
  refine go_bipush (pc := 11) (v := 15) dX10_write_11 (by decide) ?_
  refine go_iald (pc := 13) (gz_b (by omega)) (va_up_self _ _ _) (gv_in (by decide)) dX10_write_13 ?_
  refine go_top (y := 9) rfl ?_
  refine go_iadd (pc := 14) dX10_write_14 ?_
  refine go_top (y := 10109) (by decide) ?_
  refine go_iload_n (pc := 15) dX10_write_15 rfl rfl ?_
  refine go_iast (pc := 16) (gz_b (by omega)) (va_up_self _ _ _) (gv_in (by decide)) dX10_write_16 ?_
  refine go_w (va_up_up _ _ _ _) ?_
  refine go_aload_n (pc := 17) dX10_write_17 rfl rfl ?_
  refine go_get (pc := 18) fX10_9 rfl (gz_b (by omega)) ((va_up_ne _ _ (gz_ne (by decide))).trans ((hw 32 (by decide) (by decide)).trans (wl_at (i := 32) rfl))) rfl dX10_write_18 ?_
  refine go_sipush (pc := 21) (v := 18100) dX10_write_21 (by decide) ?_
  refine go_aload_n (pc := 24) dX10_write_24 rfl rfl ?_
  refine go_get (pc := 25) fX10_9 rfl (gz_b (by omega)) ((va_up_ne _ _ (gz_ne (by decide))).trans ((hw 32 (by decide) (by decide)).trans (wl_at (i := 32) rfl))) rfl dX10_write_25 ?_
  refine go_bipush (pc := 28) (v := 15) dX10_write_28 (by decide) ?_
  refine go_iald (pc := 30) (gz_b (by omega)) (va_up_self _ _ _) (gv_in (by decide)) dX10_write_30 ?_
  refine go_top (y := 9) rfl ?_
  refine go_iadd (pc := 31) dX10_write_31 ?_
  refine go_top (y := 18109) (by decide) ?_
  refine go_iload_n (pc := 32) dX10_write_32 rfl rfl ?_
  refine go_iast (pc := 33) (gz_b (by omega)) (va_up_self _ _ _) (gv_in (by decide)) dX10_write_33 ?_
  refine go_w (va_up_up _ _ _ _) ?_
  refine go_aload_n (pc := 34) dX10_write_34 rfl rfl ?_
  refine go_get (pc := 35) fX10_9 rfl (gz_b (by omega)) ((va_up_ne _ _ (gz_ne (by decide))).trans ((hw 32 (by decide) (by decide)).trans (wl_at (i := 32) rfl))) rfl dX10_write_35 ?_
  refine go_bipush (pc := 38) (v := 15) dX10_write_38 (by decide) ?_
  refine go_dup2 (pc := 40) dX10_write_40 rfl rfl ?_
  refine go_iald (pc := 41) (gz_b (by omega)) (va_up_self _ _ _) (gv_in (by decide)) dX10_write_41 ?_
  refine go_top (y := 9) rfl ?_
  refine go_iconst (pc := 42) (v := 1) dX10_write_42 (by decide) ?_
  refine go_iadd (pc := 43) dX10_write_43 ?_
  refine go_top (y := 10) (by decide) ?_
  refine go_iast (pc := 44) (gz_b (by omega)) (va_up_self _ _ _) (gv_in (by decide)) dX10_write_44 ?_
  refine go_w (va_up_up _ _ _ _) ?_
  exact go_vret (pc := 45) rfl dX10_write_45
set_option maxRecDepth 100000 in
set_option maxHeartbeats 4000000 in
theorem cX10_write_38 {l : Launch} {G : gG} {n k : Nat} {w : Nat → va_E} (hn : 42 ≤ n) (hw : ∀ i, 32 ≤ i → i < 42 → w (G.2.1 + i) = wl G.2.1 (LF G) (G.2.1 + i)) : Ct l G mX10_write 0 0 [.ref (G.2.1 + 32), .int ((-1))] n k (va_up w (G.2.1 + 33) (ai G 26100 (upd (upd (upd (upd (upd (upd (upd (upd (upd (upd (upd (upd (upd (upd (upd (upd (upd (upd (upd (upd (upd (upd (upd (upd (upd (upd (upd (upd (upd (upd (upd (upd (upd (upd (upd (upd (upd (upd (upd (sx 256) (3 : Int32).toNatClampNeg 1) (4 : Int32).toNatClampNeg 0) (17 : Int32).toNatClampNeg 0) (5 : Int32).toNatClampNeg 1) (6 : Int32).toNatClampNeg 0) (7 : Int32).toNatClampNeg 0) (8 : Int32).toNatClampNeg 0) (9 : Int32).toNatClampNeg 0) (15 : Int32).toNatClampNeg 0) (10100 : Int32).toNatClampNeg ((-1))) (18100 : Int32).toNatClampNeg ((-1))) (15 : Int32).toNatClampNeg 1) (10101 : Int32).toNatClampNeg ((-1))) (18101 : Int32).toNatClampNeg ((-1))) (15 : Int32).toNatClampNeg 2) (10102 : Int32).toNatClampNeg ((-1))) (18102 : Int32).toNatClampNeg ((-1))) (15 : Int32).toNatClampNeg 3) (10103 : Int32).toNatClampNeg ((-1))) (18103 : Int32).toNatClampNeg ((-1))) (15 : Int32).toNatClampNeg 4) (10104 : Int32).toNatClampNeg ((-1))) (18104 : Int32).toNatClampNeg ((-1))) (15 : Int32).toNatClampNeg 5) (10105 : Int32).toNatClampNeg ((-1))) (18105 : Int32).toNatClampNeg ((-1))) (15 : Int32).toNatClampNeg 6) (10106 : Int32).toNatClampNeg ((-1))) (18106 : Int32).toNatClampNeg ((-1))) (15 : Int32).toNatClampNeg 7) (10107 : Int32).toNatClampNeg ((-1))) (18107 : Int32).toNatClampNeg ((-1))) (15 : Int32).toNatClampNeg 8) (10108 : Int32).toNatClampNeg ((-1))) (18108 : Int32).toNatClampNeg ((-1))) (15 : Int32).toNatClampNeg 9) (10109 : Int32).toNatClampNeg ((-1))) (18109 : Int32).toNatClampNeg ((-1))) (15 : Int32).toNatClampNeg 10))) (none, n, k, (va_up w (G.2.1 + 33) (ai G 26100 (upd (upd (upd (upd (upd (upd (upd (upd (upd (upd (upd (upd (upd (upd (upd (upd (upd (upd (upd (upd (upd (upd (upd (upd (upd (upd (upd (upd (upd (upd (upd (upd (upd (upd (upd (upd (upd (upd (upd (upd (upd (upd (sx 256) (3 : Int32).toNatClampNeg 1) (4 : Int32).toNatClampNeg 0) (17 : Int32).toNatClampNeg 0) (5 : Int32).toNatClampNeg 1) (6 : Int32).toNatClampNeg 0) (7 : Int32).toNatClampNeg 0) (8 : Int32).toNatClampNeg 0) (9 : Int32).toNatClampNeg 0) (15 : Int32).toNatClampNeg 0) (10100 : Int32).toNatClampNeg ((-1))) (18100 : Int32).toNatClampNeg ((-1))) (15 : Int32).toNatClampNeg 1) (10101 : Int32).toNatClampNeg ((-1))) (18101 : Int32).toNatClampNeg ((-1))) (15 : Int32).toNatClampNeg 2) (10102 : Int32).toNatClampNeg ((-1))) (18102 : Int32).toNatClampNeg ((-1))) (15 : Int32).toNatClampNeg 3) (10103 : Int32).toNatClampNeg ((-1))) (18103 : Int32).toNatClampNeg ((-1))) (15 : Int32).toNatClampNeg 4) (10104 : Int32).toNatClampNeg ((-1))) (18104 : Int32).toNatClampNeg ((-1))) (15 : Int32).toNatClampNeg 5) (10105 : Int32).toNatClampNeg ((-1))) (18105 : Int32).toNatClampNeg ((-1))) (15 : Int32).toNatClampNeg 6) (10106 : Int32).toNatClampNeg ((-1))) (18106 : Int32).toNatClampNeg ((-1))) (15 : Int32).toNatClampNeg 7) (10107 : Int32).toNatClampNeg ((-1))) (18107 : Int32).toNatClampNeg ((-1))) (15 : Int32).toNatClampNeg 8) (10108 : Int32).toNatClampNeg ((-1))) (18108 : Int32).toNatClampNeg ((-1))) (15 : Int32).toNatClampNeg 9) (10109 : Int32).toNatClampNeg ((-1))) (18109 : Int32).toNatClampNeg ((-1))) (15 : Int32).toNatClampNeg 10) (10110 : Int32).toNatClampNeg ((-1))) (18110 : Int32).toNatClampNeg ((-1))) (15 : Int32).toNatClampNeg 11)))) := by
  refine Ct.of (by decide) (Nat.le_of_ble_eq_true rfl) ⟨Nat.le_refl _, Nat.le_refl _⟩ ?_
  show Go l G mX10_write _ 0 [(0, .ref (G.2.1 + 32)), (1, .int ((-1)))] [] n k (va_up w (G.2.1 + 33) (ai G 26100 (upd (upd (upd (upd (upd (upd (upd (upd (upd (upd (upd (upd (upd (upd (upd (upd (upd (upd (upd (upd (upd (upd (upd (upd (upd (upd (upd (upd (upd (upd (upd (upd (upd (upd (upd (upd (upd (upd (upd (sx 256) (3 : Int32).toNatClampNeg 1) (4 : Int32).toNatClampNeg 0) (17 : Int32).toNatClampNeg 0) (5 : Int32).toNatClampNeg 1) (6 : Int32).toNatClampNeg 0) (7 : Int32).toNatClampNeg 0) (8 : Int32).toNatClampNeg 0) (9 : Int32).toNatClampNeg 0) (15 : Int32).toNatClampNeg 0) (10100 : Int32).toNatClampNeg ((-1))) (18100 : Int32).toNatClampNeg ((-1))) (15 : Int32).toNatClampNeg 1) (10101 : Int32).toNatClampNeg ((-1))) (18101 : Int32).toNatClampNeg ((-1))) (15 : Int32).toNatClampNeg 2) (10102 : Int32).toNatClampNeg ((-1))) (18102 : Int32).toNatClampNeg ((-1))) (15 : Int32).toNatClampNeg 3) (10103 : Int32).toNatClampNeg ((-1))) (18103 : Int32).toNatClampNeg ((-1))) (15 : Int32).toNatClampNeg 4) (10104 : Int32).toNatClampNeg ((-1))) (18104 : Int32).toNatClampNeg ((-1))) (15 : Int32).toNatClampNeg 5) (10105 : Int32).toNatClampNeg ((-1))) (18105 : Int32).toNatClampNeg ((-1))) (15 : Int32).toNatClampNeg 6) (10106 : Int32).toNatClampNeg ((-1))) (18106 : Int32).toNatClampNeg ((-1))) (15 : Int32).toNatClampNeg 7) (10107 : Int32).toNatClampNeg ((-1))) (18107 : Int32).toNatClampNeg ((-1))) (15 : Int32).toNatClampNeg 8) (10108 : Int32).toNatClampNeg ((-1))) (18108 : Int32).toNatClampNeg ((-1))) (15 : Int32).toNatClampNeg 9) (10109 : Int32).toNatClampNeg ((-1))) (18109 : Int32).toNatClampNeg ((-1))) (15 : Int32).toNatClampNeg 10)))
  refine go_aload_n (pc := 0) dX10_write_0 rfl rfl ?_
  refine go_get (pc := 1) fX10_9 rfl (gz_b (by omega)) ((va_up_ne _ _ (gz_ne (by decide))).trans ((hw 32 (by decide) (by decide)).trans (wl_at (i := 32) rfl))) rfl dX10_write_1 ?_
  refine go_sipush (pc := 4) (v := 10100) dX10_write_4 (by decide) ?_
  refine go_aload_n (pc := 7) dX10_write_7 rfl rfl ?_
  refine go_get (pc := 8) fX10_9 rfl (gz_b (by omega)) ((va_up_ne _ _ (gz_ne (by decide))).trans ((hw 32 (by decide) (by decide)).trans (wl_at (i := 32) rfl))) rfl dX10_write_8 ?_
  refine go_bipush (pc := 11) (v := 15) dX10_write_11 (by decide) ?_
  refine go_iald (pc := 13) (gz_b (by omega)) (va_up_self _ _ _) (gv_in (by decide)) dX10_write_13 ?_
  refine go_top (y := 10) rfl ?_
  refine go_iadd (pc := 14) dX10_write_14 ?_
  refine go_top (y := 10110) (by decide) ?_
  refine go_iload_n (pc := 15) dX10_write_15 rfl rfl ?_
  refine go_iast (pc := 16) (gz_b (by omega)) (va_up_self _ _ _) (gv_in (by decide)) dX10_write_16 ?_
  refine go_w (va_up_up _ _ _ _) ?_
  refine go_aload_n (pc := 17) dX10_write_17 rfl rfl ?_
  refine go_get (pc := 18) fX10_9 rfl (gz_b (by omega)) ((va_up_ne _ _ (gz_ne (by decide))).trans ((hw 32 (by decide) (by decide)).trans (wl_at (i := 32) rfl))) rfl dX10_write_18 ?_
  refine go_sipush (pc := 21) (v := 18100) dX10_write_21 (by decide) ?_
  refine go_aload_n (pc := 24) dX10_write_24 rfl rfl ?_
  refine go_get (pc := 25) fX10_9 rfl (gz_b (by omega)) ((va_up_ne _ _ (gz_ne (by decide))).trans ((hw 32 (by decide) (by decide)).trans (wl_at (i := 32) rfl))) rfl dX10_write_25 ?_
  refine go_bipush (pc := 28) (v := 15) dX10_write_28 (by decide) ?_
  refine go_iald (pc := 30) (gz_b (by omega)) (va_up_self _ _ _) (gv_in (by decide)) dX10_write_30 ?_
  refine go_top (y := 10) rfl ?_
  refine go_iadd (pc := 31) dX10_write_31 ?_
  refine go_top (y := 18110) (by decide) ?_
  refine go_iload_n (pc := 32) dX10_write_32 rfl rfl ?_
  refine go_iast (pc := 33) (gz_b (by omega)) (va_up_self _ _ _) (gv_in (by decide)) dX10_write_33 ?_
  refine go_w (va_up_up _ _ _ _) ?_
  refine go_aload_n (pc := 34) dX10_write_34 rfl rfl ?_
  refine go_get (pc := 35) fX10_9 rfl (gz_b (by omega)) ((va_up_ne _ _ (gz_ne (by decide))).trans ((hw 32 (by decide) (by decide)).trans (wl_at (i := 32) rfl))) rfl dX10_write_35 ?_
  refine go_bipush (pc := 38) (v := 15) dX10_write_38 (by decide) ?_
  refine go_dup2 (pc := 40) dX10_write_40 rfl rfl ?_
  refine go_iald (pc := 41) (gz_b (by omega)) (va_up_self _ _ _) (gv_in (by decide)) dX10_write_41 ?_
  refine go_top (y := 10) rfl ?_
  refine go_iconst (pc := 42) (v := 1) dX10_write_42 (by decide) ?_
  refine go_iadd (pc := 43) dX10_write_43 ?_
  refine go_top (y := 11) (by decide) ?_
  refine go_iast (pc := 44) (gz_b (by omega)) (va_up_self _ _ _) (gv_in (by decide)) dX10_write_44 ?_
  refine go_w (va_up_up _ _ _ _) ?_
  exact go_vret (pc := 45) rfl dX10_write_45
set_option maxRecDepth 100000 in
set_option maxHeartbeats 4000000 in
theorem cX10_write_39 {l : Launch} {G : gG} {n k : Nat} {w : Nat → va_E} (hn : 42 ≤ n) (hw : ∀ i, 32 ≤ i → i < 42 → w (G.2.1 + i) = wl G.2.1 (LF G) (G.2.1 + i)) : Ct l G mX10_write 0 0 [.ref (G.2.1 + 32), .int ((-1))] n k (va_up w (G.2.1 + 33) (ai G 26100 (upd (upd (upd (upd (upd (upd (upd (upd (upd (upd (upd (upd (upd (upd (upd (upd (upd (upd (upd (upd (upd (upd (upd (upd (upd (upd (upd (upd (upd (upd (upd (upd (upd (upd (upd (upd (upd (upd (upd (upd (upd (upd (sx 256) (3 : Int32).toNatClampNeg 1) (4 : Int32).toNatClampNeg 0) (17 : Int32).toNatClampNeg 0) (5 : Int32).toNatClampNeg 1) (6 : Int32).toNatClampNeg 0) (7 : Int32).toNatClampNeg 0) (8 : Int32).toNatClampNeg 0) (9 : Int32).toNatClampNeg 0) (15 : Int32).toNatClampNeg 0) (10100 : Int32).toNatClampNeg ((-1))) (18100 : Int32).toNatClampNeg ((-1))) (15 : Int32).toNatClampNeg 1) (10101 : Int32).toNatClampNeg ((-1))) (18101 : Int32).toNatClampNeg ((-1))) (15 : Int32).toNatClampNeg 2) (10102 : Int32).toNatClampNeg ((-1))) (18102 : Int32).toNatClampNeg ((-1))) (15 : Int32).toNatClampNeg 3) (10103 : Int32).toNatClampNeg ((-1))) (18103 : Int32).toNatClampNeg ((-1))) (15 : Int32).toNatClampNeg 4) (10104 : Int32).toNatClampNeg ((-1))) (18104 : Int32).toNatClampNeg ((-1))) (15 : Int32).toNatClampNeg 5) (10105 : Int32).toNatClampNeg ((-1))) (18105 : Int32).toNatClampNeg ((-1))) (15 : Int32).toNatClampNeg 6) (10106 : Int32).toNatClampNeg ((-1))) (18106 : Int32).toNatClampNeg ((-1))) (15 : Int32).toNatClampNeg 7) (10107 : Int32).toNatClampNeg ((-1))) (18107 : Int32).toNatClampNeg ((-1))) (15 : Int32).toNatClampNeg 8) (10108 : Int32).toNatClampNeg ((-1))) (18108 : Int32).toNatClampNeg ((-1))) (15 : Int32).toNatClampNeg 9) (10109 : Int32).toNatClampNeg ((-1))) (18109 : Int32).toNatClampNeg ((-1))) (15 : Int32).toNatClampNeg 10) (10110 : Int32).toNatClampNeg ((-1))) (18110 : Int32).toNatClampNeg ((-1))) (15 : Int32).toNatClampNeg 11))) (none, n, k, (va_up w (G.2.1 + 33) (ai G 26100 (upd (upd (upd (upd (upd (upd (upd (upd (upd (upd (upd (upd (upd (upd (upd (upd (upd (upd (upd (upd (upd (upd (upd (upd (upd (upd (upd (upd (upd (upd (upd (upd (upd (upd (upd (upd (upd (upd (upd (upd (upd (upd (upd (upd (upd (sx 256) (3 : Int32).toNatClampNeg 1) (4 : Int32).toNatClampNeg 0) (17 : Int32).toNatClampNeg 0) (5 : Int32).toNatClampNeg 1) (6 : Int32).toNatClampNeg 0) (7 : Int32).toNatClampNeg 0) (8 : Int32).toNatClampNeg 0) (9 : Int32).toNatClampNeg 0) (15 : Int32).toNatClampNeg 0) (10100 : Int32).toNatClampNeg ((-1))) (18100 : Int32).toNatClampNeg ((-1))) (15 : Int32).toNatClampNeg 1) (10101 : Int32).toNatClampNeg ((-1))) (18101 : Int32).toNatClampNeg ((-1))) (15 : Int32).toNatClampNeg 2) (10102 : Int32).toNatClampNeg ((-1))) (18102 : Int32).toNatClampNeg ((-1))) (15 : Int32).toNatClampNeg 3) (10103 : Int32).toNatClampNeg ((-1))) (18103 : Int32).toNatClampNeg ((-1))) (15 : Int32).toNatClampNeg 4) (10104 : Int32).toNatClampNeg ((-1))) (18104 : Int32).toNatClampNeg ((-1))) (15 : Int32).toNatClampNeg 5) (10105 : Int32).toNatClampNeg ((-1))) (18105 : Int32).toNatClampNeg ((-1))) (15 : Int32).toNatClampNeg 6) (10106 : Int32).toNatClampNeg ((-1))) (18106 : Int32).toNatClampNeg ((-1))) (15 : Int32).toNatClampNeg 7) (10107 : Int32).toNatClampNeg ((-1))) (18107 : Int32).toNatClampNeg ((-1))) (15 : Int32).toNatClampNeg 8) (10108 : Int32).toNatClampNeg ((-1))) (18108 : Int32).toNatClampNeg ((-1))) (15 : Int32).toNatClampNeg 9) (10109 : Int32).toNatClampNeg ((-1))) (18109 : Int32).toNatClampNeg ((-1))) (15 : Int32).toNatClampNeg 10) (10110 : Int32).toNatClampNeg ((-1))) (18110 : Int32).toNatClampNeg ((-1))) (15 : Int32).toNatClampNeg 11) (10111 : Int32).toNatClampNeg ((-1))) (18111 : Int32).toNatClampNeg ((-1))) (15 : Int32).toNatClampNeg 12)))) := by
  refine Ct.of (by decide) (Nat.le_of_ble_eq_true rfl) ⟨Nat.le_refl _, Nat.le_refl _⟩ ?_
  show Go l G mX10_write _ 0 [(0, .ref (G.2.1 + 32)), (1, .int ((-1)))] [] n k (va_up w (G.2.1 + 33) (ai G 26100 (upd (upd (upd (upd (upd (upd (upd (upd (upd (upd (upd (upd (upd (upd (upd (upd (upd (upd (upd (upd (upd (upd (upd (upd (upd (upd (upd (upd (upd (upd (upd (upd (upd (upd (upd (upd (upd (upd (upd (upd (upd (upd (sx 256) (3 : Int32).toNatClampNeg 1) (4 : Int32).toNatClampNeg 0) (17 : Int32).toNatClampNeg 0) (5 : Int32).toNatClampNeg 1) (6 : Int32).toNatClampNeg 0) (7 : Int32).toNatClampNeg 0) (8 : Int32).toNatClampNeg 0) (9 : Int32).toNatClampNeg 0) (15 : Int32).toNatClampNeg 0) (10100 : Int32).toNatClampNeg ((-1))) (18100 : Int32).toNatClampNeg ((-1))) (15 : Int32).toNatClampNeg 1) (10101 : Int32).toNatClampNeg ((-1))) (18101 : Int32).toNatClampNeg ((-1))) (15 : Int32).toNatClampNeg 2) (10102 : Int32).toNatClampNeg ((-1))) (18102 : Int32).toNatClampNeg ((-1))) (15 : Int32).toNatClampNeg 3) (10103 : Int32).toNatClampNeg ((-1))) (18103 : Int32).toNatClampNeg ((-1))) (15 : Int32).toNatClampNeg 4) (10104 : Int32).toNatClampNeg ((-1))) (18104 : Int32).toNatClampNeg ((-1))) (15 : Int32).toNatClampNeg 5) (10105 : Int32).toNatClampNeg ((-1))) (18105 : Int32).toNatClampNeg ((-1))) (15 : Int32).toNatClampNeg 6) (10106 : Int32).toNatClampNeg ((-1))) (18106 : Int32).toNatClampNeg ((-1))) (15 : Int32).toNatClampNeg 7) (10107 : Int32).toNatClampNeg ((-1))) (18107 : Int32).toNatClampNeg ((-1))) (15 : Int32).toNatClampNeg 8) (10108 : Int32).toNatClampNeg ((-1))) (18108 : Int32).toNatClampNeg ((-1))) (15 : Int32).toNatClampNeg 9) (10109 : Int32).toNatClampNeg ((-1))) (18109 : Int32).toNatClampNeg ((-1))) (15 : Int32).toNatClampNeg 10) (10110 : Int32).toNatClampNeg ((-1))) (18110 : Int32).toNatClampNeg ((-1))) (15 : Int32).toNatClampNeg 11)))
  refine go_aload_n (pc := 0) dX10_write_0 rfl rfl ?_
  refine go_get (pc := 1) fX10_9 rfl (gz_b (by omega)) ((va_up_ne _ _ (gz_ne (by decide))).trans ((hw 32 (by decide) (by decide)).trans (wl_at (i := 32) rfl))) rfl dX10_write_1 ?_
  refine go_sipush (pc := 4) (v := 10100) dX10_write_4 (by decide) ?_
  refine go_aload_n (pc := 7) dX10_write_7 rfl rfl ?_
  refine go_get (pc := 8) fX10_9 rfl (gz_b (by omega)) ((va_up_ne _ _ (gz_ne (by decide))).trans ((hw 32 (by decide) (by decide)).trans (wl_at (i := 32) rfl))) rfl dX10_write_8 ?_
  refine go_bipush (pc := 11) (v := 15) dX10_write_11 (by decide) ?_
  refine go_iald (pc := 13) (gz_b (by omega)) (va_up_self _ _ _) (gv_in (by decide)) dX10_write_13 ?_
  refine go_top (y := 11) rfl ?_
  refine go_iadd (pc := 14) dX10_write_14 ?_
  refine go_top (y := 10111) (by decide) ?_
  refine go_iload_n (pc := 15) dX10_write_15 rfl rfl ?_
  refine go_iast (pc := 16) (gz_b (by omega)) (va_up_self _ _ _) (gv_in (by decide)) dX10_write_16 ?_
  refine go_w (va_up_up _ _ _ _) ?_
  refine go_aload_n (pc := 17) dX10_write_17 rfl rfl ?_
  refine go_get (pc := 18) fX10_9 rfl (gz_b (by omega)) ((va_up_ne _ _ (gz_ne (by decide))).trans ((hw 32 (by decide) (by decide)).trans (wl_at (i := 32) rfl))) rfl dX10_write_18 ?_
  refine go_sipush (pc := 21) (v := 18100) dX10_write_21 (by decide) ?_
  refine go_aload_n (pc := 24) dX10_write_24 rfl rfl ?_
  refine go_get (pc := 25) fX10_9 rfl (gz_b (by omega)) ((va_up_ne _ _ (gz_ne (by decide))).trans ((hw 32 (by decide) (by decide)).trans (wl_at (i := 32) rfl))) rfl dX10_write_25 ?_
  refine go_bipush (pc := 28) (v := 15) dX10_write_28 (by decide) ?_
  refine go_iald (pc := 30) (gz_b (by omega)) (va_up_self _ _ _) (gv_in (by decide)) dX10_write_30 ?_
  refine go_top (y := 11) rfl ?_
  refine go_iadd (pc := 31) dX10_write_31 ?_
  refine go_top (y := 18111) (by decide) ?_
  refine go_iload_n (pc := 32) dX10_write_32 rfl rfl ?_
  refine go_iast (pc := 33) (gz_b (by omega)) (va_up_self _ _ _) (gv_in (by decide)) dX10_write_33 ?_
  refine go_w (va_up_up _ _ _ _) ?_
  refine go_aload_n (pc := 34) dX10_write_34 rfl rfl ?_
  refine go_get (pc := 35) fX10_9 rfl (gz_b (by omega)) ((va_up_ne _ _ (gz_ne (by decide))).trans ((hw 32 (by decide) (by decide)).trans (wl_at (i := 32) rfl))) rfl dX10_write_35 ?_
  refine go_bipush (pc := 38) (v := 15) dX10_write_38 (by decide) ?_
  refine go_dup2 (pc := 40) dX10_write_40 rfl rfl ?_
  refine go_iald (pc := 41) (gz_b (by omega)) (va_up_self _ _ _) (gv_in (by decide)) dX10_write_41 ?_
  refine go_top (y := 11) rfl ?_
  refine go_iconst (pc := 42) (v := 1) dX10_write_42 (by decide) ?_
  refine go_iadd (pc := 43) dX10_write_43 ?_
  refine go_top (y := 12) (by decide) ?_
  refine go_iast (pc := 44) (gz_b (by omega)) (va_up_self _ _ _) (gv_in (by decide)) dX10_write_44 ?_
  refine go_w (va_up_up _ _ _ _) ?_
  exact go_vret (pc := 45) rfl dX10_write_45
set_option maxRecDepth 100000 in
set_option maxHeartbeats 4000000 in
theorem cX10_write_40 {l : Launch} {G : gG} {n k : Nat} {w : Nat → va_E} (hn : 42 ≤ n) (hw : ∀ i, 32 ≤ i → i < 42 → w (G.2.1 + i) = wl G.2.1 (LF G) (G.2.1 + i)) : Ct l G mX10_write 0 0 [.ref (G.2.1 + 32), .int ((-1))] n k (va_up w (G.2.1 + 33) (ai G 26100 (upd (upd (upd (upd (upd (upd (upd (upd (upd (upd (upd (upd (upd (upd (upd (upd (upd (upd (upd (upd (upd (upd (upd (upd (upd (upd (upd (upd (upd (upd (upd (upd (upd (upd (upd (upd (upd (upd (upd (upd (upd (upd (upd (upd (upd (sx 256) (3 : Int32).toNatClampNeg 1) (4 : Int32).toNatClampNeg 0) (17 : Int32).toNatClampNeg 0) (5 : Int32).toNatClampNeg 1) (6 : Int32).toNatClampNeg 0) (7 : Int32).toNatClampNeg 0) (8 : Int32).toNatClampNeg 0) (9 : Int32).toNatClampNeg 0) (15 : Int32).toNatClampNeg 0) (10100 : Int32).toNatClampNeg ((-1))) (18100 : Int32).toNatClampNeg ((-1))) (15 : Int32).toNatClampNeg 1) (10101 : Int32).toNatClampNeg ((-1))) (18101 : Int32).toNatClampNeg ((-1))) (15 : Int32).toNatClampNeg 2) (10102 : Int32).toNatClampNeg ((-1))) (18102 : Int32).toNatClampNeg ((-1))) (15 : Int32).toNatClampNeg 3) (10103 : Int32).toNatClampNeg ((-1))) (18103 : Int32).toNatClampNeg ((-1))) (15 : Int32).toNatClampNeg 4) (10104 : Int32).toNatClampNeg ((-1))) (18104 : Int32).toNatClampNeg ((-1))) (15 : Int32).toNatClampNeg 5) (10105 : Int32).toNatClampNeg ((-1))) (18105 : Int32).toNatClampNeg ((-1))) (15 : Int32).toNatClampNeg 6) (10106 : Int32).toNatClampNeg ((-1))) (18106 : Int32).toNatClampNeg ((-1))) (15 : Int32).toNatClampNeg 7) (10107 : Int32).toNatClampNeg ((-1))) (18107 : Int32).toNatClampNeg ((-1))) (15 : Int32).toNatClampNeg 8) (10108 : Int32).toNatClampNeg ((-1))) (18108 : Int32).toNatClampNeg ((-1))) (15 : Int32).toNatClampNeg 9) (10109 : Int32).toNatClampNeg ((-1))) (18109 : Int32).toNatClampNeg ((-1))) (15 : Int32).toNatClampNeg 10) (10110 : Int32).toNatClampNeg ((-1))) (18110 : Int32).toNatClampNeg ((-1))) (15 : Int32).toNatClampNeg 11) (10111 : Int32).toNatClampNeg ((-1))) (18111 : Int32).toNatClampNeg ((-1))) (15 : Int32).toNatClampNeg 12))) (none, n, k, (va_up w (G.2.1 + 33) (ai G 26100 (upd (upd (upd (upd (upd (upd (upd (upd (upd (upd (upd (upd (upd (upd (upd (upd (upd (upd (upd (upd (upd (upd (upd (upd (upd (upd (upd (upd (upd (upd (upd (upd (upd (upd (upd (upd (upd (upd (upd (upd (upd (upd (upd (upd (upd (upd (upd (upd (sx 256) (3 : Int32).toNatClampNeg 1) (4 : Int32).toNatClampNeg 0) (17 : Int32).toNatClampNeg 0) (5 : Int32).toNatClampNeg 1) (6 : Int32).toNatClampNeg 0) (7 : Int32).toNatClampNeg 0) (8 : Int32).toNatClampNeg 0) (9 : Int32).toNatClampNeg 0) (15 : Int32).toNatClampNeg 0) (10100 : Int32).toNatClampNeg ((-1))) (18100 : Int32).toNatClampNeg ((-1))) (15 : Int32).toNatClampNeg 1) (10101 : Int32).toNatClampNeg ((-1))) (18101 : Int32).toNatClampNeg ((-1))) (15 : Int32).toNatClampNeg 2) (10102 : Int32).toNatClampNeg ((-1))) (18102 : Int32).toNatClampNeg ((-1))) (15 : Int32).toNatClampNeg 3) (10103 : Int32).toNatClampNeg ((-1))) (18103 : Int32).toNatClampNeg ((-1))) (15 : Int32).toNatClampNeg 4) (10104 : Int32).toNatClampNeg ((-1))) (18104 : Int32).toNatClampNeg ((-1))) (15 : Int32).toNatClampNeg 5) (10105 : Int32).toNatClampNeg ((-1))) (18105 : Int32).toNatClampNeg ((-1))) (15 : Int32).toNatClampNeg 6) (10106 : Int32).toNatClampNeg ((-1))) (18106 : Int32).toNatClampNeg ((-1))) (15 : Int32).toNatClampNeg 7) (10107 : Int32).toNatClampNeg ((-1))) (18107 : Int32).toNatClampNeg ((-1))) (15 : Int32).toNatClampNeg 8) (10108 : Int32).toNatClampNeg ((-1))) (18108 : Int32).toNatClampNeg ((-1))) (15 : Int32).toNatClampNeg 9) (10109 : Int32).toNatClampNeg ((-1))) (18109 : Int32).toNatClampNeg ((-1))) (15 : Int32).toNatClampNeg 10) (10110 : Int32).toNatClampNeg ((-1))) (18110 : Int32).toNatClampNeg ((-1))) (15 : Int32).toNatClampNeg 11) (10111 : Int32).toNatClampNeg ((-1))) (18111 : Int32).toNatClampNeg ((-1))) (15 : Int32).toNatClampNeg 12) (10112 : Int32).toNatClampNeg ((-1))) (18112 : Int32).toNatClampNeg ((-1))) (15 : Int32).toNatClampNeg 13)))) := by
  refine Ct.of (by decide) (Nat.le_of_ble_eq_true rfl) ⟨Nat.le_refl _, Nat.le_refl _⟩ ?_
  show Go l G mX10_write _ 0 [(0, .ref (G.2.1 + 32)), (1, .int ((-1)))] [] n k (va_up w (G.2.1 + 33) (ai G 26100 (upd (upd (upd (upd (upd (upd (upd (upd (upd (upd (upd (upd (upd (upd (upd (upd (upd (upd (upd (upd (upd (upd (upd (upd (upd (upd (upd (upd (upd (upd (upd (upd (upd (upd (upd (upd (upd (upd (upd (upd (upd (upd (upd (upd (upd (sx 256) (3 : Int32).toNatClampNeg 1) (4 : Int32).toNatClampNeg 0) (17 : Int32).toNatClampNeg 0) (5 : Int32).toNatClampNeg 1) (6 : Int32).toNatClampNeg 0) (7 : Int32).toNatClampNeg 0) (8 : Int32).toNatClampNeg 0) (9 : Int32).toNatClampNeg 0) (15 : Int32).toNatClampNeg 0) (10100 : Int32).toNatClampNeg ((-1))) (18100 : Int32).toNatClampNeg ((-1))) (15 : Int32).toNatClampNeg 1) (10101 : Int32).toNatClampNeg ((-1))) (18101 : Int32).toNatClampNeg ((-1))) (15 : Int32).toNatClampNeg 2) (10102 : Int32).toNatClampNeg ((-1))) (18102 : Int32).toNatClampNeg ((-1))) (15 : Int32).toNatClampNeg 3) (10103 : Int32).toNatClampNeg ((-1))) (18103 : Int32).toNatClampNeg ((-1))) (15 : Int32).toNatClampNeg 4) (10104 : Int32).toNatClampNeg ((-1))) (18104 : Int32).toNatClampNeg ((-1))) (15 : Int32).toNatClampNeg 5) (10105 : Int32).toNatClampNeg ((-1))) (18105 : Int32).toNatClampNeg ((-1))) (15 : Int32).toNatClampNeg 6) (10106 : Int32).toNatClampNeg ((-1))) (18106 : Int32).toNatClampNeg ((-1))) (15 : Int32).toNatClampNeg 7) (10107 : Int32).toNatClampNeg ((-1))) (18107 : Int32).toNatClampNeg ((-1))) (15 : Int32).toNatClampNeg 8) (10108 : Int32).toNatClampNeg ((-1))) (18108 : Int32).toNatClampNeg ((-1))) (15 : Int32).toNatClampNeg 9) (10109 : Int32).toNatClampNeg ((-1))) (18109 : Int32).toNatClampNeg ((-1))) (15 : Int32).toNatClampNeg 10) (10110 : Int32).toNatClampNeg ((-1))) (18110 : Int32).toNatClampNeg ((-1))) (15 : Int32).toNatClampNeg 11) (10111 : Int32).toNatClampNeg ((-1))) (18111 : Int32).toNatClampNeg ((-1))) (15 : Int32).toNatClampNeg 12)))
  refine go_aload_n (pc := 0) dX10_write_0 rfl rfl ?_
  refine go_get (pc := 1) fX10_9 rfl (gz_b (by omega)) ((va_up_ne _ _ (gz_ne (by decide))).trans ((hw 32 (by decide) (by decide)).trans (wl_at (i := 32) rfl))) rfl dX10_write_1 ?_
  refine go_sipush (pc := 4) (v := 10100) dX10_write_4 (by decide) ?_
  refine go_aload_n (pc := 7) dX10_write_7 rfl rfl ?_
  refine go_get (pc := 8) fX10_9 rfl (gz_b (by omega)) ((va_up_ne _ _ (gz_ne (by decide))).trans ((hw 32 (by decide) (by decide)).trans (wl_at (i := 32) rfl))) rfl dX10_write_8 ?_
  refine go_bipush (pc := 11) (v := 15) dX10_write_11 (by decide) ?_
  refine go_iald (pc := 13) (gz_b (by omega)) (va_up_self _ _ _) (gv_in (by decide)) dX10_write_13 ?_
  refine go_top (y := 12) rfl ?_
  refine go_iadd (pc := 14) dX10_write_14 ?_
  refine go_top (y := 10112) (by decide) ?_
  refine go_iload_n (pc := 15) dX10_write_15 rfl rfl ?_
  refine go_iast (pc := 16) (gz_b (by omega)) (va_up_self _ _ _) (gv_in (by decide)) dX10_write_16 ?_
  refine go_w (va_up_up _ _ _ _) ?_
  refine go_aload_n (pc := 17) dX10_write_17 rfl rfl ?_
  refine go_get (pc := 18) fX10_9 rfl (gz_b (by omega)) ((va_up_ne _ _ (gz_ne (by decide))).trans ((hw 32 (by decide) (by decide)).trans (wl_at (i := 32) rfl))) rfl dX10_write_18 ?_
  refine go_sipush (pc := 21) (v := 18100) dX10_write_21 (by decide) ?_
  refine go_aload_n (pc := 24) dX10_write_24 rfl rfl ?_
  refine go_get (pc := 25) fX10_9 rfl (gz_b (by omega)) ((va_up_ne _ _ (gz_ne (by decide))).trans ((hw 32 (by decide) (by decide)).trans (wl_at (i := 32) rfl))) rfl dX10_write_25 ?_
  refine go_bipush (pc := 28) (v := 15) dX10_write_28 (by decide) ?_
  refine go_iald (pc := 30) (gz_b (by omega)) (va_up_self _ _ _) (gv_in (by decide)) dX10_write_30 ?_
  refine go_top (y := 12) rfl ?_
  refine go_iadd (pc := 31) dX10_write_31 ?_
  refine go_top (y := 18112) (by decide) ?_
  refine go_iload_n (pc := 32) dX10_write_32 rfl rfl ?_
  refine go_iast (pc := 33) (gz_b (by omega)) (va_up_self _ _ _) (gv_in (by decide)) dX10_write_33 ?_
  refine go_w (va_up_up _ _ _ _) ?_
  refine go_aload_n (pc := 34) dX10_write_34 rfl rfl ?_
  refine go_get (pc := 35) fX10_9 rfl (gz_b (by omega)) ((va_up_ne _ _ (gz_ne (by decide))).trans ((hw 32 (by decide) (by decide)).trans (wl_at (i := 32) rfl))) rfl dX10_write_35 ?_
  refine go_bipush (pc := 38) (v := 15) dX10_write_38 (by decide) ?_
  refine go_dup2 (pc := 40) dX10_write_40 rfl rfl ?_
  refine go_iald (pc := 41) (gz_b (by omega)) (va_up_self _ _ _) (gv_in (by decide)) dX10_write_41 ?_
  refine go_top (y := 12) rfl ?_
  refine go_iconst (pc := 42) (v := 1) dX10_write_42 (by decide) ?_
  refine go_iadd (pc := 43) dX10_write_43 ?_
  refine go_top (y := 13) (by decide) ?_
  refine go_iast (pc := 44) (gz_b (by omega)) (va_up_self _ _ _) (gv_in (by decide)) dX10_write_44 ?_
  refine go_w (va_up_up _ _ _ _) ?_
  exact go_vret (pc := 45) rfl dX10_write_45
set_option maxRecDepth 100000 in
set_option maxHeartbeats 4000000 in
theorem cX10_write_41 {l : Launch} {G : gG} {n k : Nat} {w : Nat → va_E} (hn : 42 ≤ n) (hw : ∀ i, 32 ≤ i → i < 42 → w (G.2.1 + i) = wl G.2.1 (LF G) (G.2.1 + i)) : Ct l G mX10_write 0 0 [.ref (G.2.1 + 32), .int ((-1))] n k (va_up w (G.2.1 + 33) (ai G 26100 (upd (upd (upd (upd (upd (upd (upd (upd (upd (upd (upd (upd (upd (upd (upd (upd (upd (upd (upd (upd (upd (upd (upd (upd (upd (upd (upd (upd (upd (upd (upd (upd (upd (upd (upd (upd (upd (upd (upd (upd (upd (upd (upd (upd (upd (upd (upd (upd (sx 256) (3 : Int32).toNatClampNeg 1) (4 : Int32).toNatClampNeg 0) (17 : Int32).toNatClampNeg 0) (5 : Int32).toNatClampNeg 1) (6 : Int32).toNatClampNeg 0) (7 : Int32).toNatClampNeg 0) (8 : Int32).toNatClampNeg 0) (9 : Int32).toNatClampNeg 0) (15 : Int32).toNatClampNeg 0) (10100 : Int32).toNatClampNeg ((-1))) (18100 : Int32).toNatClampNeg ((-1))) (15 : Int32).toNatClampNeg 1) (10101 : Int32).toNatClampNeg ((-1))) (18101 : Int32).toNatClampNeg ((-1))) (15 : Int32).toNatClampNeg 2) (10102 : Int32).toNatClampNeg ((-1))) (18102 : Int32).toNatClampNeg ((-1))) (15 : Int32).toNatClampNeg 3) (10103 : Int32).toNatClampNeg ((-1))) (18103 : Int32).toNatClampNeg ((-1))) (15 : Int32).toNatClampNeg 4) (10104 : Int32).toNatClampNeg ((-1))) (18104 : Int32).toNatClampNeg ((-1))) (15 : Int32).toNatClampNeg 5) (10105 : Int32).toNatClampNeg ((-1))) (18105 : Int32).toNatClampNeg ((-1))) (15 : Int32).toNatClampNeg 6) (10106 : Int32).toNatClampNeg ((-1))) (18106 : Int32).toNatClampNeg ((-1))) (15 : Int32).toNatClampNeg 7) (10107 : Int32).toNatClampNeg ((-1))) (18107 : Int32).toNatClampNeg ((-1))) (15 : Int32).toNatClampNeg 8) (10108 : Int32).toNatClampNeg ((-1))) (18108 : Int32).toNatClampNeg ((-1))) (15 : Int32).toNatClampNeg 9) (10109 : Int32).toNatClampNeg ((-1))) (18109 : Int32).toNatClampNeg ((-1))) (15 : Int32).toNatClampNeg 10) (10110 : Int32).toNatClampNeg ((-1))) (18110 : Int32).toNatClampNeg ((-1))) (15 : Int32).toNatClampNeg 11) (10111 : Int32).toNatClampNeg ((-1))) (18111 : Int32).toNatClampNeg ((-1))) (15 : Int32).toNatClampNeg 12) (10112 : Int32).toNatClampNeg ((-1))) (18112 : Int32).toNatClampNeg ((-1))) (15 : Int32).toNatClampNeg 13))) (none, n, k, (va_up w (G.2.1 + 33) (ai G 26100 (upd (upd (upd (upd (upd (upd (upd (upd (upd (upd (upd (upd (upd (upd (upd (upd (upd (upd (upd (upd (upd (upd (upd (upd (upd (upd (upd (upd (upd (upd (upd (upd (upd (upd (upd (upd (upd (upd (upd (upd (upd (upd (upd (upd (upd (upd (upd (upd (upd (upd (upd (sx 256) (3 : Int32).toNatClampNeg 1) (4 : Int32).toNatClampNeg 0) (17 : Int32).toNatClampNeg 0) (5 : Int32).toNatClampNeg 1) (6 : Int32).toNatClampNeg 0) (7 : Int32).toNatClampNeg 0) (8 : Int32).toNatClampNeg 0) (9 : Int32).toNatClampNeg 0) (15 : Int32).toNatClampNeg 0) (10100 : Int32).toNatClampNeg ((-1))) (18100 : Int32).toNatClampNeg ((-1))) (15 : Int32).toNatClampNeg 1) (10101 : Int32).toNatClampNeg ((-1))) (18101 : Int32).toNatClampNeg ((-1))) (15 : Int32).toNatClampNeg 2) (10102 : Int32).toNatClampNeg ((-1))) (18102 : Int32).toNatClampNeg ((-1))) (15 : Int32).toNatClampNeg 3) (10103 : Int32).toNatClampNeg ((-1))) (18103 : Int32).toNatClampNeg ((-1))) (15 : Int32).toNatClampNeg 4) (10104 : Int32).toNatClampNeg ((-1))) (18104 : Int32).toNatClampNeg ((-1))) (15 : Int32).toNatClampNeg 5) (10105 : Int32).toNatClampNeg ((-1))) (18105 : Int32).toNatClampNeg ((-1))) (15 : Int32).toNatClampNeg 6) (10106 : Int32).toNatClampNeg ((-1))) (18106 : Int32).toNatClampNeg ((-1))) (15 : Int32).toNatClampNeg 7) (10107 : Int32).toNatClampNeg ((-1))) (18107 : Int32).toNatClampNeg ((-1))) (15 : Int32).toNatClampNeg 8) (10108 : Int32).toNatClampNeg ((-1))) (18108 : Int32).toNatClampNeg ((-1))) (15 : Int32).toNatClampNeg 9) (10109 : Int32).toNatClampNeg ((-1))) (18109 : Int32).toNatClampNeg ((-1))) (15 : Int32).toNatClampNeg 10) (10110 : Int32).toNatClampNeg ((-1))) (18110 : Int32).toNatClampNeg ((-1))) (15 : Int32).toNatClampNeg 11) (10111 : Int32).toNatClampNeg ((-1))) (18111 : Int32).toNatClampNeg ((-1))) (15 : Int32).toNatClampNeg 12) (10112 : Int32).toNatClampNeg ((-1))) (18112 : Int32).toNatClampNeg ((-1))) (15 : Int32).toNatClampNeg 13) (10113 : Int32).toNatClampNeg ((-1))) (18113 : Int32).toNatClampNeg ((-1))) (15 : Int32).toNatClampNeg 14)))) := by
  refine Ct.of (by decide) (Nat.le_of_ble_eq_true rfl) ⟨Nat.le_refl _, Nat.le_refl _⟩ ?_
  show Go l G mX10_write _ 0 [(0, .ref (G.2.1 + 32)), (1, .int ((-1)))] [] n k (va_up w (G.2.1 + 33) (ai G 26100 (upd (upd (upd (upd (upd (upd (upd (upd (upd (upd (upd (upd (upd (upd (upd (upd (upd (upd (upd (upd (upd (upd (upd (upd (upd (upd (upd (upd (upd (upd (upd (upd (upd (upd (upd (upd (upd (upd (upd (upd (upd (upd (upd (upd (upd (upd (upd (upd (sx 256) (3 : Int32).toNatClampNeg 1) (4 : Int32).toNatClampNeg 0) (17 : Int32).toNatClampNeg 0) (5 : Int32).toNatClampNeg 1) (6 : Int32).toNatClampNeg 0) (7 : Int32).toNatClampNeg 0) (8 : Int32).toNatClampNeg 0) (9 : Int32).toNatClampNeg 0) (15 : Int32).toNatClampNeg 0) (10100 : Int32).toNatClampNeg ((-1))) (18100 : Int32).toNatClampNeg ((-1))) (15 : Int32).toNatClampNeg 1) (10101 : Int32).toNatClampNeg ((-1))) (18101 : Int32).toNatClampNeg ((-1))) (15 : Int32).toNatClampNeg 2) (10102 : Int32).toNatClampNeg ((-1))) (18102 : Int32).toNatClampNeg ((-1))) (15 : Int32).toNatClampNeg 3) (10103 : Int32).toNatClampNeg ((-1))) (18103 : Int32).toNatClampNeg ((-1))) (15 : Int32).toNatClampNeg 4) (10104 : Int32).toNatClampNeg ((-1))) (18104 : Int32).toNatClampNeg ((-1))) (15 : Int32).toNatClampNeg 5) (10105 : Int32).toNatClampNeg ((-1))) (18105 : Int32).toNatClampNeg ((-1))) (15 : Int32).toNatClampNeg 6) (10106 : Int32).toNatClampNeg ((-1))) (18106 : Int32).toNatClampNeg ((-1))) (15 : Int32).toNatClampNeg 7) (10107 : Int32).toNatClampNeg ((-1))) (18107 : Int32).toNatClampNeg ((-1))) (15 : Int32).toNatClampNeg 8) (10108 : Int32).toNatClampNeg ((-1))) (18108 : Int32).toNatClampNeg ((-1))) (15 : Int32).toNatClampNeg 9) (10109 : Int32).toNatClampNeg ((-1))) (18109 : Int32).toNatClampNeg ((-1))) (15 : Int32).toNatClampNeg 10) (10110 : Int32).toNatClampNeg ((-1))) (18110 : Int32).toNatClampNeg ((-1))) (15 : Int32).toNatClampNeg 11) (10111 : Int32).toNatClampNeg ((-1))) (18111 : Int32).toNatClampNeg ((-1))) (15 : Int32).toNatClampNeg 12) (10112 : Int32).toNatClampNeg ((-1))) (18112 : Int32).toNatClampNeg ((-1))) (15 : Int32).toNatClampNeg 13)))
  refine go_aload_n (pc := 0) dX10_write_0 rfl rfl ?_
  refine go_get (pc := 1) fX10_9 rfl (gz_b (by omega)) ((va_up_ne _ _ (gz_ne (by decide))).trans ((hw 32 (by decide) (by decide)).trans (wl_at (i := 32) rfl))) rfl dX10_write_1 ?_
  refine go_sipush (pc := 4) (v := 10100) dX10_write_4 (by decide) ?_
  refine go_aload_n (pc := 7) dX10_write_7 rfl rfl ?_
  refine go_get (pc := 8) fX10_9 rfl (gz_b (by omega)) ((va_up_ne _ _ (gz_ne (by decide))).trans ((hw 32 (by decide) (by decide)).trans (wl_at (i := 32) rfl))) rfl dX10_write_8 ?_
  refine go_bipush (pc := 11) (v := 15) dX10_write_11 (by decide) ?_
  refine go_iald (pc := 13) (gz_b (by omega)) (va_up_self _ _ _) (gv_in (by decide)) dX10_write_13 ?_
  refine go_top (y := 13) rfl ?_
  refine go_iadd (pc := 14) dX10_write_14 ?_
  refine go_top (y := 10113) (by decide) ?_
  refine go_iload_n (pc := 15) dX10_write_15 rfl rfl ?_
  refine go_iast (pc := 16) (gz_b (by omega)) (va_up_self _ _ _) (gv_in (by decide)) dX10_write_16 ?_
  refine go_w (va_up_up _ _ _ _) ?_
  refine go_aload_n (pc := 17) dX10_write_17 rfl rfl ?_
  refine go_get (pc := 18) fX10_9 rfl (gz_b (by omega)) ((va_up_ne _ _ (gz_ne (by decide))).trans ((hw 32 (by decide) (by decide)).trans (wl_at (i := 32) rfl))) rfl dX10_write_18 ?_
  refine go_sipush (pc := 21) (v := 18100) dX10_write_21 (by decide) ?_
  refine go_aload_n (pc := 24) dX10_write_24 rfl rfl ?_
  refine go_get (pc := 25) fX10_9 rfl (gz_b (by omega)) ((va_up_ne _ _ (gz_ne (by decide))).trans ((hw 32 (by decide) (by decide)).trans (wl_at (i := 32) rfl))) rfl dX10_write_25 ?_
  refine go_bipush (pc := 28) (v := 15) dX10_write_28 (by decide) ?_
  refine go_iald (pc := 30) (gz_b (by omega)) (va_up_self _ _ _) (gv_in (by decide)) dX10_write_30 ?_
  refine go_top (y := 13) rfl ?_
  refine go_iadd (pc := 31) dX10_write_31 ?_
  refine go_top (y := 18113) (by decide) ?_
  refine go_iload_n (pc := 32) dX10_write_32 rfl rfl ?_
  refine go_iast (pc := 33) (gz_b (by omega)) (va_up_self _ _ _) (gv_in (by decide)) dX10_write_33 ?_
  refine go_w (va_up_up _ _ _ _) ?_
  refine go_aload_n (pc := 34) dX10_write_34 rfl rfl ?_
  refine go_get (pc := 35) fX10_9 rfl (gz_b (by omega)) ((va_up_ne _ _ (gz_ne (by decide))).trans ((hw 32 (by decide) (by decide)).trans (wl_at (i := 32) rfl))) rfl dX10_write_35 ?_
  refine go_bipush (pc := 38) (v := 15) dX10_write_38 (by decide) ?_
  refine go_dup2 (pc := 40) dX10_write_40 rfl rfl ?_
  refine go_iald (pc := 41) (gz_b (by omega)) (va_up_self _ _ _) (gv_in (by decide)) dX10_write_41 ?_
  refine go_top (y := 13) rfl ?_
  refine go_iconst (pc := 42) (v := 1) dX10_write_42 (by decide) ?_
  refine go_iadd (pc := 43) dX10_write_43 ?_
  refine go_top (y := 14) (by decide) ?_
  refine go_iast (pc := 44) (gz_b (by omega)) (va_up_self _ _ _) (gv_in (by decide)) dX10_write_44 ?_
  refine go_w (va_up_up _ _ _ _) ?_
  exact go_vret (pc := 45) rfl dX10_write_45
set_option maxRecDepth 100000 in
set_option maxHeartbeats 4000000 in
theorem cX10_write_42 {l : Launch} {G : gG} {n k : Nat} {w : Nat → va_E} (hn : 42 ≤ n) (hw : ∀ i, 32 ≤ i → i < 42 → w (G.2.1 + i) = wl G.2.1 (LF G) (G.2.1 + i)) : Ct l G mX10_write 0 0 [.ref (G.2.1 + 32), .int ((-1))] n k (va_up w (G.2.1 + 33) (ai G 26100 (upd (upd (upd (upd (upd (upd (upd (upd (upd (upd (upd (upd (upd (upd (upd (upd (upd (upd (upd (upd (upd (upd (upd (upd (upd (upd (upd (upd (upd (upd (upd (upd (upd (upd (upd (upd (upd (upd (upd (upd (upd (upd (upd (upd (upd (upd (upd (upd (upd (upd (upd (sx 256) (3 : Int32).toNatClampNeg 1) (4 : Int32).toNatClampNeg 0) (17 : Int32).toNatClampNeg 0) (5 : Int32).toNatClampNeg 1) (6 : Int32).toNatClampNeg 0) (7 : Int32).toNatClampNeg 0) (8 : Int32).toNatClampNeg 0) (9 : Int32).toNatClampNeg 0) (15 : Int32).toNatClampNeg 0) (10100 : Int32).toNatClampNeg ((-1))) (18100 : Int32).toNatClampNeg ((-1))) (15 : Int32).toNatClampNeg 1) (10101 : Int32).toNatClampNeg ((-1))) (18101 : Int32).toNatClampNeg ((-1))) (15 : Int32).toNatClampNeg 2) (10102 : Int32).toNatClampNeg ((-1))) (18102 : Int32).toNatClampNeg ((-1))) (15 : Int32).toNatClampNeg 3) (10103 : Int32).toNatClampNeg ((-1))) (18103 : Int32).toNatClampNeg ((-1))) (15 : Int32).toNatClampNeg 4) (10104 : Int32).toNatClampNeg ((-1))) (18104 : Int32).toNatClampNeg ((-1))) (15 : Int32).toNatClampNeg 5) (10105 : Int32).toNatClampNeg ((-1))) (18105 : Int32).toNatClampNeg ((-1))) (15 : Int32).toNatClampNeg 6) (10106 : Int32).toNatClampNeg ((-1))) (18106 : Int32).toNatClampNeg ((-1))) (15 : Int32).toNatClampNeg 7) (10107 : Int32).toNatClampNeg ((-1))) (18107 : Int32).toNatClampNeg ((-1))) (15 : Int32).toNatClampNeg 8) (10108 : Int32).toNatClampNeg ((-1))) (18108 : Int32).toNatClampNeg ((-1))) (15 : Int32).toNatClampNeg 9) (10109 : Int32).toNatClampNeg ((-1))) (18109 : Int32).toNatClampNeg ((-1))) (15 : Int32).toNatClampNeg 10) (10110 : Int32).toNatClampNeg ((-1))) (18110 : Int32).toNatClampNeg ((-1))) (15 : Int32).toNatClampNeg 11) (10111 : Int32).toNatClampNeg ((-1))) (18111 : Int32).toNatClampNeg ((-1))) (15 : Int32).toNatClampNeg 12) (10112 : Int32).toNatClampNeg ((-1))) (18112 : Int32).toNatClampNeg ((-1))) (15 : Int32).toNatClampNeg 13) (10113 : Int32).toNatClampNeg ((-1))) (18113 : Int32).toNatClampNeg ((-1))) (15 : Int32).toNatClampNeg 14))) (none, n, k, (va_up w (G.2.1 + 33) (ai G 26100 (upd (upd (upd (upd (upd (upd (upd (upd (upd (upd (upd (upd (upd (upd (upd (upd (upd (upd (upd (upd (upd (upd (upd (upd (upd (upd (upd (upd (upd (upd (upd (upd (upd (upd (upd (upd (upd (upd (upd (upd (upd (upd (upd (upd (upd (upd (upd (upd (upd (upd (upd (upd (upd (upd (sx 256) (3 : Int32).toNatClampNeg 1) (4 : Int32).toNatClampNeg 0) (17 : Int32).toNatClampNeg 0) (5 : Int32).toNatClampNeg 1) (6 : Int32).toNatClampNeg 0) (7 : Int32).toNatClampNeg 0) (8 : Int32).toNatClampNeg 0) (9 : Int32).toNatClampNeg 0) (15 : Int32).toNatClampNeg 0) (10100 : Int32).toNatClampNeg ((-1))) (18100 : Int32).toNatClampNeg ((-1))) (15 : Int32).toNatClampNeg 1) (10101 : Int32).toNatClampNeg ((-1))) (18101 : Int32).toNatClampNeg ((-1))) (15 : Int32).toNatClampNeg 2) (10102 : Int32).toNatClampNeg ((-1))) (18102 : Int32).toNatClampNeg ((-1))) (15 : Int32).toNatClampNeg 3) (10103 : Int32).toNatClampNeg ((-1))) (18103 : Int32).toNatClampNeg ((-1))) (15 : Int32).toNatClampNeg 4) (10104 : Int32).toNatClampNeg ((-1))) (18104 : Int32).toNatClampNeg ((-1))) (15 : Int32).toNatClampNeg 5) (10105 : Int32).toNatClampNeg ((-1))) (18105 : Int32).toNatClampNeg ((-1))) (15 : Int32).toNatClampNeg 6) (10106 : Int32).toNatClampNeg ((-1))) (18106 : Int32).toNatClampNeg ((-1))) (15 : Int32).toNatClampNeg 7) (10107 : Int32).toNatClampNeg ((-1))) (18107 : Int32).toNatClampNeg ((-1))) (15 : Int32).toNatClampNeg 8) (10108 : Int32).toNatClampNeg ((-1))) (18108 : Int32).toNatClampNeg ((-1))) (15 : Int32).toNatClampNeg 9) (10109 : Int32).toNatClampNeg ((-1))) (18109 : Int32).toNatClampNeg ((-1))) (15 : Int32).toNatClampNeg 10) (10110 : Int32).toNatClampNeg ((-1))) (18110 : Int32).toNatClampNeg ((-1))) (15 : Int32).toNatClampNeg 11) (10111 : Int32).toNatClampNeg ((-1))) (18111 : Int32).toNatClampNeg ((-1))) (15 : Int32).toNatClampNeg 12) (10112 : Int32).toNatClampNeg ((-1))) (18112 : Int32).toNatClampNeg ((-1))) (15 : Int32).toNatClampNeg 13) (10113 : Int32).toNatClampNeg ((-1))) (18113 : Int32).toNatClampNeg ((-1))) (15 : Int32).toNatClampNeg 14) (10114 : Int32).toNatClampNeg ((-1))) (18114 : Int32).toNatClampNeg ((-1))) (15 : Int32).toNatClampNeg 15)))) := by
  refine Ct.of (by decide) (Nat.le_of_ble_eq_true rfl) ⟨Nat.le_refl _, Nat.le_refl _⟩ ?_
  show Go l G mX10_write _ 0 [(0, .ref (G.2.1 + 32)), (1, .int ((-1)))] [] n k (va_up w (G.2.1 + 33) (ai G 26100 (upd (upd (upd (upd (upd (upd (upd (upd (upd (upd (upd (upd (upd (upd (upd (upd (upd (upd (upd (upd (upd (upd (upd (upd (upd (upd (upd (upd (upd (upd (upd (upd (upd (upd (upd (upd (upd (upd (upd (upd (upd (upd (upd (upd (upd (upd (upd (upd (upd (upd (upd (sx 256) (3 : Int32).toNatClampNeg 1) (4 : Int32).toNatClampNeg 0) (17 : Int32).toNatClampNeg 0) (5 : Int32).toNatClampNeg 1) (6 : Int32).toNatClampNeg 0) (7 : Int32).toNatClampNeg 0) (8 : Int32).toNatClampNeg 0) (9 : Int32).toNatClampNeg 0) (15 : Int32).toNatClampNeg 0) (10100 : Int32).toNatClampNeg ((-1))) (18100 : Int32).toNatClampNeg ((-1))) (15 : Int32).toNatClampNeg 1) (10101 : Int32).toNatClampNeg ((-1))) (18101 : Int32).toNatClampNeg ((-1))) (15 : Int32).toNatClampNeg 2) (10102 : Int32).toNatClampNeg ((-1))) (18102 : Int32).toNatClampNeg ((-1))) (15 : Int32).toNatClampNeg 3) (10103 : Int32).toNatClampNeg ((-1))) (18103 : Int32).toNatClampNeg ((-1))) (15 : Int32).toNatClampNeg 4) (10104 : Int32).toNatClampNeg ((-1))) (18104 : Int32).toNatClampNeg ((-1))) (15 : Int32).toNatClampNeg 5) (10105 : Int32).toNatClampNeg ((-1))) (18105 : Int32).toNatClampNeg ((-1))) (15 : Int32).toNatClampNeg 6) (10106 : Int32).toNatClampNeg ((-1))) (18106 : Int32).toNatClampNeg ((-1))) (15 : Int32).toNatClampNeg 7) (10107 : Int32).toNatClampNeg ((-1))) (18107 : Int32).toNatClampNeg ((-1))) (15 : Int32).toNatClampNeg 8) (10108 : Int32).toNatClampNeg ((-1))) (18108 : Int32).toNatClampNeg ((-1))) (15 : Int32).toNatClampNeg 9) (10109 : Int32).toNatClampNeg ((-1))) (18109 : Int32).toNatClampNeg ((-1))) (15 : Int32).toNatClampNeg 10) (10110 : Int32).toNatClampNeg ((-1))) (18110 : Int32).toNatClampNeg ((-1))) (15 : Int32).toNatClampNeg 11) (10111 : Int32).toNatClampNeg ((-1))) (18111 : Int32).toNatClampNeg ((-1))) (15 : Int32).toNatClampNeg 12) (10112 : Int32).toNatClampNeg ((-1))) (18112 : Int32).toNatClampNeg ((-1))) (15 : Int32).toNatClampNeg 13) (10113 : Int32).toNatClampNeg ((-1))) (18113 : Int32).toNatClampNeg ((-1))) (15 : Int32).toNatClampNeg 14)))
  refine go_aload_n (pc := 0) dX10_write_0 rfl rfl ?_
  refine go_get (pc := 1) fX10_9 rfl (gz_b (by omega)) ((va_up_ne _ _ (gz_ne (by decide))).trans ((hw 32 (by decide) (by decide)).trans (wl_at (i := 32) rfl))) rfl dX10_write_1 ?_
  refine go_sipush (pc := 4) (v := 10100) dX10_write_4 (by decide) ?_
  refine go_aload_n (pc := 7) dX10_write_7 rfl rfl ?_
  refine go_get (pc := 8) fX10_9 rfl (gz_b (by omega)) ((va_up_ne _ _ (gz_ne (by decide))).trans ((hw 32 (by decide) (by decide)).trans (wl_at (i := 32) rfl))) rfl dX10_write_8 ?_
  refine go_bipush (pc := 11) (v := 15) dX10_write_11 (by decide) ?_
  refine go_iald (pc := 13) (gz_b (by omega)) (va_up_self _ _ _) (gv_in (by decide)) dX10_write_13 ?_
  refine go_top (y := 14) rfl ?_
  refine go_iadd (pc := 14) dX10_write_14 ?_
  refine go_top (y := 10114) (by decide) ?_
  refine go_iload_n (pc := 15) dX10_write_15 rfl rfl ?_
  refine go_iast (pc := 16) (gz_b (by omega)) (va_up_self _ _ _) (gv_in (by decide)) dX10_write_16 ?_
  refine go_w (va_up_up _ _ _ _) ?_
  refine go_aload_n (pc := 17) dX10_write_17 rfl rfl ?_
  refine go_get (pc := 18) fX10_9 rfl (gz_b (by omega)) ((va_up_ne _ _ (gz_ne (by decide))).trans ((hw 32 (by decide) (by decide)).trans (wl_at (i := 32) rfl))) rfl dX10_write_18 ?_
  refine go_sipush (pc := 21) (v := 18100) dX10_write_21 (by decide) ?_
  refine go_aload_n (pc := 24) dX10_write_24 rfl rfl ?_
  refine go_get (pc := 25) fX10_9 rfl (gz_b (by omega)) ((va_up_ne _ _ (gz_ne (by decide))).trans ((hw 32 (by decide) (by decide)).trans (wl_at (i := 32) rfl))) rfl dX10_write_25 ?_
  refine go_bipush (pc := 28) (v := 15) dX10_write_28 (by decide) ?_
  refine go_iald (pc := 30) (gz_b (by omega)) (va_up_self _ _ _) (gv_in (by decide)) dX10_write_30 ?_
  refine go_top (y := 14) rfl ?_
  refine go_iadd (pc := 31) dX10_write_31 ?_
  refine go_top (y := 18114) (by decide) ?_
  refine go_iload_n (pc := 32) dX10_write_32 rfl rfl ?_
  refine go_iast (pc := 33) (gz_b (by omega)) (va_up_self _ _ _) (gv_in (by decide)) dX10_write_33 ?_
  refine go_w (va_up_up _ _ _ _) ?_
  refine go_aload_n (pc := 34) dX10_write_34 rfl rfl ?_
  refine go_get (pc := 35) fX10_9 rfl (gz_b (by omega)) ((va_up_ne _ _ (gz_ne (by decide))).trans ((hw 32 (by decide) (by decide)).trans (wl_at (i := 32) rfl))) rfl dX10_write_35 ?_
  refine go_bipush (pc := 38) (v := 15) dX10_write_38 (by decide) ?_
  refine go_dup2 (pc := 40) dX10_write_40 rfl rfl ?_
  refine go_iald (pc := 41) (gz_b (by omega)) (va_up_self _ _ _) (gv_in (by decide)) dX10_write_41 ?_
  refine go_top (y := 14) rfl ?_
  refine go_iconst (pc := 42) (v := 1) dX10_write_42 (by decide) ?_
  refine go_iadd (pc := 43) dX10_write_43 ?_
  refine go_top (y := 15) (by decide) ?_
  refine go_iast (pc := 44) (gz_b (by omega)) (va_up_self _ _ _) (gv_in (by decide)) dX10_write_44 ?_
  refine go_w (va_up_up _ _ _ _) ?_
  exact go_vret (pc := 45) rfl dX10_write_45
set_option maxRecDepth 100000 in
set_option maxHeartbeats 4000000 in
theorem cX10_write_43 {l : Launch} {G : gG} {n k : Nat} {w : Nat → va_E} (hn : 42 ≤ n) (hw : ∀ i, 32 ≤ i → i < 42 → w (G.2.1 + i) = wl G.2.1 (LF G) (G.2.1 + i)) : Ct l G mX10_write 0 0 [.ref (G.2.1 + 32), .int ((-1))] n k (va_up w (G.2.1 + 33) (ai G 26100 (upd (upd (upd (upd (upd (upd (upd (upd (upd (upd (upd (upd (upd (upd (upd (upd (upd (upd (upd (upd (upd (upd (upd (upd (upd (upd (upd (upd (upd (upd (upd (upd (upd (upd (upd (upd (upd (upd (upd (upd (upd (upd (upd (upd (upd (upd (upd (upd (upd (upd (upd (upd (upd (upd (sx 256) (3 : Int32).toNatClampNeg 1) (4 : Int32).toNatClampNeg 0) (17 : Int32).toNatClampNeg 0) (5 : Int32).toNatClampNeg 1) (6 : Int32).toNatClampNeg 0) (7 : Int32).toNatClampNeg 0) (8 : Int32).toNatClampNeg 0) (9 : Int32).toNatClampNeg 0) (15 : Int32).toNatClampNeg 0) (10100 : Int32).toNatClampNeg ((-1))) (18100 : Int32).toNatClampNeg ((-1))) (15 : Int32).toNatClampNeg 1) (10101 : Int32).toNatClampNeg ((-1))) (18101 : Int32).toNatClampNeg ((-1))) (15 : Int32).toNatClampNeg 2) (10102 : Int32).toNatClampNeg ((-1))) (18102 : Int32).toNatClampNeg ((-1))) (15 : Int32).toNatClampNeg 3) (10103 : Int32).toNatClampNeg ((-1))) (18103 : Int32).toNatClampNeg ((-1))) (15 : Int32).toNatClampNeg 4) (10104 : Int32).toNatClampNeg ((-1))) (18104 : Int32).toNatClampNeg ((-1))) (15 : Int32).toNatClampNeg 5) (10105 : Int32).toNatClampNeg ((-1))) (18105 : Int32).toNatClampNeg ((-1))) (15 : Int32).toNatClampNeg 6) (10106 : Int32).toNatClampNeg ((-1))) (18106 : Int32).toNatClampNeg ((-1))) (15 : Int32).toNatClampNeg 7) (10107 : Int32).toNatClampNeg ((-1))) (18107 : Int32).toNatClampNeg ((-1))) (15 : Int32).toNatClampNeg 8) (10108 : Int32).toNatClampNeg ((-1))) (18108 : Int32).toNatClampNeg ((-1))) (15 : Int32).toNatClampNeg 9) (10109 : Int32).toNatClampNeg ((-1))) (18109 : Int32).toNatClampNeg ((-1))) (15 : Int32).toNatClampNeg 10) (10110 : Int32).toNatClampNeg ((-1))) (18110 : Int32).toNatClampNeg ((-1))) (15 : Int32).toNatClampNeg 11) (10111 : Int32).toNatClampNeg ((-1))) (18111 : Int32).toNatClampNeg ((-1))) (15 : Int32).toNatClampNeg 12) (10112 : Int32).toNatClampNeg ((-1))) (18112 : Int32).toNatClampNeg ((-1))) (15 : Int32).toNatClampNeg 13) (10113 : Int32).toNatClampNeg ((-1))) (18113 : Int32).toNatClampNeg ((-1))) (15 : Int32).toNatClampNeg 14) (10114 : Int32).toNatClampNeg ((-1))) (18114 : Int32).toNatClampNeg ((-1))) (15 : Int32).toNatClampNeg 15))) (none, n, k, (va_up w (G.2.1 + 33) (ai G 26100 (upd (upd (upd (upd (upd (upd (upd (upd (upd (upd (upd (upd (upd (upd (upd (upd (upd (upd (upd (upd (upd (upd (upd (upd (upd (upd (upd (upd (upd (upd (upd (upd (upd (upd (upd (upd (upd (upd (upd (upd (upd (upd (upd (upd (upd (upd (upd (upd (upd (upd (upd (upd (upd (upd (upd (upd (upd (sx 256) (3 : Int32).toNatClampNeg 1) (4 : Int32).toNatClampNeg 0) (17 : Int32).toNatClampNeg 0) (5 : Int32).toNatClampNeg 1) (6 : Int32).toNatClampNeg 0) (7 : Int32).toNatClampNeg 0) (8 : Int32).toNatClampNeg 0) (9 : Int32).toNatClampNeg 0) (15 : Int32).toNatClampNeg 0) (10100 : Int32).toNatClampNeg ((-1))) (18100 : Int32).toNatClampNeg ((-1))) (15 : Int32).toNatClampNeg 1) (10101 : Int32).toNatClampNeg ((-1))) (18101 : Int32).toNatClampNeg ((-1))) (15 : Int32).toNatClampNeg 2) (10102 : Int32).toNatClampNeg ((-1))) (18102 : Int32).toNatClampNeg ((-1))) (15 : Int32).toNatClampNeg 3) (10103 : Int32).toNatClampNeg ((-1))) (18103 : Int32).toNatClampNeg ((-1))) (15 : Int32).toNatClampNeg 4) (10104 : Int32).toNatClampNeg ((-1))) (18104 : Int32).toNatClampNeg ((-1))) (15 : Int32).toNatClampNeg 5) (10105 : Int32).toNatClampNeg ((-1))) (18105 : Int32).toNatClampNeg ((-1))) (15 : Int32).toNatClampNeg 6) (10106 : Int32).toNatClampNeg ((-1))) (18106 : Int32).toNatClampNeg ((-1))) (15 : Int32).toNatClampNeg 7) (10107 : Int32).toNatClampNeg ((-1))) (18107 : Int32).toNatClampNeg ((-1))) (15 : Int32).toNatClampNeg 8) (10108 : Int32).toNatClampNeg ((-1))) (18108 : Int32).toNatClampNeg ((-1))) (15 : Int32).toNatClampNeg 9) (10109 : Int32).toNatClampNeg ((-1))) (18109 : Int32).toNatClampNeg ((-1))) (15 : Int32).toNatClampNeg 10) (10110 : Int32).toNatClampNeg ((-1))) (18110 : Int32).toNatClampNeg ((-1))) (15 : Int32).toNatClampNeg 11) (10111 : Int32).toNatClampNeg ((-1))) (18111 : Int32).toNatClampNeg ((-1))) (15 : Int32).toNatClampNeg 12) (10112 : Int32).toNatClampNeg ((-1))) (18112 : Int32).toNatClampNeg ((-1))) (15 : Int32).toNatClampNeg 13) (10113 : Int32).toNatClampNeg ((-1))) (18113 : Int32).toNatClampNeg ((-1))) (15 : Int32).toNatClampNeg 14) (10114 : Int32).toNatClampNeg ((-1))) (18114 : Int32).toNatClampNeg ((-1))) (15 : Int32).toNatClampNeg 15) (10115 : Int32).toNatClampNeg ((-1))) (18115 : Int32).toNatClampNeg ((-1))) (15 : Int32).toNatClampNeg 16)))) := by
  refine Ct.of (by decide) (Nat.le_of_ble_eq_true rfl) ⟨Nat.le_refl _, Nat.le_refl _⟩ ?_
  show Go l G mX10_write _ 0 [(0, .ref (G.2.1 + 32)), (1, .int ((-1)))] [] n k (va_up w (G.2.1 + 33) (ai G 26100 (upd (upd (upd (upd (upd (upd (upd (upd (upd (upd (upd (upd (upd (upd (upd (upd (upd (upd (upd (upd (upd (upd (upd (upd (upd (upd (upd (upd (upd (upd (upd (upd (upd (upd (upd (upd (upd (upd (upd (upd (upd (upd (upd (upd (upd (upd (upd (upd (upd (upd (upd (upd (upd (upd (sx 256) (3 : Int32).toNatClampNeg 1) (4 : Int32).toNatClampNeg 0) (17 : Int32).toNatClampNeg 0) (5 : Int32).toNatClampNeg 1) (6 : Int32).toNatClampNeg 0) (7 : Int32).toNatClampNeg 0) (8 : Int32).toNatClampNeg 0) (9 : Int32).toNatClampNeg 0) (15 : Int32).toNatClampNeg 0) (10100 : Int32).toNatClampNeg ((-1))) (18100 : Int32).toNatClampNeg ((-1))) (15 : Int32).toNatClampNeg 1) (10101 : Int32).toNatClampNeg ((-1))) (18101 : Int32).toNatClampNeg ((-1))) (15 : Int32).toNatClampNeg 2) (10102 : Int32).toNatClampNeg ((-1))) (18102 : Int32).toNatClampNeg ((-1))) (15 : Int32).toNatClampNeg 3) (10103 : Int32).toNatClampNeg ((-1))) (18103 : Int32).toNatClampNeg ((-1))) (15 : Int32).toNatClampNeg 4) (10104 : Int32).toNatClampNeg ((-1))) (18104 : Int32).toNatClampNeg ((-1))) (15 : Int32).toNatClampNeg 5) (10105 : Int32).toNatClampNeg ((-1))) (18105 : Int32).toNatClampNeg ((-1))) (15 : Int32).toNatClampNeg 6) (10106 : Int32).toNatClampNeg ((-1))) (18106 : Int32).toNatClampNeg ((-1))) (15 : Int32).toNatClampNeg 7) (10107 : Int32).toNatClampNeg ((-1))) (18107 : Int32).toNatClampNeg ((-1))) (15 : Int32).toNatClampNeg 8) (10108 : Int32).toNatClampNeg ((-1))) (18108 : Int32).toNatClampNeg ((-1))) (15 : Int32).toNatClampNeg 9) (10109 : Int32).toNatClampNeg ((-1))) (18109 : Int32).toNatClampNeg ((-1))) (15 : Int32).toNatClampNeg 10) (10110 : Int32).toNatClampNeg ((-1))) (18110 : Int32).toNatClampNeg ((-1))) (15 : Int32).toNatClampNeg 11) (10111 : Int32).toNatClampNeg ((-1))) (18111 : Int32).toNatClampNeg ((-1))) (15 : Int32).toNatClampNeg 12) (10112 : Int32).toNatClampNeg ((-1))) (18112 : Int32).toNatClampNeg ((-1))) (15 : Int32).toNatClampNeg 13) (10113 : Int32).toNatClampNeg ((-1))) (18113 : Int32).toNatClampNeg ((-1))) (15 : Int32).toNatClampNeg 14) (10114 : Int32).toNatClampNeg ((-1))) (18114 : Int32).toNatClampNeg ((-1))) (15 : Int32).toNatClampNeg 15)))
  refine go_aload_n (pc := 0) dX10_write_0 rfl rfl ?_
  refine go_get (pc := 1) fX10_9 rfl (gz_b (by omega)) ((va_up_ne _ _ (gz_ne (by decide))).trans ((hw 32 (by decide) (by decide)).trans (wl_at (i := 32) rfl))) rfl dX10_write_1 ?_
  refine go_sipush (pc := 4) (v := 10100) dX10_write_4 (by decide) ?_
  refine go_aload_n (pc := 7) dX10_write_7 rfl rfl ?_
  refine go_get (pc := 8) fX10_9 rfl (gz_b (by omega)) ((va_up_ne _ _ (gz_ne (by decide))).trans ((hw 32 (by decide) (by decide)).trans (wl_at (i := 32) rfl))) rfl dX10_write_8 ?_
  refine go_bipush (pc := 11) (v := 15) dX10_write_11 (by decide) ?_
  refine go_iald (pc := 13) (gz_b (by omega)) (va_up_self _ _ _) (gv_in (by decide)) dX10_write_13 ?_
  refine go_top (y := 15) rfl ?_
  refine go_iadd (pc := 14) dX10_write_14 ?_
  refine go_top (y := 10115) (by decide) ?_
  refine go_iload_n (pc := 15) dX10_write_15 rfl rfl ?_
  refine go_iast (pc := 16) (gz_b (by omega)) (va_up_self _ _ _) (gv_in (by decide)) dX10_write_16 ?_
  refine go_w (va_up_up _ _ _ _) ?_
  refine go_aload_n (pc := 17) dX10_write_17 rfl rfl ?_
  refine go_get (pc := 18) fX10_9 rfl (gz_b (by omega)) ((va_up_ne _ _ (gz_ne (by decide))).trans ((hw 32 (by decide) (by decide)).trans (wl_at (i := 32) rfl))) rfl dX10_write_18 ?_
  refine go_sipush (pc := 21) (v := 18100) dX10_write_21 (by decide) ?_
  refine go_aload_n (pc := 24) dX10_write_24 rfl rfl ?_
  refine go_get (pc := 25) fX10_9 rfl (gz_b (by omega)) ((va_up_ne _ _ (gz_ne (by decide))).trans ((hw 32 (by decide) (by decide)).trans (wl_at (i := 32) rfl))) rfl dX10_write_25 ?_
  refine go_bipush (pc := 28) (v := 15) dX10_write_28 (by decide) ?_
  refine go_iald (pc := 30) (gz_b (by omega)) (va_up_self _ _ _) (gv_in (by decide)) dX10_write_30 ?_
  refine go_top (y := 15) rfl ?_
  refine go_iadd (pc := 31) dX10_write_31 ?_
  refine go_top (y := 18115) (by decide) ?_
  refine go_iload_n (pc := 32) dX10_write_32 rfl rfl ?_
  refine go_iast (pc := 33) (gz_b (by omega)) (va_up_self _ _ _) (gv_in (by decide)) dX10_write_33 ?_
  refine go_w (va_up_up _ _ _ _) ?_
  refine go_aload_n (pc := 34) dX10_write_34 rfl rfl ?_
  refine go_get (pc := 35) fX10_9 rfl (gz_b (by omega)) ((va_up_ne _ _ (gz_ne (by decide))).trans ((hw 32 (by decide) (by decide)).trans (wl_at (i := 32) rfl))) rfl dX10_write_35 ?_
  refine go_bipush (pc := 38) (v := 15) dX10_write_38 (by decide) ?_
  refine go_dup2 (pc := 40) dX10_write_40 rfl rfl ?_
  refine go_iald (pc := 41) (gz_b (by omega)) (va_up_self _ _ _) (gv_in (by decide)) dX10_write_41 ?_
  refine go_top (y := 15) rfl ?_
  refine go_iconst (pc := 42) (v := 1) dX10_write_42 (by decide) ?_
  refine go_iadd (pc := 43) dX10_write_43 ?_
  refine go_top (y := 16) (by decide) ?_
  refine go_iast (pc := 44) (gz_b (by omega)) (va_up_self _ _ _) (gv_in (by decide)) dX10_write_44 ?_
  refine go_w (va_up_up _ _ _ _) ?_
  exact go_vret (pc := 45) rfl dX10_write_45
set_option maxRecDepth 100000 in
set_option maxHeartbeats 4000000 in
theorem cX10_write_44 {l : Launch} {G : gG} {n k : Nat} {w : Nat → va_E} (hn : 42 ≤ n) (hw : ∀ i, 32 ≤ i → i < 42 → w (G.2.1 + i) = wl G.2.1 (LF G) (G.2.1 + i)) : Ct l G mX10_write 0 0 [.ref (G.2.1 + 32), .int ((-1))] n k (va_up w (G.2.1 + 33) (ai G 26100 (upd (upd (upd (upd (upd (upd (upd (upd (upd (upd (upd (upd (upd (upd (upd (upd (upd (upd (upd (upd (upd (upd (upd (upd (upd (upd (upd (upd (upd (upd (upd (upd (upd (upd (upd (upd (upd (upd (upd (upd (upd (upd (upd (upd (upd (upd (upd (upd (upd (upd (upd (upd (upd (upd (upd (upd (upd (sx 256) (3 : Int32).toNatClampNeg 1) (4 : Int32).toNatClampNeg 0) (17 : Int32).toNatClampNeg 0) (5 : Int32).toNatClampNeg 1) (6 : Int32).toNatClampNeg 0) (7 : Int32).toNatClampNeg 0) (8 : Int32).toNatClampNeg 0) (9 : Int32).toNatClampNeg 0) (15 : Int32).toNatClampNeg 0) (10100 : Int32).toNatClampNeg ((-1))) (18100 : Int32).toNatClampNeg ((-1))) (15 : Int32).toNatClampNeg 1) (10101 : Int32).toNatClampNeg ((-1))) (18101 : Int32).toNatClampNeg ((-1))) (15 : Int32).toNatClampNeg 2) (10102 : Int32).toNatClampNeg ((-1))) (18102 : Int32).toNatClampNeg ((-1))) (15 : Int32).toNatClampNeg 3) (10103 : Int32).toNatClampNeg ((-1))) (18103 : Int32).toNatClampNeg ((-1))) (15 : Int32).toNatClampNeg 4) (10104 : Int32).toNatClampNeg ((-1))) (18104 : Int32).toNatClampNeg ((-1))) (15 : Int32).toNatClampNeg 5) (10105 : Int32).toNatClampNeg ((-1))) (18105 : Int32).toNatClampNeg ((-1))) (15 : Int32).toNatClampNeg 6) (10106 : Int32).toNatClampNeg ((-1))) (18106 : Int32).toNatClampNeg ((-1))) (15 : Int32).toNatClampNeg 7) (10107 : Int32).toNatClampNeg ((-1))) (18107 : Int32).toNatClampNeg ((-1))) (15 : Int32).toNatClampNeg 8) (10108 : Int32).toNatClampNeg ((-1))) (18108 : Int32).toNatClampNeg ((-1))) (15 : Int32).toNatClampNeg 9) (10109 : Int32).toNatClampNeg ((-1))) (18109 : Int32).toNatClampNeg ((-1))) (15 : Int32).toNatClampNeg 10) (10110 : Int32).toNatClampNeg ((-1))) (18110 : Int32).toNatClampNeg ((-1))) (15 : Int32).toNatClampNeg 11) (10111 : Int32).toNatClampNeg ((-1))) (18111 : Int32).toNatClampNeg ((-1))) (15 : Int32).toNatClampNeg 12) (10112 : Int32).toNatClampNeg ((-1))) (18112 : Int32).toNatClampNeg ((-1))) (15 : Int32).toNatClampNeg 13) (10113 : Int32).toNatClampNeg ((-1))) (18113 : Int32).toNatClampNeg ((-1))) (15 : Int32).toNatClampNeg 14) (10114 : Int32).toNatClampNeg ((-1))) (18114 : Int32).toNatClampNeg ((-1))) (15 : Int32).toNatClampNeg 15) (10115 : Int32).toNatClampNeg ((-1))) (18115 : Int32).toNatClampNeg ((-1))) (15 : Int32).toNatClampNeg 16))) (none, n, k, (va_up w (G.2.1 + 33) (ai G 26100 (upd (upd (upd (upd (upd (upd (upd (upd (upd (upd (upd (upd (upd (upd (upd (upd (upd (upd (upd (upd (upd (upd (upd (upd (upd (upd (upd (upd (upd (upd (upd (upd (upd (upd (upd (upd (upd (upd (upd (upd (upd (upd (upd (upd (upd (upd (upd (upd (upd (upd (upd (upd (upd (upd (upd (upd (upd (upd (upd (upd (sx 256) (3 : Int32).toNatClampNeg 1) (4 : Int32).toNatClampNeg 0) (17 : Int32).toNatClampNeg 0) (5 : Int32).toNatClampNeg 1) (6 : Int32).toNatClampNeg 0) (7 : Int32).toNatClampNeg 0) (8 : Int32).toNatClampNeg 0) (9 : Int32).toNatClampNeg 0) (15 : Int32).toNatClampNeg 0) (10100 : Int32).toNatClampNeg ((-1))) (18100 : Int32).toNatClampNeg ((-1))) (15 : Int32).toNatClampNeg 1) (10101 : Int32).toNatClampNeg ((-1))) (18101 : Int32).toNatClampNeg ((-1))) (15 : Int32).toNatClampNeg 2) (10102 : Int32).toNatClampNeg ((-1))) (18102 : Int32).toNatClampNeg ((-1))) (15 : Int32).toNatClampNeg 3) (10103 : Int32).toNatClampNeg ((-1))) (18103 : Int32).toNatClampNeg ((-1))) (15 : Int32).toNatClampNeg 4) (10104 : Int32).toNatClampNeg ((-1))) (18104 : Int32).toNatClampNeg ((-1))) (15 : Int32).toNatClampNeg 5) (10105 : Int32).toNatClampNeg ((-1))) (18105 : Int32).toNatClampNeg ((-1))) (15 : Int32).toNatClampNeg 6) (10106 : Int32).toNatClampNeg ((-1))) (18106 : Int32).toNatClampNeg ((-1))) (15 : Int32).toNatClampNeg 7) (10107 : Int32).toNatClampNeg ((-1))) (18107 : Int32).toNatClampNeg ((-1))) (15 : Int32).toNatClampNeg 8) (10108 : Int32).toNatClampNeg ((-1))) (18108 : Int32).toNatClampNeg ((-1))) (15 : Int32).toNatClampNeg 9) (10109 : Int32).toNatClampNeg ((-1))) (18109 : Int32).toNatClampNeg ((-1))) (15 : Int32).toNatClampNeg 10) (10110 : Int32).toNatClampNeg ((-1))) (18110 : Int32).toNatClampNeg ((-1))) (15 : Int32).toNatClampNeg 11) (10111 : Int32).toNatClampNeg ((-1))) (18111 : Int32).toNatClampNeg ((-1))) (15 : Int32).toNatClampNeg 12) (10112 : Int32).toNatClampNeg ((-1))) (18112 : Int32).toNatClampNeg ((-1))) (15 : Int32).toNatClampNeg 13) (10113 : Int32).toNatClampNeg ((-1))) (18113 : Int32).toNatClampNeg ((-1))) (15 : Int32).toNatClampNeg 14) (10114 : Int32).toNatClampNeg ((-1))) (18114 : Int32).toNatClampNeg ((-1))) (15 : Int32).toNatClampNeg 15) (10115 : Int32).toNatClampNeg ((-1))) (18115 : Int32).toNatClampNeg ((-1))) (15 : Int32).toNatClampNeg 16) (10116 : Int32).toNatClampNeg ((-1))) (18116 : Int32).toNatClampNeg ((-1))) (15 : Int32).toNatClampNeg 17)))) := by
  refine Ct.of (by decide) (Nat.le_of_ble_eq_true rfl) ⟨Nat.le_refl _, Nat.le_refl _⟩ ?_
  show Go l G mX10_write _ 0 [(0, .ref (G.2.1 + 32)), (1, .int ((-1)))] [] n k (va_up w (G.2.1 + 33) (ai G 26100 (upd (upd (upd (upd (upd (upd (upd (upd (upd (upd (upd (upd (upd (upd (upd (upd (upd (upd (upd (upd (upd (upd (upd (upd (upd (upd (upd (upd (upd (upd (upd (upd (upd (upd (upd (upd (upd (upd (upd (upd (upd (upd (upd (upd (upd (upd (upd (upd (upd (upd (upd (upd (upd (upd (upd (upd (upd (sx 256) (3 : Int32).toNatClampNeg 1) (4 : Int32).toNatClampNeg 0) (17 : Int32).toNatClampNeg 0) (5 : Int32).toNatClampNeg 1) (6 : Int32).toNatClampNeg 0) (7 : Int32).toNatClampNeg 0) (8 : Int32).toNatClampNeg 0) (9 : Int32).toNatClampNeg 0) (15 : Int32).toNatClampNeg 0) (10100 : Int32).toNatClampNeg ((-1))) (18100 : Int32).toNatClampNeg ((-1))) (15 : Int32).toNatClampNeg 1) (10101 : Int32).toNatClampNeg ((-1))) (18101 : Int32).toNatClampNeg ((-1))) (15 : Int32).toNatClampNeg 2) (10102 : Int32).toNatClampNeg ((-1))) (18102 : Int32).toNatClampNeg ((-1))) (15 : Int32).toNatClampNeg 3) (10103 : Int32).toNatClampNeg ((-1))) (18103 : Int32).toNatClampNeg ((-1))) (15 : Int32).toNatClampNeg 4) (10104 : Int32).toNatClampNeg ((-1))) (18104 : Int32).toNatClampNeg ((-1))) (15 : Int32).toNatClampNeg 5) (10105 : Int32).toNatClampNeg ((-1))) (18105 : Int32).toNatClampNeg ((-1))) (15 : Int32).toNatClampNeg 6) (10106 : Int32).toNatClampNeg ((-1))) (18106 : Int32).toNatClampNeg ((-1))) (15 : Int32).toNatClampNeg 7) (10107 : Int32).toNatClampNeg ((-1))) (18107 : Int32).toNatClampNeg ((-1))) (15 : Int32).toNatClampNeg 8) (10108 : Int32).toNatClampNeg ((-1))) (18108 : Int32).toNatClampNeg ((-1))) (15 : Int32).toNatClampNeg 9) (10109 : Int32).toNatClampNeg ((-1))) (18109 : Int32).toNatClampNeg ((-1))) (15 : Int32).toNatClampNeg 10) (10110 : Int32).toNatClampNeg ((-1))) (18110 : Int32).toNatClampNeg ((-1))) (15 : Int32).toNatClampNeg 11) (10111 : Int32).toNatClampNeg ((-1))) (18111 : Int32).toNatClampNeg ((-1))) (15 : Int32).toNatClampNeg 12) (10112 : Int32).toNatClampNeg ((-1))) (18112 : Int32).toNatClampNeg ((-1))) (15 : Int32).toNatClampNeg 13) (10113 : Int32).toNatClampNeg ((-1))) (18113 : Int32).toNatClampNeg ((-1))) (15 : Int32).toNatClampNeg 14) (10114 : Int32).toNatClampNeg ((-1))) (18114 : Int32).toNatClampNeg ((-1))) (15 : Int32).toNatClampNeg 15) (10115 : Int32).toNatClampNeg ((-1))) (18115 : Int32).toNatClampNeg ((-1))) (15 : Int32).toNatClampNeg 16)))
  refine go_aload_n (pc := 0) dX10_write_0 rfl rfl ?_
  refine go_get (pc := 1) fX10_9 rfl (gz_b (by omega)) ((va_up_ne _ _ (gz_ne (by decide))).trans ((hw 32 (by decide) (by decide)).trans (wl_at (i := 32) rfl))) rfl dX10_write_1 ?_
  refine go_sipush (pc := 4) (v := 10100) dX10_write_4 (by decide) ?_
  refine go_aload_n (pc := 7) dX10_write_7 rfl rfl ?_
  refine go_get (pc := 8) fX10_9 rfl (gz_b (by omega)) ((va_up_ne _ _ (gz_ne (by decide))).trans ((hw 32 (by decide) (by decide)).trans (wl_at (i := 32) rfl))) rfl dX10_write_8 ?_
  refine go_bipush (pc := 11) (v := 15) dX10_write_11 (by decide) ?_
  refine go_iald (pc := 13) (gz_b (by omega)) (va_up_self _ _ _) (gv_in (by decide)) dX10_write_13 ?_
  refine go_top (y := 16) rfl ?_
  refine go_iadd (pc := 14) dX10_write_14 ?_
  refine go_top (y := 10116) (by decide) ?_
  refine go_iload_n (pc := 15) dX10_write_15 rfl rfl ?_
  refine go_iast (pc := 16) (gz_b (by omega)) (va_up_self _ _ _) (gv_in (by decide)) dX10_write_16 ?_
  refine go_w (va_up_up _ _ _ _) ?_
  refine go_aload_n (pc := 17) dX10_write_17 rfl rfl ?_
  refine go_get (pc := 18) fX10_9 rfl (gz_b (by omega)) ((va_up_ne _ _ (gz_ne (by decide))).trans ((hw 32 (by decide) (by decide)).trans (wl_at (i := 32) rfl))) rfl dX10_write_18 ?_
  refine go_sipush (pc := 21) (v := 18100) dX10_write_21 (by decide) ?_
  refine go_aload_n (pc := 24) dX10_write_24 rfl rfl ?_
  refine go_get (pc := 25) fX10_9 rfl (gz_b (by omega)) ((va_up_ne _ _ (gz_ne (by decide))).trans ((hw 32 (by decide) (by decide)).trans (wl_at (i := 32) rfl))) rfl dX10_write_25 ?_
  refine go_bipush (pc := 28) (v := 15) dX10_write_28 (by decide) ?_
  refine go_iald (pc := 30) (gz_b (by omega)) (va_up_self _ _ _) (gv_in (by decide)) dX10_write_30 ?_
  refine go_top (y := 16) rfl ?_
  refine go_iadd (pc := 31) dX10_write_31 ?_
  refine go_top (y := 18116) (by decide) ?_
  refine go_iload_n (pc := 32) dX10_write_32 rfl rfl ?_
  refine go_iast (pc := 33) (gz_b (by omega)) (va_up_self _ _ _) (gv_in (by decide)) dX10_write_33 ?_
  refine go_w (va_up_up _ _ _ _) ?_
  refine go_aload_n (pc := 34) dX10_write_34 rfl rfl ?_
  refine go_get (pc := 35) fX10_9 rfl (gz_b (by omega)) ((va_up_ne _ _ (gz_ne (by decide))).trans ((hw 32 (by decide) (by decide)).trans (wl_at (i := 32) rfl))) rfl dX10_write_35 ?_
  refine go_bipush (pc := 38) (v := 15) dX10_write_38 (by decide) ?_
  refine go_dup2 (pc := 40) dX10_write_40 rfl rfl ?_
  refine go_iald (pc := 41) (gz_b (by omega)) (va_up_self _ _ _) (gv_in (by decide)) dX10_write_41 ?_
  refine go_top (y := 16) rfl ?_
  refine go_iconst (pc := 42) (v := 1) dX10_write_42 (by decide) ?_
  refine go_iadd (pc := 43) dX10_write_43 ?_
  refine go_top (y := 17) (by decide) ?_
  refine go_iast (pc := 44) (gz_b (by omega)) (va_up_self _ _ _) (gv_in (by decide)) dX10_write_44 ?_
  refine go_w (va_up_up _ _ _ _) ?_
  exact go_vret (pc := 45) rfl dX10_write_45
set_option maxRecDepth 100000 in
set_option maxHeartbeats 4000000 in
theorem cX10_write_45 {l : Launch} {G : gG} {n k : Nat} {w : Nat → va_E} (hn : 42 ≤ n) (hw : ∀ i, 32 ≤ i → i < 42 → w (G.2.1 + i) = wl G.2.1 (LF G) (G.2.1 + i)) : Ct l G mX10_write 0 0 [.ref (G.2.1 + 32), .int ((-1))] n k (va_up w (G.2.1 + 33) (ai G 26100 (upd (upd (upd (upd (upd (upd (upd (upd (upd (upd (upd (upd (upd (upd (upd (upd (upd (upd (upd (upd (upd (upd (upd (upd (upd (upd (upd (upd (upd (upd (upd (upd (upd (upd (upd (upd (upd (upd (upd (upd (upd (upd (upd (upd (upd (upd (upd (upd (upd (upd (upd (upd (upd (upd (upd (upd (upd (upd (upd (upd (sx 256) (3 : Int32).toNatClampNeg 1) (4 : Int32).toNatClampNeg 0) (17 : Int32).toNatClampNeg 0) (5 : Int32).toNatClampNeg 1) (6 : Int32).toNatClampNeg 0) (7 : Int32).toNatClampNeg 0) (8 : Int32).toNatClampNeg 0) (9 : Int32).toNatClampNeg 0) (15 : Int32).toNatClampNeg 0) (10100 : Int32).toNatClampNeg ((-1))) (18100 : Int32).toNatClampNeg ((-1))) (15 : Int32).toNatClampNeg 1) (10101 : Int32).toNatClampNeg ((-1))) (18101 : Int32).toNatClampNeg ((-1))) (15 : Int32).toNatClampNeg 2) (10102 : Int32).toNatClampNeg ((-1))) (18102 : Int32).toNatClampNeg ((-1))) (15 : Int32).toNatClampNeg 3) (10103 : Int32).toNatClampNeg ((-1))) (18103 : Int32).toNatClampNeg ((-1))) (15 : Int32).toNatClampNeg 4) (10104 : Int32).toNatClampNeg ((-1))) (18104 : Int32).toNatClampNeg ((-1))) (15 : Int32).toNatClampNeg 5) (10105 : Int32).toNatClampNeg ((-1))) (18105 : Int32).toNatClampNeg ((-1))) (15 : Int32).toNatClampNeg 6) (10106 : Int32).toNatClampNeg ((-1))) (18106 : Int32).toNatClampNeg ((-1))) (15 : Int32).toNatClampNeg 7) (10107 : Int32).toNatClampNeg ((-1))) (18107 : Int32).toNatClampNeg ((-1))) (15 : Int32).toNatClampNeg 8) (10108 : Int32).toNatClampNeg ((-1))) (18108 : Int32).toNatClampNeg ((-1))) (15 : Int32).toNatClampNeg 9) (10109 : Int32).toNatClampNeg ((-1))) (18109 : Int32).toNatClampNeg ((-1))) (15 : Int32).toNatClampNeg 10) (10110 : Int32).toNatClampNeg ((-1))) (18110 : Int32).toNatClampNeg ((-1))) (15 : Int32).toNatClampNeg 11) (10111 : Int32).toNatClampNeg ((-1))) (18111 : Int32).toNatClampNeg ((-1))) (15 : Int32).toNatClampNeg 12) (10112 : Int32).toNatClampNeg ((-1))) (18112 : Int32).toNatClampNeg ((-1))) (15 : Int32).toNatClampNeg 13) (10113 : Int32).toNatClampNeg ((-1))) (18113 : Int32).toNatClampNeg ((-1))) (15 : Int32).toNatClampNeg 14) (10114 : Int32).toNatClampNeg ((-1))) (18114 : Int32).toNatClampNeg ((-1))) (15 : Int32).toNatClampNeg 15) (10115 : Int32).toNatClampNeg ((-1))) (18115 : Int32).toNatClampNeg ((-1))) (15 : Int32).toNatClampNeg 16) (10116 : Int32).toNatClampNeg ((-1))) (18116 : Int32).toNatClampNeg ((-1))) (15 : Int32).toNatClampNeg 17))) (none, n, k, (va_up w (G.2.1 + 33) (ai G 26100 (upd (upd (upd (upd (upd (upd (upd (upd (upd (upd (upd (upd (upd (upd (upd (upd (upd (upd (upd (upd (upd (upd (upd (upd (upd (upd (upd (upd (upd (upd (upd (upd (upd (upd (upd (upd (upd (upd (upd (upd (upd (upd (upd (upd (upd (upd (upd (upd (upd (upd (upd (upd (upd (upd (upd (upd (upd (upd (upd (upd (upd (upd (upd (sx 256) (3 : Int32).toNatClampNeg 1) (4 : Int32).toNatClampNeg 0) (17 : Int32).toNatClampNeg 0) (5 : Int32).toNatClampNeg 1) (6 : Int32).toNatClampNeg 0) (7 : Int32).toNatClampNeg 0) (8 : Int32).toNatClampNeg 0) (9 : Int32).toNatClampNeg 0) (15 : Int32).toNatClampNeg 0) (10100 : Int32).toNatClampNeg ((-1))) (18100 : Int32).toNatClampNeg ((-1))) (15 : Int32).toNatClampNeg 1) (10101 : Int32).toNatClampNeg ((-1))) (18101 : Int32).toNatClampNeg ((-1))) (15 : Int32).toNatClampNeg 2) (10102 : Int32).toNatClampNeg ((-1))) (18102 : Int32).toNatClampNeg ((-1))) (15 : Int32).toNatClampNeg 3) (10103 : Int32).toNatClampNeg ((-1))) (18103 : Int32).toNatClampNeg ((-1))) (15 : Int32).toNatClampNeg 4) (10104 : Int32).toNatClampNeg ((-1))) (18104 : Int32).toNatClampNeg ((-1))) (15 : Int32).toNatClampNeg 5) (10105 : Int32).toNatClampNeg ((-1))) (18105 : Int32).toNatClampNeg ((-1))) (15 : Int32).toNatClampNeg 6) (10106 : Int32).toNatClampNeg ((-1))) (18106 : Int32).toNatClampNeg ((-1))) (15 : Int32).toNatClampNeg 7) (10107 : Int32).toNatClampNeg ((-1))) (18107 : Int32).toNatClampNeg ((-1))) (15 : Int32).toNatClampNeg 8) (10108 : Int32).toNatClampNeg ((-1))) (18108 : Int32).toNatClampNeg ((-1))) (15 : Int32).toNatClampNeg 9) (10109 : Int32).toNatClampNeg ((-1))) (18109 : Int32).toNatClampNeg ((-1))) (15 : Int32).toNatClampNeg 10) (10110 : Int32).toNatClampNeg ((-1))) (18110 : Int32).toNatClampNeg ((-1))) (15 : Int32).toNatClampNeg 11) (10111 : Int32).toNatClampNeg ((-1))) (18111 : Int32).toNatClampNeg ((-1))) (15 : Int32).toNatClampNeg 12) (10112 : Int32).toNatClampNeg ((-1))) (18112 : Int32).toNatClampNeg ((-1))) (15 : Int32).toNatClampNeg 13) (10113 : Int32).toNatClampNeg ((-1))) (18113 : Int32).toNatClampNeg ((-1))) (15 : Int32).toNatClampNeg 14) (10114 : Int32).toNatClampNeg ((-1))) (18114 : Int32).toNatClampNeg ((-1))) (15 : Int32).toNatClampNeg 15) (10115 : Int32).toNatClampNeg ((-1))) (18115 : Int32).toNatClampNeg ((-1))) (15 : Int32).toNatClampNeg 16) (10116 : Int32).toNatClampNeg ((-1))) (18116 : Int32).toNatClampNeg ((-1))) (15 : Int32).toNatClampNeg 17) (10117 : Int32).toNatClampNeg ((-1))) (18117 : Int32).toNatClampNeg ((-1))) (15 : Int32).toNatClampNeg 18)))) := by
  refine Ct.of (by decide) (Nat.le_of_ble_eq_true rfl) ⟨Nat.le_refl _, Nat.le_refl _⟩ ?_
  show Go l G mX10_write _ 0 [(0, .ref (G.2.1 + 32)), (1, .int ((-1)))] [] n k (va_up w (G.2.1 + 33) (ai G 26100 (upd (upd (upd (upd (upd (upd (upd (upd (upd (upd (upd (upd (upd (upd (upd (upd (upd (upd (upd (upd (upd (upd (upd (upd (upd (upd (upd (upd (upd (upd (upd (upd (upd (upd (upd (upd (upd (upd (upd (upd (upd (upd (upd (upd (upd (upd (upd (upd (upd (upd (upd (upd (upd (upd (upd (upd (upd (upd (upd (upd (sx 256) (3 : Int32).toNatClampNeg 1) (4 : Int32).toNatClampNeg 0) (17 : Int32).toNatClampNeg 0) (5 : Int32).toNatClampNeg 1) (6 : Int32).toNatClampNeg 0) (7 : Int32).toNatClampNeg 0) (8 : Int32).toNatClampNeg 0) (9 : Int32).toNatClampNeg 0) (15 : Int32).toNatClampNeg 0) (10100 : Int32).toNatClampNeg ((-1))) (18100 : Int32).toNatClampNeg ((-1))) (15 : Int32).toNatClampNeg 1) (10101 : Int32).toNatClampNeg ((-1))) (18101 : Int32).toNatClampNeg ((-1))) (15 : Int32).toNatClampNeg 2) (10102 : Int32).toNatClampNeg ((-1))) (18102 : Int32).toNatClampNeg ((-1))) (15 : Int32).toNatClampNeg 3) (10103 : Int32).toNatClampNeg ((-1))) (18103 : Int32).toNatClampNeg ((-1))) (15 : Int32).toNatClampNeg 4) (10104 : Int32).toNatClampNeg ((-1))) (18104 : Int32).toNatClampNeg ((-1))) (15 : Int32).toNatClampNeg 5) (10105 : Int32).toNatClampNeg ((-1))) (18105 : Int32).toNatClampNeg ((-1))) (15 : Int32).toNatClampNeg 6) (10106 : Int32).toNatClampNeg ((-1))) (18106 : Int32).toNatClampNeg ((-1))) (15 : Int32).toNatClampNeg 7) (10107 : Int32).toNatClampNeg ((-1))) (18107 : Int32).toNatClampNeg ((-1))) (15 : Int32).toNatClampNeg 8) (10108 : Int32).toNatClampNeg ((-1))) (18108 : Int32).toNatClampNeg ((-1))) (15 : Int32).toNatClampNeg 9) (10109 : Int32).toNatClampNeg ((-1))) (18109 : Int32).toNatClampNeg ((-1))) (15 : Int32).toNatClampNeg 10) (10110 : Int32).toNatClampNeg ((-1))) (18110 : Int32).toNatClampNeg ((-1))) (15 : Int32).toNatClampNeg 11) (10111 : Int32).toNatClampNeg ((-1))) (18111 : Int32).toNatClampNeg ((-1))) (15 : Int32).toNatClampNeg 12) (10112 : Int32).toNatClampNeg ((-1))) (18112 : Int32).toNatClampNeg ((-1))) (15 : Int32).toNatClampNeg 13) (10113 : Int32).toNatClampNeg ((-1))) (18113 : Int32).toNatClampNeg ((-1))) (15 : Int32).toNatClampNeg 14) (10114 : Int32).toNatClampNeg ((-1))) (18114 : Int32).toNatClampNeg ((-1))) (15 : Int32).toNatClampNeg 15) (10115 : Int32).toNatClampNeg ((-1))) (18115 : Int32).toNatClampNeg ((-1))) (15 : Int32).toNatClampNeg 16) (10116 : Int32).toNatClampNeg ((-1))) (18116 : Int32).toNatClampNeg ((-1))) (15 : Int32).toNatClampNeg 17)))
  refine go_aload_n (pc := 0) dX10_write_0 rfl rfl ?_
  refine go_get (pc := 1) fX10_9 rfl (gz_b (by omega)) ((va_up_ne _ _ (gz_ne (by decide))).trans ((hw 32 (by decide) (by decide)).trans (wl_at (i := 32) rfl))) rfl dX10_write_1 ?_
  refine go_sipush (pc := 4) (v := 10100) dX10_write_4 (by decide) ?_
  refine go_aload_n (pc := 7) dX10_write_7 rfl rfl ?_
  refine go_get (pc := 8) fX10_9 rfl (gz_b (by omega)) ((va_up_ne _ _ (gz_ne (by decide))).trans ((hw 32 (by decide) (by decide)).trans (wl_at (i := 32) rfl))) rfl dX10_write_8 ?_
  refine go_bipush (pc := 11) (v := 15) dX10_write_11 (by decide) ?_
  refine go_iald (pc := 13) (gz_b (by omega)) (va_up_self _ _ _) (gv_in (by decide)) dX10_write_13 ?_
  refine go_top (y := 17) rfl ?_
  refine go_iadd (pc := 14) dX10_write_14 ?_
  refine go_top (y := 10117) (by decide) ?_
  refine go_iload_n (pc := 15) dX10_write_15 rfl rfl ?_
  refine go_iast (pc := 16) (gz_b (by omega)) (va_up_self _ _ _) (gv_in (by decide)) dX10_write_16 ?_
  refine go_w (va_up_up _ _ _ _) ?_
  refine go_aload_n (pc := 17) dX10_write_17 rfl rfl ?_
  refine go_get (pc := 18) fX10_9 rfl (gz_b (by omega)) ((va_up_ne _ _ (gz_ne (by decide))).trans ((hw 32 (by decide) (by decide)).trans (wl_at (i := 32) rfl))) rfl dX10_write_18 ?_
  refine go_sipush (pc := 21) (v := 18100) dX10_write_21 (by decide) ?_
  refine go_aload_n (pc := 24) dX10_write_24 rfl rfl ?_
  refine go_get (pc := 25) fX10_9 rfl (gz_b (by omega)) ((va_up_ne _ _ (gz_ne (by decide))).trans ((hw 32 (by decide) (by decide)).trans (wl_at (i := 32) rfl))) rfl dX10_write_25 ?_
  refine go_bipush (pc := 28) (v := 15) dX10_write_28 (by decide) ?_
  refine go_iald (pc := 30) (gz_b (by omega)) (va_up_self _ _ _) (gv_in (by decide)) dX10_write_30 ?_
  refine go_top (y := 17) rfl ?_
  refine go_iadd (pc := 31) dX10_write_31 ?_
  refine go_top (y := 18117) (by decide) ?_
  refine go_iload_n (pc := 32) dX10_write_32 rfl rfl ?_
  refine go_iast (pc := 33) (gz_b (by omega)) (va_up_self _ _ _) (gv_in (by decide)) dX10_write_33 ?_
  refine go_w (va_up_up _ _ _ _) ?_
  refine go_aload_n (pc := 34) dX10_write_34 rfl rfl ?_
  refine go_get (pc := 35) fX10_9 rfl (gz_b (by omega)) ((va_up_ne _ _ (gz_ne (by decide))).trans ((hw 32 (by decide) (by decide)).trans (wl_at (i := 32) rfl))) rfl dX10_write_35 ?_
  refine go_bipush (pc := 38) (v := 15) dX10_write_38 (by decide) ?_
  refine go_dup2 (pc := 40) dX10_write_40 rfl rfl ?_
  refine go_iald (pc := 41) (gz_b (by omega)) (va_up_self _ _ _) (gv_in (by decide)) dX10_write_41 ?_
  refine go_top (y := 17) rfl ?_
  refine go_iconst (pc := 42) (v := 1) dX10_write_42 (by decide) ?_
  refine go_iadd (pc := 43) dX10_write_43 ?_
  refine go_top (y := 18) (by decide) ?_
  refine go_iast (pc := 44) (gz_b (by omega)) (va_up_self _ _ _) (gv_in (by decide)) dX10_write_44 ?_
  refine go_w (va_up_up _ _ _ _) ?_
  exact go_vret (pc := 45) rfl dX10_write_45
set_option maxRecDepth 100000 in
set_option maxHeartbeats 4000000 in
theorem cX10_write_46 {l : Launch} {G : gG} {n k : Nat} {w : Nat → va_E} (hn : 42 ≤ n) (hw : ∀ i, 32 ≤ i → i < 42 → w (G.2.1 + i) = wl G.2.1 (LF G) (G.2.1 + i)) : Ct l G mX10_write 0 0 [.ref (G.2.1 + 32), .int ((-1))] n k (va_up w (G.2.1 + 33) (ai G 26100 (upd (upd (upd (upd (upd (upd (upd (upd (upd (upd (upd (upd (upd (upd (upd (upd (upd (upd (upd (upd (upd (upd (upd (upd (upd (upd (upd (upd (upd (upd (upd (upd (upd (upd (upd (upd (upd (upd (upd (upd (upd (upd (upd (upd (upd (upd (upd (upd (upd (upd (upd (upd (upd (upd (upd (upd (upd (upd (upd (upd (upd (upd (upd (sx 256) (3 : Int32).toNatClampNeg 1) (4 : Int32).toNatClampNeg 0) (17 : Int32).toNatClampNeg 0) (5 : Int32).toNatClampNeg 1) (6 : Int32).toNatClampNeg 0) (7 : Int32).toNatClampNeg 0) (8 : Int32).toNatClampNeg 0) (9 : Int32).toNatClampNeg 0) (15 : Int32).toNatClampNeg 0) (10100 : Int32).toNatClampNeg ((-1))) (18100 : Int32).toNatClampNeg ((-1))) (15 : Int32).toNatClampNeg 1) (10101 : Int32).toNatClampNeg ((-1))) (18101 : Int32).toNatClampNeg ((-1))) (15 : Int32).toNatClampNeg 2) (10102 : Int32).toNatClampNeg ((-1))) (18102 : Int32).toNatClampNeg ((-1))) (15 : Int32).toNatClampNeg 3) (10103 : Int32).toNatClampNeg ((-1))) (18103 : Int32).toNatClampNeg ((-1))) (15 : Int32).toNatClampNeg 4) (10104 : Int32).toNatClampNeg ((-1))) (18104 : Int32).toNatClampNeg ((-1))) (15 : Int32).toNatClampNeg 5) (10105 : Int32).toNatClampNeg ((-1))) (18105 : Int32).toNatClampNeg ((-1))) (15 : Int32).toNatClampNeg 6) (10106 : Int32).toNatClampNeg ((-1))) (18106 : Int32).toNatClampNeg ((-1))) (15 : Int32).toNatClampNeg 7) (10107 : Int32).toNatClampNeg ((-1))) (18107 : Int32).toNatClampNeg ((-1))) (15 : Int32).toNatClampNeg 8) (10108 : Int32).toNatClampNeg ((-1))) (18108 : Int32).toNatClampNeg ((-1))) (15 : Int32).toNatClampNeg 9) (10109 : Int32).toNatClampNeg ((-1))) (18109 : Int32).toNatClampNeg ((-1))) (15 : Int32).toNatClampNeg 10) (10110 : Int32).toNatClampNeg ((-1))) (18110 : Int32).toNatClampNeg ((-1))) (15 : Int32).toNatClampNeg 11) (10111 : Int32).toNatClampNeg ((-1))) (18111 : Int32).toNatClampNeg ((-1))) (15 : Int32).toNatClampNeg 12) (10112 : Int32).toNatClampNeg ((-1))) (18112 : Int32).toNatClampNeg ((-1))) (15 : Int32).toNatClampNeg 13) (10113 : Int32).toNatClampNeg ((-1))) (18113 : Int32).toNatClampNeg ((-1))) (15 : Int32).toNatClampNeg 14) (10114 : Int32).toNatClampNeg ((-1))) (18114 : Int32).toNatClampNeg ((-1))) (15 : Int32).toNatClampNeg 15) (10115 : Int32).toNatClampNeg ((-1))) (18115 : Int32).toNatClampNeg ((-1))) (15 : Int32).toNatClampNeg 16) (10116 : Int32).toNatClampNeg ((-1))) (18116 : Int32).toNatClampNeg ((-1))) (15 : Int32).toNatClampNeg 17) (10117 : Int32).toNatClampNeg ((-1))) (18117 : Int32).toNatClampNeg ((-1))) (15 : Int32).toNatClampNeg 18))) (none, n, k, (va_up w (G.2.1 + 33) (ai G 26100 (upd (upd (upd (upd (upd (upd (upd (upd (upd (upd (upd (upd (upd (upd (upd (upd (upd (upd (upd (upd (upd (upd (upd (upd (upd (upd (upd (upd (upd (upd (upd (upd (upd (upd (upd (upd (upd (upd (upd (upd (upd (upd (upd (upd (upd (upd (upd (upd (upd (upd (upd (upd (upd (upd (upd (upd (upd (upd (upd (upd (upd (upd (upd (upd (upd (upd (sx 256) (3 : Int32).toNatClampNeg 1) (4 : Int32).toNatClampNeg 0) (17 : Int32).toNatClampNeg 0) (5 : Int32).toNatClampNeg 1) (6 : Int32).toNatClampNeg 0) (7 : Int32).toNatClampNeg 0) (8 : Int32).toNatClampNeg 0) (9 : Int32).toNatClampNeg 0) (15 : Int32).toNatClampNeg 0) (10100 : Int32).toNatClampNeg ((-1))) (18100 : Int32).toNatClampNeg ((-1))) (15 : Int32).toNatClampNeg 1) (10101 : Int32).toNatClampNeg ((-1))) (18101 : Int32).toNatClampNeg ((-1))) (15 : Int32).toNatClampNeg 2) (10102 : Int32).toNatClampNeg ((-1))) (18102 : Int32).toNatClampNeg ((-1))) (15 : Int32).toNatClampNeg 3) (10103 : Int32).toNatClampNeg ((-1))) (18103 : Int32).toNatClampNeg ((-1))) (15 : Int32).toNatClampNeg 4) (10104 : Int32).toNatClampNeg ((-1))) (18104 : Int32).toNatClampNeg ((-1))) (15 : Int32).toNatClampNeg 5) (10105 : Int32).toNatClampNeg ((-1))) (18105 : Int32).toNatClampNeg ((-1))) (15 : Int32).toNatClampNeg 6) (10106 : Int32).toNatClampNeg ((-1))) (18106 : Int32).toNatClampNeg ((-1))) (15 : Int32).toNatClampNeg 7) (10107 : Int32).toNatClampNeg ((-1))) (18107 : Int32).toNatClampNeg ((-1))) (15 : Int32).toNatClampNeg 8) (10108 : Int32).toNatClampNeg ((-1))) (18108 : Int32).toNatClampNeg ((-1))) (15 : Int32).toNatClampNeg 9) (10109 : Int32).toNatClampNeg ((-1))) (18109 : Int32).toNatClampNeg ((-1))) (15 : Int32).toNatClampNeg 10) (10110 : Int32).toNatClampNeg ((-1))) (18110 : Int32).toNatClampNeg ((-1))) (15 : Int32).toNatClampNeg 11) (10111 : Int32).toNatClampNeg ((-1))) (18111 : Int32).toNatClampNeg ((-1))) (15 : Int32).toNatClampNeg 12) (10112 : Int32).toNatClampNeg ((-1))) (18112 : Int32).toNatClampNeg ((-1))) (15 : Int32).toNatClampNeg 13) (10113 : Int32).toNatClampNeg ((-1))) (18113 : Int32).toNatClampNeg ((-1))) (15 : Int32).toNatClampNeg 14) (10114 : Int32).toNatClampNeg ((-1))) (18114 : Int32).toNatClampNeg ((-1))) (15 : Int32).toNatClampNeg 15) (10115 : Int32).toNatClampNeg ((-1))) (18115 : Int32).toNatClampNeg ((-1))) (15 : Int32).toNatClampNeg 16) (10116 : Int32).toNatClampNeg ((-1))) (18116 : Int32).toNatClampNeg ((-1))) (15 : Int32).toNatClampNeg 17) (10117 : Int32).toNatClampNeg ((-1))) (18117 : Int32).toNatClampNeg ((-1))) (15 : Int32).toNatClampNeg 18) (10118 : Int32).toNatClampNeg ((-1))) (18118 : Int32).toNatClampNeg ((-1))) (15 : Int32).toNatClampNeg 19)))) := by
  refine Ct.of (by decide) (Nat.le_of_ble_eq_true rfl) ⟨Nat.le_refl _, Nat.le_refl _⟩ ?_
  show Go l G mX10_write _ 0 [(0, .ref (G.2.1 + 32)), (1, .int ((-1)))] [] n k (va_up w (G.2.1 + 33) (ai G 26100 (upd (upd (upd (upd (upd (upd (upd (upd (upd (upd (upd (upd (upd (upd (upd (upd (upd (upd (upd (upd (upd (upd (upd (upd (upd (upd (upd (upd (upd (upd (upd (upd (upd (upd (upd (upd (upd (upd (upd (upd (upd (upd (upd (upd (upd (upd (upd (upd (upd (upd (upd (upd (upd (upd (upd (upd (upd (upd (upd (upd (upd (upd (upd (sx 256) (3 : Int32).toNatClampNeg 1) (4 : Int32).toNatClampNeg 0) (17 : Int32).toNatClampNeg 0) (5 : Int32).toNatClampNeg 1) (6 : Int32).toNatClampNeg 0) (7 : Int32).toNatClampNeg 0) (8 : Int32).toNatClampNeg 0) (9 : Int32).toNatClampNeg 0) (15 : Int32).toNatClampNeg 0) (10100 : Int32).toNatClampNeg ((-1))) (18100 : Int32).toNatClampNeg ((-1))) (15 : Int32).toNatClampNeg 1) (10101 : Int32).toNatClampNeg ((-1))) (18101 : Int32).toNatClampNeg ((-1))) (15 : Int32).toNatClampNeg 2) (10102 : Int32).toNatClampNeg ((-1))) (18102 : Int32).toNatClampNeg ((-1))) (15 : Int32).toNatClampNeg 3) (10103 : Int32).toNatClampNeg ((-1))) (18103 : Int32).toNatClampNeg ((-1))) (15 : Int32).toNatClampNeg 4) (10104 : Int32).toNatClampNeg ((-1))) (18104 : Int32).toNatClampNeg ((-1))) (15 : Int32).toNatClampNeg 5) (10105 : Int32).toNatClampNeg ((-1))) (18105 : Int32).toNatClampNeg ((-1))) (15 : Int32).toNatClampNeg 6) (10106 : Int32).toNatClampNeg ((-1))) (18106 : Int32).toNatClampNeg ((-1))) (15 : Int32).toNatClampNeg 7) (10107 : Int32).toNatClampNeg ((-1))) (18107 : Int32).toNatClampNeg ((-1))) (15 : Int32).toNatClampNeg 8) (10108 : Int32).toNatClampNeg ((-1))) (18108 : Int32).toNatClampNeg ((-1))) (15 : Int32).toNatClampNeg 9) (10109 : Int32).toNatClampNeg ((-1))) (18109 : Int32).toNatClampNeg ((-1))) (15 : Int32).toNatClampNeg 10) (10110 : Int32).toNatClampNeg ((-1))) (18110 : Int32).toNatClampNeg ((-1))) (15 : Int32).toNatClampNeg 11) (10111 : Int32).toNatClampNeg ((-1))) (18111 : Int32).toNatClampNeg ((-1))) (15 : Int32).toNatClampNeg 12) (10112 : Int32).toNatClampNeg ((-1))) (18112 : Int32).toNatClampNeg ((-1))) (15 : Int32).toNatClampNeg 13) (10113 : Int32).toNatClampNeg ((-1))) (18113 : Int32).toNatClampNeg ((-1))) (15 : Int32).toNatClampNeg 14) (10114 : Int32).toNatClampNeg ((-1))) (18114 : Int32).toNatClampNeg ((-1))) (15 : Int32).toNatClampNeg 15) (10115 : Int32).toNatClampNeg ((-1))) (18115 : Int32).toNatClampNeg ((-1))) (15 : Int32).toNatClampNeg 16) (10116 : Int32).toNatClampNeg ((-1))) (18116 : Int32).toNatClampNeg ((-1))) (15 : Int32).toNatClampNeg 17) (10117 : Int32).toNatClampNeg ((-1))) (18117 : Int32).toNatClampNeg ((-1))) (15 : Int32).toNatClampNeg 18)))
  refine go_aload_n (pc := 0) dX10_write_0 rfl rfl ?_
  refine go_get (pc := 1) fX10_9 rfl (gz_b (by omega)) ((va_up_ne _ _ (gz_ne (by decide))).trans ((hw 32 (by decide) (by decide)).trans (wl_at (i := 32) rfl))) rfl dX10_write_1 ?_
  refine go_sipush (pc := 4) (v := 10100) dX10_write_4 (by decide) ?_
  refine go_aload_n (pc := 7) dX10_write_7 rfl rfl ?_
  refine go_get (pc := 8) fX10_9 rfl (gz_b (by omega)) ((va_up_ne _ _ (gz_ne (by decide))).trans ((hw 32 (by decide) (by decide)).trans (wl_at (i := 32) rfl))) rfl dX10_write_8 ?_
  refine go_bipush (pc := 11) (v := 15) dX10_write_11 (by decide) ?_
  refine go_iald (pc := 13) (gz_b (by omega)) (va_up_self _ _ _) (gv_in (by decide)) dX10_write_13 ?_
  refine go_top (y := 18) rfl ?_
  refine go_iadd (pc := 14) dX10_write_14 ?_
  refine go_top (y := 10118) (by decide) ?_
  refine go_iload_n (pc := 15) dX10_write_15 rfl rfl ?_
  refine go_iast (pc := 16) (gz_b (by omega)) (va_up_self _ _ _) (gv_in (by decide)) dX10_write_16 ?_
  refine go_w (va_up_up _ _ _ _) ?_
  refine go_aload_n (pc := 17) dX10_write_17 rfl rfl ?_
  refine go_get (pc := 18) fX10_9 rfl (gz_b (by omega)) ((va_up_ne _ _ (gz_ne (by decide))).trans ((hw 32 (by decide) (by decide)).trans (wl_at (i := 32) rfl))) rfl dX10_write_18 ?_
  refine go_sipush (pc := 21) (v := 18100) dX10_write_21 (by decide) ?_
  refine go_aload_n (pc := 24) dX10_write_24 rfl rfl ?_
  refine go_get (pc := 25) fX10_9 rfl (gz_b (by omega)) ((va_up_ne _ _ (gz_ne (by decide))).trans ((hw 32 (by decide) (by decide)).trans (wl_at (i := 32) rfl))) rfl dX10_write_25 ?_
  refine go_bipush (pc := 28) (v := 15) dX10_write_28 (by decide) ?_
  refine go_iald (pc := 30) (gz_b (by omega)) (va_up_self _ _ _) (gv_in (by decide)) dX10_write_30 ?_
  refine go_top (y := 18) rfl ?_
  refine go_iadd (pc := 31) dX10_write_31 ?_
  refine go_top (y := 18118) (by decide) ?_
  refine go_iload_n (pc := 32) dX10_write_32 rfl rfl ?_
  refine go_iast (pc := 33) (gz_b (by omega)) (va_up_self _ _ _) (gv_in (by decide)) dX10_write_33 ?_
  refine go_w (va_up_up _ _ _ _) ?_
  refine go_aload_n (pc := 34) dX10_write_34 rfl rfl ?_
  refine go_get (pc := 35) fX10_9 rfl (gz_b (by omega)) ((va_up_ne _ _ (gz_ne (by decide))).trans ((hw 32 (by decide) (by decide)).trans (wl_at (i := 32) rfl))) rfl dX10_write_35 ?_
  refine go_bipush (pc := 38) (v := 15) dX10_write_38 (by decide) ?_
  refine go_dup2 (pc := 40) dX10_write_40 rfl rfl ?_
  refine go_iald (pc := 41) (gz_b (by omega)) (va_up_self _ _ _) (gv_in (by decide)) dX10_write_41 ?_
  refine go_top (y := 18) rfl ?_
  refine go_iconst (pc := 42) (v := 1) dX10_write_42 (by decide) ?_
  refine go_iadd (pc := 43) dX10_write_43 ?_
  refine go_top (y := 19) (by decide) ?_
  refine go_iast (pc := 44) (gz_b (by omega)) (va_up_self _ _ _) (gv_in (by decide)) dX10_write_44 ?_
  refine go_w (va_up_up _ _ _ _) ?_
  exact go_vret (pc := 45) rfl dX10_write_45
set_option maxRecDepth 100000 in
set_option maxHeartbeats 4000000 in
theorem cX10_write_47 {l : Launch} {G : gG} {n k : Nat} {w : Nat → va_E} (hn : 42 ≤ n) (hw : ∀ i, 32 ≤ i → i < 42 → w (G.2.1 + i) = wl G.2.1 (LF G) (G.2.1 + i)) : Ct l G mX10_write 0 0 [.ref (G.2.1 + 32), .int ((-1))] n k (va_up w (G.2.1 + 33) (ai G 26100 (upd (upd (upd (upd (upd (upd (upd (upd (upd (upd (upd (upd (upd (upd (upd (upd (upd (upd (upd (upd (upd (upd (upd (upd (upd (upd (upd (upd (upd (upd (upd (upd (upd (upd (upd (upd (upd (upd (upd (upd (upd (upd (upd (upd (upd (upd (upd (upd (upd (upd (upd (upd (upd (upd (upd (upd (upd (upd (upd (upd (upd (upd (upd (upd (upd (upd (sx 256) (3 : Int32).toNatClampNeg 1) (4 : Int32).toNatClampNeg 0) (17 : Int32).toNatClampNeg 0) (5 : Int32).toNatClampNeg 1) (6 : Int32).toNatClampNeg 0) (7 : Int32).toNatClampNeg 0) (8 : Int32).toNatClampNeg 0) (9 : Int32).toNatClampNeg 0) (15 : Int32).toNatClampNeg 0) (10100 : Int32).toNatClampNeg ((-1))) (18100 : Int32).toNatClampNeg ((-1))) (15 : Int32).toNatClampNeg 1) (10101 : Int32).toNatClampNeg ((-1))) (18101 : Int32).toNatClampNeg ((-1))) (15 : Int32).toNatClampNeg 2) (10102 : Int32).toNatClampNeg ((-1))) (18102 : Int32).toNatClampNeg ((-1))) (15 : Int32).toNatClampNeg 3) (10103 : Int32).toNatClampNeg ((-1))) (18103 : Int32).toNatClampNeg ((-1))) (15 : Int32).toNatClampNeg 4) (10104 : Int32).toNatClampNeg ((-1))) (18104 : Int32).toNatClampNeg ((-1))) (15 : Int32).toNatClampNeg 5) (10105 : Int32).toNatClampNeg ((-1))) (18105 : Int32).toNatClampNeg ((-1))) (15 : Int32).toNatClampNeg 6) (10106 : Int32).toNatClampNeg ((-1))) (18106 : Int32).toNatClampNeg ((-1))) (15 : Int32).toNatClampNeg 7) (10107 : Int32).toNatClampNeg ((-1))) (18107 : Int32).toNatClampNeg ((-1))) (15 : Int32).toNatClampNeg 8) (10108 : Int32).toNatClampNeg ((-1))) (18108 : Int32).toNatClampNeg ((-1))) (15 : Int32).toNatClampNeg 9) (10109 : Int32).toNatClampNeg ((-1))) (18109 : Int32).toNatClampNeg ((-1))) (15 : Int32).toNatClampNeg 10) (10110 : Int32).toNatClampNeg ((-1))) (18110 : Int32).toNatClampNeg ((-1))) (15 : Int32).toNatClampNeg 11) (10111 : Int32).toNatClampNeg ((-1))) (18111 : Int32).toNatClampNeg ((-1))) (15 : Int32).toNatClampNeg 12) (10112 : Int32).toNatClampNeg ((-1))) (18112 : Int32).toNatClampNeg ((-1))) (15 : Int32).toNatClampNeg 13) (10113 : Int32).toNatClampNeg ((-1))) (18113 : Int32).toNatClampNeg ((-1))) (15 : Int32).toNatClampNeg 14) (10114 : Int32).toNatClampNeg ((-1))) (18114 : Int32).toNatClampNeg ((-1))) (15 : Int32).toNatClampNeg 15) (10115 : Int32).toNatClampNeg ((-1))) (18115 : Int32).toNatClampNeg ((-1))) (15 : Int32).toNatClampNeg 16) (10116 : Int32).toNatClampNeg ((-1))) (18116 : Int32).toNatClampNeg ((-1))) (15 : Int32).toNatClampNeg 17) (10117 : Int32).toNatClampNeg ((-1))) (18117 : Int32).toNatClampNeg ((-1))) (15 : Int32).toNatClampNeg 18) (10118 : Int32).toNatClampNeg ((-1))) (18118 : Int32).toNatClampNeg ((-1))) (15 : Int32).toNatClampNeg 19))) (none, n, k, (va_up w (G.2.1 + 33) (ai G 26100 (upd (upd (upd (upd (upd (upd (upd (upd (upd (upd (upd (upd (upd (upd (upd (upd (upd (upd (upd (upd (upd (upd (upd (upd (upd (upd (upd (upd (upd (upd (upd (upd (upd (upd (upd (upd (upd (upd (upd (upd (upd (upd (upd (upd (upd (upd (upd (upd (upd (upd (upd (upd (upd (upd (upd (upd (upd (upd (upd (upd (upd (upd (upd (upd (upd (upd (upd (upd (upd (sx 256) (3 : Int32).toNatClampNeg 1) (4 : Int32).toNatClampNeg 0) (17 : Int32).toNatClampNeg 0) (5 : Int32).toNatClampNeg 1) (6 : Int32).toNatClampNeg 0) (7 : Int32).toNatClampNeg 0) (8 : Int32).toNatClampNeg 0) (9 : Int32).toNatClampNeg 0) (15 : Int32).toNatClampNeg 0) (10100 : Int32).toNatClampNeg ((-1))) (18100 : Int32).toNatClampNeg ((-1))) (15 : Int32).toNatClampNeg 1) (10101 : Int32).toNatClampNeg ((-1))) (18101 : Int32).toNatClampNeg ((-1))) (15 : Int32).toNatClampNeg 2) (10102 : Int32).toNatClampNeg ((-1))) (18102 : Int32).toNatClampNeg ((-1))) (15 : Int32).toNatClampNeg 3) (10103 : Int32).toNatClampNeg ((-1))) (18103 : Int32).toNatClampNeg ((-1))) (15 : Int32).toNatClampNeg 4) (10104 : Int32).toNatClampNeg ((-1))) (18104 : Int32).toNatClampNeg ((-1))) (15 : Int32).toNatClampNeg 5) (10105 : Int32).toNatClampNeg ((-1))) (18105 : Int32).toNatClampNeg ((-1))) (15 : Int32).toNatClampNeg 6) (10106 : Int32).toNatClampNeg ((-1))) (18106 : Int32).toNatClampNeg ((-1))) (15 : Int32).toNatClampNeg 7) (10107 : Int32).toNatClampNeg ((-1))) (18107 : Int32).toNatClampNeg ((-1))) (15 : Int32).toNatClampNeg 8) (10108 : Int32).toNatClampNeg ((-1))) (18108 : Int32).toNatClampNeg ((-1))) (15 : Int32).toNatClampNeg 9) (10109 : Int32).toNatClampNeg ((-1))) (18109 : Int32).toNatClampNeg ((-1))) (15 : Int32).toNatClampNeg 10) (10110 : Int32).toNatClampNeg ((-1))) (18110 : Int32).toNatClampNeg ((-1))) (15 : Int32).toNatClampNeg 11) (10111 : Int32).toNatClampNeg ((-1))) (18111 : Int32).toNatClampNeg ((-1))) (15 : Int32).toNatClampNeg 12) (10112 : Int32).toNatClampNeg ((-1))) (18112 : Int32).toNatClampNeg ((-1))) (15 : Int32).toNatClampNeg 13) (10113 : Int32).toNatClampNeg ((-1))) (18113 : Int32).toNatClampNeg ((-1))) (15 : Int32).toNatClampNeg 14) (10114 : Int32).toNatClampNeg ((-1))) (18114 : Int32).toNatClampNeg ((-1))) (15 : Int32).toNatClampNeg 15) (10115 : Int32).toNatClampNeg ((-1))) (18115 : Int32).toNatClampNeg ((-1))) (15 : Int32).toNatClampNeg 16) (10116 : Int32).toNatClampNeg ((-1))) (18116 : Int32).toNatClampNeg ((-1))) (15 : Int32).toNatClampNeg 17) (10117 : Int32).toNatClampNeg ((-1))) (18117 : Int32).toNatClampNeg ((-1))) (15 : Int32).toNatClampNeg 18) (10118 : Int32).toNatClampNeg ((-1))) (18118 : Int32).toNatClampNeg ((-1))) (15 : Int32).toNatClampNeg 19) (10119 : Int32).toNatClampNeg ((-1))) (18119 : Int32).toNatClampNeg ((-1))) (15 : Int32).toNatClampNeg 20)))) := by
  refine Ct.of (by decide) (Nat.le_of_ble_eq_true rfl) ⟨Nat.le_refl _, Nat.le_refl _⟩ ?_
  show Go l G mX10_write _ 0 [(0, .ref (G.2.1 + 32)), (1, .int ((-1)))] [] n k (va_up w (G.2.1 + 33) (ai G 26100 (upd (upd (upd (upd (upd (upd (upd (upd (upd (upd (upd (upd (upd (upd (upd (upd (upd (upd (upd (upd (upd (upd (upd (upd (upd (upd (upd (upd (upd (upd (upd (upd (upd (upd (upd (upd (upd (upd (upd (upd (upd (upd (upd (upd (upd (upd (upd (upd (upd (upd (upd (upd (upd (upd (upd (upd (upd (upd (upd (upd (upd (upd (upd (upd (upd (upd (sx 256) (3 : Int32).toNatClampNeg 1) (4 : Int32).toNatClampNeg 0) (17 : Int32).toNatClampNeg 0) (5 : Int32).toNatClampNeg 1) (6 : Int32).toNatClampNeg 0) (7 : Int32).toNatClampNeg 0) (8 : Int32).toNatClampNeg 0) (9 : Int32).toNatClampNeg 0) (15 : Int32).toNatClampNeg 0) (10100 : Int32).toNatClampNeg ((-1))) (18100 : Int32).toNatClampNeg ((-1))) (15 : Int32).toNatClampNeg 1) (10101 : Int32).toNatClampNeg ((-1))) (18101 : Int32).toNatClampNeg ((-1))) (15 : Int32).toNatClampNeg 2) (10102 : Int32).toNatClampNeg ((-1))) (18102 : Int32).toNatClampNeg ((-1))) (15 : Int32).toNatClampNeg 3) (10103 : Int32).toNatClampNeg ((-1))) (18103 : Int32).toNatClampNeg ((-1))) (15 : Int32).toNatClampNeg 4) (10104 : Int32).toNatClampNeg ((-1))) (18104 : Int32).toNatClampNeg ((-1))) (15 : Int32).toNatClampNeg 5) (10105 : Int32).toNatClampNeg ((-1))) (18105 : Int32).toNatClampNeg ((-1))) (15 : Int32).toNatClampNeg 6) (10106 : Int32).toNatClampNeg ((-1))) (18106 : Int32).toNatClampNeg ((-1))) (15 : Int32).toNatClampNeg 7) (10107 : Int32).toNatClampNeg ((-1))) (18107 : Int32).toNatClampNeg ((-1))) (15 : Int32).toNatClampNeg 8) (10108 : Int32).toNatClampNeg ((-1))) (18108 : Int32).toNatClampNeg ((-1))) (15 : Int32).toNatClampNeg 9) (10109 : Int32).toNatClampNeg ((-1))) (18109 : Int32).toNatClampNeg ((-1))) (15 : Int32).toNatClampNeg 10) (10110 : Int32).toNatClampNeg ((-1))) (18110 : Int32).toNatClampNeg ((-1))) (15 : Int32).toNatClampNeg 11) (10111 : Int32).toNatClampNeg ((-1))) (18111 : Int32).toNatClampNeg ((-1))) (15 : Int32).toNatClampNeg 12) (10112 : Int32).toNatClampNeg ((-1))) (18112 : Int32).toNatClampNeg ((-1))) (15 : Int32).toNatClampNeg 13) (10113 : Int32).toNatClampNeg ((-1))) (18113 : Int32).toNatClampNeg ((-1))) (15 : Int32).toNatClampNeg 14) (10114 : Int32).toNatClampNeg ((-1))) (18114 : Int32).toNatClampNeg ((-1))) (15 : Int32).toNatClampNeg 15) (10115 : Int32).toNatClampNeg ((-1))) (18115 : Int32).toNatClampNeg ((-1))) (15 : Int32).toNatClampNeg 16) (10116 : Int32).toNatClampNeg ((-1))) (18116 : Int32).toNatClampNeg ((-1))) (15 : Int32).toNatClampNeg 17) (10117 : Int32).toNatClampNeg ((-1))) (18117 : Int32).toNatClampNeg ((-1))) (15 : Int32).toNatClampNeg 18) (10118 : Int32).toNatClampNeg ((-1))) (18118 : Int32).toNatClampNeg ((-1))) (15 : Int32).toNatClampNeg 19)))
  refine go_aload_n (pc := 0) dX10_write_0 rfl rfl ?_
  refine go_get (pc := 1) fX10_9 rfl (gz_b (by omega)) ((va_up_ne _ _ (gz_ne (by decide))).trans ((hw 32 (by decide) (by decide)).trans (wl_at (i := 32) rfl))) rfl dX10_write_1 ?_
  refine go_sipush (pc := 4) (v := 10100) dX10_write_4 (by decide) ?_
  refine go_aload_n (pc := 7) dX10_write_7 rfl rfl ?_
  refine go_get (pc := 8) fX10_9 rfl (gz_b (by omega)) ((va_up_ne _ _ (gz_ne (by decide))).trans ((hw 32 (by decide) (by decide)).trans (wl_at (i := 32) rfl))) rfl dX10_write_8 ?_
  refine go_bipush (pc := 11) (v := 15) dX10_write_11 (by decide) ?_
  refine go_iald (pc := 13) (gz_b (by omega)) (va_up_self _ _ _) (gv_in (by decide)) dX10_write_13 ?_
  refine go_top (y := 19) rfl ?_
  refine go_iadd (pc := 14) dX10_write_14 ?_
  refine go_top (y := 10119) (by decide) ?_
  refine go_iload_n (pc := 15) dX10_write_15 rfl rfl ?_
  refine go_iast (pc := 16) (gz_b (by omega)) (va_up_self _ _ _) (gv_in (by decide)) dX10_write_16 ?_
  refine go_w (va_up_up _ _ _ _) ?_
  refine go_aload_n (pc := 17) dX10_write_17 rfl rfl ?_
  refine go_get (pc := 18) fX10_9 rfl (gz_b (by omega)) ((va_up_ne _ _ (gz_ne (by decide))).trans ((hw 32 (by decide) (by decide)).trans (wl_at (i := 32) rfl))) rfl dX10_write_18 ?_
  refine go_sipush (pc := 21) (v := 18100) dX10_write_21 (by decide) ?_
  refine go_aload_n (pc := 24) dX10_write_24 rfl rfl ?_
  refine go_get (pc := 25) fX10_9 rfl (gz_b (by omega)) ((va_up_ne _ _ (gz_ne (by decide))).trans ((hw 32 (by decide) (by decide)).trans (wl_at (i := 32) rfl))) rfl dX10_write_25 ?_
  refine go_bipush (pc := 28) (v := 15) dX10_write_28 (by decide) ?_
  refine go_iald (pc := 30) (gz_b (by omega)) (va_up_self _ _ _) (gv_in (by decide)) dX10_write_30 ?_
  refine go_top (y := 19) rfl ?_
  refine go_iadd (pc := 31) dX10_write_31 ?_
  refine go_top (y := 18119) (by decide) ?_
  refine go_iload_n (pc := 32) dX10_write_32 rfl rfl ?_
  refine go_iast (pc := 33) (gz_b (by omega)) (va_up_self _ _ _) (gv_in (by decide)) dX10_write_33 ?_
  refine go_w (va_up_up _ _ _ _) ?_
  refine go_aload_n (pc := 34) dX10_write_34 rfl rfl ?_
  refine go_get (pc := 35) fX10_9 rfl (gz_b (by omega)) ((va_up_ne _ _ (gz_ne (by decide))).trans ((hw 32 (by decide) (by decide)).trans (wl_at (i := 32) rfl))) rfl dX10_write_35 ?_
  refine go_bipush (pc := 38) (v := 15) dX10_write_38 (by decide) ?_
  refine go_dup2 (pc := 40) dX10_write_40 rfl rfl ?_
  refine go_iald (pc := 41) (gz_b (by omega)) (va_up_self _ _ _) (gv_in (by decide)) dX10_write_41 ?_
  refine go_top (y := 19) rfl ?_
  refine go_iconst (pc := 42) (v := 1) dX10_write_42 (by decide) ?_
  refine go_iadd (pc := 43) dX10_write_43 ?_
  refine go_top (y := 20) (by decide) ?_
  refine go_iast (pc := 44) (gz_b (by omega)) (va_up_self _ _ _) (gv_in (by decide)) dX10_write_44 ?_
  refine go_w (va_up_up _ _ _ _) ?_
  exact go_vret (pc := 45) rfl dX10_write_45
set_option maxRecDepth 100000 in
set_option maxHeartbeats 4000000 in
theorem cX10_write_48 {l : Launch} {G : gG} {n k : Nat} {w : Nat → va_E} (hn : 42 ≤ n) (hw : ∀ i, 32 ≤ i → i < 42 → w (G.2.1 + i) = wl G.2.1 (LF G) (G.2.1 + i)) : Ct l G mX10_write 0 0 [.ref (G.2.1 + 32), .int ((-1))] n k (va_up w (G.2.1 + 33) (ai G 26100 (upd (upd (upd (upd (upd (upd (upd (upd (upd (upd (upd (upd (upd (upd (upd (upd (upd (upd (upd (upd (upd (upd (upd (upd (upd (upd (upd (upd (upd (upd (upd (upd (upd (upd (upd (upd (upd (upd (upd (upd (upd (upd (upd (upd (upd (upd (upd (upd (upd (upd (upd (upd (upd (upd (upd (upd (upd (upd (upd (upd (upd (upd (upd (upd (upd (upd (upd (upd (upd (sx 256) (3 : Int32).toNatClampNeg 1) (4 : Int32).toNatClampNeg 0) (17 : Int32).toNatClampNeg 0) (5 : Int32).toNatClampNeg 1) (6 : Int32).toNatClampNeg 0) (7 : Int32).toNatClampNeg 0) (8 : Int32).toNatClampNeg 0) (9 : Int32).toNatClampNeg 0) (15 : Int32).toNatClampNeg 0) (10100 : Int32).toNatClampNeg ((-1))) (18100 : Int32).toNatClampNeg ((-1))) (15 : Int32).toNatClampNeg 1) (10101 : Int32).toNatClampNeg ((-1))) (18101 : Int32).toNatClampNeg ((-1))) (15 : Int32).toNatClampNeg 2) (10102 : Int32).toNatClampNeg ((-1))) (18102 : Int32).toNatClampNeg ((-1))) (15 : Int32).toNatClampNeg 3) (10103 : Int32).toNatClampNeg ((-1))) (18103 : Int32).toNatClampNeg ((-1))) (15 : Int32).toNatClampNeg 4) (10104 : Int32).toNatClampNeg ((-1))) (18104 : Int32).toNatClampNeg ((-1))) (15 : Int32).toNatClampNeg 5) (10105 : Int32).toNatClampNeg ((-1))) (18105 : Int32).toNatClampNeg ((-1))) (15 : Int32).toNatClampNeg 6) (10106 : Int32).toNatClampNeg ((-1))) (18106 : Int32).toNatClampNeg ((-1))) (15 : Int32).toNatClampNeg 7) (10107 : Int32).toNatClampNeg ((-1))) (18107 : Int32).toNatClampNeg ((-1))) (15 : Int32).toNatClampNeg 8) (10108 : Int32).toNatClampNeg ((-1))) (18108 : Int32).toNatClampNeg ((-1))) (15 : Int32).toNatClampNeg 9) (10109 : Int32).toNatClampNeg ((-1))) (18109 : Int32).toNatClampNeg ((-1))) (15 : Int32).toNatClampNeg 10) (10110 : Int32).toNatClampNeg ((-1))) (18110 : Int32).toNatClampNeg ((-1))) (15 : Int32).toNatClampNeg 11) (10111 : Int32).toNatClampNeg ((-1))) (18111 : Int32).toNatClampNeg ((-1))) (15 : Int32).toNatClampNeg 12) (10112 : Int32).toNatClampNeg ((-1))) (18112 : Int32).toNatClampNeg ((-1))) (15 : Int32).toNatClampNeg 13) (10113 : Int32).toNatClampNeg ((-1))) (18113 : Int32).toNatClampNeg ((-1))) (15 : Int32).toNatClampNeg 14) (10114 : Int32).toNatClampNeg ((-1))) (18114 : Int32).toNatClampNeg ((-1))) (15 : Int32).toNatClampNeg 15) (10115 : Int32).toNatClampNeg ((-1))) (18115 : Int32).toNatClampNeg ((-1))) (15 : Int32).toNatClampNeg 16) (10116 : Int32).toNatClampNeg ((-1))) (18116 : Int32).toNatClampNeg ((-1))) (15 : Int32).toNatClampNeg 17) (10117 : Int32).toNatClampNeg ((-1))) (18117 : Int32).toNatClampNeg ((-1))) (15 : Int32).toNatClampNeg 18) (10118 : Int32).toNatClampNeg ((-1))) (18118 : Int32).toNatClampNeg ((-1))) (15 : Int32).toNatClampNeg 19) (10119 : Int32).toNatClampNeg ((-1))) (18119 : Int32).toNatClampNeg ((-1))) (15 : Int32).toNatClampNeg 20))) (none, n, k, (va_up w (G.2.1 + 33) (ai G 26100 (upd (upd (upd (upd (upd (upd (upd (upd (upd (upd (upd (upd (upd (upd (upd (upd (upd (upd (upd (upd (upd (upd (upd (upd (upd (upd (upd (upd (upd (upd (upd (upd (upd (upd (upd (upd (upd (upd (upd (upd (upd (upd (upd (upd (upd (upd (upd (upd (upd (upd (upd (upd (upd (upd (upd (upd (upd (upd (upd (upd (upd (upd (upd (upd (upd (upd (upd (upd (upd (upd (upd (upd (sx 256) (3 : Int32).toNatClampNeg 1) (4 : Int32).toNatClampNeg 0) (17 : Int32).toNatClampNeg 0) (5 : Int32).toNatClampNeg 1) (6 : Int32).toNatClampNeg 0) (7 : Int32).toNatClampNeg 0) (8 : Int32).toNatClampNeg 0) (9 : Int32).toNatClampNeg 0) (15 : Int32).toNatClampNeg 0) (10100 : Int32).toNatClampNeg ((-1))) (18100 : Int32).toNatClampNeg ((-1))) (15 : Int32).toNatClampNeg 1) (10101 : Int32).toNatClampNeg ((-1))) (18101 : Int32).toNatClampNeg ((-1))) (15 : Int32).toNatClampNeg 2) (10102 : Int32).toNatClampNeg ((-1))) (18102 : Int32).toNatClampNeg ((-1))) (15 : Int32).toNatClampNeg 3) (10103 : Int32).toNatClampNeg ((-1))) (18103 : Int32).toNatClampNeg ((-1))) (15 : Int32).toNatClampNeg 4) (10104 : Int32).toNatClampNeg ((-1))) (18104 : Int32).toNatClampNeg ((-1))) (15 : Int32).toNatClampNeg 5) (10105 : Int32).toNatClampNeg ((-1))) (18105 : Int32).toNatClampNeg ((-1))) (15 : Int32).toNatClampNeg 6) (10106 : Int32).toNatClampNeg ((-1))) (18106 : Int32).toNatClampNeg ((-1))) (15 : Int32).toNatClampNeg 7) (10107 : Int32).toNatClampNeg ((-1))) (18107 : Int32).toNatClampNeg ((-1))) (15 : Int32).toNatClampNeg 8) (10108 : Int32).toNatClampNeg ((-1))) (18108 : Int32).toNatClampNeg ((-1))) (15 : Int32).toNatClampNeg 9) (10109 : Int32).toNatClampNeg ((-1))) (18109 : Int32).toNatClampNeg ((-1))) (15 : Int32).toNatClampNeg 10) (10110 : Int32).toNatClampNeg ((-1))) (18110 : Int32).toNatClampNeg ((-1))) (15 : Int32).toNatClampNeg 11) (10111 : Int32).toNatClampNeg ((-1))) (18111 : Int32).toNatClampNeg ((-1))) (15 : Int32).toNatClampNeg 12) (10112 : Int32).toNatClampNeg ((-1))) (18112 : Int32).toNatClampNeg ((-1))) (15 : Int32).toNatClampNeg 13) (10113 : Int32).toNatClampNeg ((-1))) (18113 : Int32).toNatClampNeg ((-1))) (15 : Int32).toNatClampNeg 14) (10114 : Int32).toNatClampNeg ((-1))) (18114 : Int32).toNatClampNeg ((-1))) (15 : Int32).toNatClampNeg 15) (10115 : Int32).toNatClampNeg ((-1))) (18115 : Int32).toNatClampNeg ((-1))) (15 : Int32).toNatClampNeg 16) (10116 : Int32).toNatClampNeg ((-1))) (18116 : Int32).toNatClampNeg ((-1))) (15 : Int32).toNatClampNeg 17) (10117 : Int32).toNatClampNeg ((-1))) (18117 : Int32).toNatClampNeg ((-1))) (15 : Int32).toNatClampNeg 18) (10118 : Int32).toNatClampNeg ((-1))) (18118 : Int32).toNatClampNeg ((-1))) (15 : Int32).toNatClampNeg 19) (10119 : Int32).toNatClampNeg ((-1))) (18119 : Int32).toNatClampNeg ((-1))) (15 : Int32).toNatClampNeg 20) (10120 : Int32).toNatClampNeg ((-1))) (18120 : Int32).toNatClampNeg ((-1))) (15 : Int32).toNatClampNeg 21)))) := by
  refine Ct.of (by decide) (Nat.le_of_ble_eq_true rfl) ⟨Nat.le_refl _, Nat.le_refl _⟩ ?_
  show Go l G mX10_write _ 0 [(0, .ref (G.2.1 + 32)), (1, .int ((-1)))] [] n k (va_up w (G.2.1 + 33) (ai G 26100 (upd (upd (upd (upd (upd (upd (upd (upd (upd (upd (upd (upd (upd (upd (upd (upd (upd (upd (upd (upd (upd (upd (upd (upd (upd (upd (upd (upd (upd (upd (upd (upd (upd (upd (upd (upd (upd (upd (upd (upd (upd (upd (upd (upd (upd (upd (upd (upd (upd (upd (upd (upd (upd (upd (upd (upd (upd (upd (upd (upd (upd (upd (upd (upd (upd (upd (upd (upd (upd (sx 256) (3 : Int32).toNatClampNeg 1) (4 : Int32).toNatClampNeg 0) (17 : Int32).toNatClampNeg 0) (5 : Int32).toNatClampNeg 1) (6 : Int32).toNatClampNeg 0) (7 : Int32).toNatClampNeg 0) (8 : Int32).toNatClampNeg 0) (9 : Int32).toNatClampNeg 0) (15 : Int32).toNatClampNeg 0) (10100 : Int32).toNatClampNeg ((-1))) (18100 : Int32).toNatClampNeg ((-1))) (15 : Int32).toNatClampNeg 1) (10101 : Int32).toNatClampNeg ((-1))) (18101 : Int32).toNatClampNeg ((-1))) (15 : Int32).toNatClampNeg 2) (10102 : Int32).toNatClampNeg ((-1))) (18102 : Int32).toNatClampNeg ((-1))) (15 : Int32).toNatClampNeg 3) (10103 : Int32).toNatClampNeg ((-1))) (18103 : Int32).toNatClampNeg ((-1))) (15 : Int32).toNatClampNeg 4) (10104 : Int32).toNatClampNeg ((-1))) (18104 : Int32).toNatClampNeg ((-1))) (15 : Int32).toNatClampNeg 5) (10105 : Int32).toNatClampNeg ((-1))) (18105 : Int32).toNatClampNeg ((-1))) (15 : Int32).toNatClampNeg 6) (10106 : Int32).toNatClampNeg ((-1))) (18106 : Int32).toNatClampNeg ((-1))) (15 : Int32).toNatClampNeg 7) (10107 : Int32).toNatClampNeg ((-1))) (18107 : Int32).toNatClampNeg ((-1))) (15 : Int32).toNatClampNeg 8) (10108 : Int32).toNatClampNeg ((-1))) (18108 : Int32).toNatClampNeg ((-1))) (15 : Int32).toNatClampNeg 9) (10109 : Int32).toNatClampNeg ((-1))) (18109 : Int32).toNatClampNeg ((-1))) (15 : Int32).toNatClampNeg 10) (10110 : Int32).toNatClampNeg ((-1))) (18110 : Int32).toNatClampNeg ((-1))) (15 : Int32).toNatClampNeg 11) (10111 : Int32).toNatClampNeg ((-1))) (18111 : Int32).toNatClampNeg ((-1))) (15 : Int32).toNatClampNeg 12) (10112 : Int32).toNatClampNeg ((-1))) (18112 : Int32).toNatClampNeg ((-1))) (15 : Int32).toNatClampNeg 13) (10113 : Int32).toNatClampNeg ((-1))) (18113 : Int32).toNatClampNeg ((-1))) (15 : Int32).toNatClampNeg 14) (10114 : Int32).toNatClampNeg ((-1))) (18114 : Int32).toNatClampNeg ((-1))) (15 : Int32).toNatClampNeg 15) (10115 : Int32).toNatClampNeg ((-1))) (18115 : Int32).toNatClampNeg ((-1))) (15 : Int32).toNatClampNeg 16) (10116 : Int32).toNatClampNeg ((-1))) (18116 : Int32).toNatClampNeg ((-1))) (15 : Int32).toNatClampNeg 17) (10117 : Int32).toNatClampNeg ((-1))) (18117 : Int32).toNatClampNeg ((-1))) (15 : Int32).toNatClampNeg 18) (10118 : Int32).toNatClampNeg ((-1))) (18118 : Int32).toNatClampNeg ((-1))) (15 : Int32).toNatClampNeg 19) (10119 : Int32).toNatClampNeg ((-1))) (18119 : Int32).toNatClampNeg ((-1))) (15 : Int32).toNatClampNeg 20)))
  refine go_aload_n (pc := 0) dX10_write_0 rfl rfl ?_
  refine go_get (pc := 1) fX10_9 rfl (gz_b (by omega)) ((va_up_ne _ _ (gz_ne (by decide))).trans ((hw 32 (by decide) (by decide)).trans (wl_at (i := 32) rfl))) rfl dX10_write_1 ?_
  refine go_sipush (pc := 4) (v := 10100) dX10_write_4 (by decide) ?_
  refine go_aload_n (pc := 7) dX10_write_7 rfl rfl ?_
  refine go_get (pc := 8) fX10_9 rfl (gz_b (by omega)) ((va_up_ne _ _ (gz_ne (by decide))).trans ((hw 32 (by decide) (by decide)).trans (wl_at (i := 32) rfl))) rfl dX10_write_8 ?_
  refine go_bipush (pc := 11) (v := 15) dX10_write_11 (by decide) ?_
  refine go_iald (pc := 13) (gz_b (by omega)) (va_up_self _ _ _) (gv_in (by decide)) dX10_write_13 ?_
  refine go_top (y := 20) rfl ?_
  refine go_iadd (pc := 14) dX10_write_14 ?_
  refine go_top (y := 10120) (by decide) ?_
  refine go_iload_n (pc := 15) dX10_write_15 rfl rfl ?_
  refine go_iast (pc := 16) (gz_b (by omega)) (va_up_self _ _ _) (gv_in (by decide)) dX10_write_16 ?_
  refine go_w (va_up_up _ _ _ _) ?_
  refine go_aload_n (pc := 17) dX10_write_17 rfl rfl ?_
  refine go_get (pc := 18) fX10_9 rfl (gz_b (by omega)) ((va_up_ne _ _ (gz_ne (by decide))).trans ((hw 32 (by decide) (by decide)).trans (wl_at (i := 32) rfl))) rfl dX10_write_18 ?_
  refine go_sipush (pc := 21) (v := 18100) dX10_write_21 (by decide) ?_
  refine go_aload_n (pc := 24) dX10_write_24 rfl rfl ?_
  refine go_get (pc := 25) fX10_9 rfl (gz_b (by omega)) ((va_up_ne _ _ (gz_ne (by decide))).trans ((hw 32 (by decide) (by decide)).trans (wl_at (i := 32) rfl))) rfl dX10_write_25 ?_
  refine go_bipush (pc := 28) (v := 15) dX10_write_28 (by decide) ?_
  refine go_iald (pc := 30) (gz_b (by omega)) (va_up_self _ _ _) (gv_in (by decide)) dX10_write_30 ?_
  refine go_top (y := 20) rfl ?_
  refine go_iadd (pc := 31) dX10_write_31 ?_
  refine go_top (y := 18120) (by decide) ?_
  refine go_iload_n (pc := 32) dX10_write_32 rfl rfl ?_
  refine go_iast (pc := 33) (gz_b (by omega)) (va_up_self _ _ _) (gv_in (by decide)) dX10_write_33 ?_
  refine go_w (va_up_up _ _ _ _) ?_
  refine go_aload_n (pc := 34) dX10_write_34 rfl rfl ?_
  refine go_get (pc := 35) fX10_9 rfl (gz_b (by omega)) ((va_up_ne _ _ (gz_ne (by decide))).trans ((hw 32 (by decide) (by decide)).trans (wl_at (i := 32) rfl))) rfl dX10_write_35 ?_
  refine go_bipush (pc := 38) (v := 15) dX10_write_38 (by decide) ?_
  refine go_dup2 (pc := 40) dX10_write_40 rfl rfl ?_
  refine go_iald (pc := 41) (gz_b (by omega)) (va_up_self _ _ _) (gv_in (by decide)) dX10_write_41 ?_
  refine go_top (y := 20) rfl ?_
  refine go_iconst (pc := 42) (v := 1) dX10_write_42 (by decide) ?_
  refine go_iadd (pc := 43) dX10_write_43 ?_
  refine go_top (y := 21) (by decide) ?_
  refine go_iast (pc := 44) (gz_b (by omega)) (va_up_self _ _ _) (gv_in (by decide)) dX10_write_44 ?_
  refine go_w (va_up_up _ _ _ _) ?_
  exact go_vret (pc := 45) rfl dX10_write_45
set_option maxRecDepth 100000 in
set_option maxHeartbeats 4000000 in
theorem cX10_write_49 {l : Launch} {G : gG} {n k : Nat} {w : Nat → va_E} (hn : 42 ≤ n) (hw : ∀ i, 32 ≤ i → i < 42 → w (G.2.1 + i) = wl G.2.1 (LF G) (G.2.1 + i)) : Ct l G mX10_write 0 0 [.ref (G.2.1 + 32), .int ((-1))] n k (va_up w (G.2.1 + 33) (ai G 26100 (upd (upd (upd (upd (upd (upd (upd (upd (upd (upd (upd (upd (upd (upd (upd (upd (upd (upd (upd (upd (upd (upd (upd (upd (upd (upd (upd (upd (upd (upd (upd (upd (upd (upd (upd (upd (upd (upd (upd (upd (upd (upd (upd (upd (upd (upd (upd (upd (upd (upd (upd (upd (upd (upd (upd (upd (upd (upd (upd (upd (upd (upd (upd (upd (upd (upd (upd (upd (upd (upd (upd (upd (sx 256) (3 : Int32).toNatClampNeg 1) (4 : Int32).toNatClampNeg 0) (17 : Int32).toNatClampNeg 0) (5 : Int32).toNatClampNeg 1) (6 : Int32).toNatClampNeg 0) (7 : Int32).toNatClampNeg 0) (8 : Int32).toNatClampNeg 0) (9 : Int32).toNatClampNeg 0) (15 : Int32).toNatClampNeg 0) (10100 : Int32).toNatClampNeg ((-1))) (18100 : Int32).toNatClampNeg ((-1))) (15 : Int32).toNatClampNeg 1) (10101 : Int32).toNatClampNeg ((-1))) (18101 : Int32).toNatClampNeg ((-1))) (15 : Int32).toNatClampNeg 2) (10102 : Int32).toNatClampNeg ((-1))) (18102 : Int32).toNatClampNeg ((-1))) (15 : Int32).toNatClampNeg 3) (10103 : Int32).toNatClampNeg ((-1))) (18103 : Int32).toNatClampNeg ((-1))) (15 : Int32).toNatClampNeg 4) (10104 : Int32).toNatClampNeg ((-1))) (18104 : Int32).toNatClampNeg ((-1))) (15 : Int32).toNatClampNeg 5) (10105 : Int32).toNatClampNeg ((-1))) (18105 : Int32).toNatClampNeg ((-1))) (15 : Int32).toNatClampNeg 6) (10106 : Int32).toNatClampNeg ((-1))) (18106 : Int32).toNatClampNeg ((-1))) (15 : Int32).toNatClampNeg 7) (10107 : Int32).toNatClampNeg ((-1))) (18107 : Int32).toNatClampNeg ((-1))) (15 : Int32).toNatClampNeg 8) (10108 : Int32).toNatClampNeg ((-1))) (18108 : Int32).toNatClampNeg ((-1))) (15 : Int32).toNatClampNeg 9) (10109 : Int32).toNatClampNeg ((-1))) (18109 : Int32).toNatClampNeg ((-1))) (15 : Int32).toNatClampNeg 10) (10110 : Int32).toNatClampNeg ((-1))) (18110 : Int32).toNatClampNeg ((-1))) (15 : Int32).toNatClampNeg 11) (10111 : Int32).toNatClampNeg ((-1))) (18111 : Int32).toNatClampNeg ((-1))) (15 : Int32).toNatClampNeg 12) (10112 : Int32).toNatClampNeg ((-1))) (18112 : Int32).toNatClampNeg ((-1))) (15 : Int32).toNatClampNeg 13) (10113 : Int32).toNatClampNeg ((-1))) (18113 : Int32).toNatClampNeg ((-1))) (15 : Int32).toNatClampNeg 14) (10114 : Int32).toNatClampNeg ((-1))) (18114 : Int32).toNatClampNeg ((-1))) (15 : Int32).toNatClampNeg 15) (10115 : Int32).toNatClampNeg ((-1))) (18115 : Int32).toNatClampNeg ((-1))) (15 : Int32).toNatClampNeg 16) (10116 : Int32).toNatClampNeg ((-1))) (18116 : Int32).toNatClampNeg ((-1))) (15 : Int32).toNatClampNeg 17) (10117 : Int32).toNatClampNeg ((-1))) (18117 : Int32).toNatClampNeg ((-1))) (15 : Int32).toNatClampNeg 18) (10118 : Int32).toNatClampNeg ((-1))) (18118 : Int32).toNatClampNeg ((-1))) (15 : Int32).toNatClampNeg 19) (10119 : Int32).toNatClampNeg ((-1))) (18119 : Int32).toNatClampNeg ((-1))) (15 : Int32).toNatClampNeg 20) (10120 : Int32).toNatClampNeg ((-1))) (18120 : Int32).toNatClampNeg ((-1))) (15 : Int32).toNatClampNeg 21))) (none, n, k, (va_up w (G.2.1 + 33) (ai G 26100 (upd (upd (upd (upd (upd (upd (upd (upd (upd (upd (upd (upd (upd (upd (upd (upd (upd (upd (upd (upd (upd (upd (upd (upd (upd (upd (upd (upd (upd (upd (upd (upd (upd (upd (upd (upd (upd (upd (upd (upd (upd (upd (upd (upd (upd (upd (upd (upd (upd (upd (upd (upd (upd (upd (upd (upd (upd (upd (upd (upd (upd (upd (upd (upd (upd (upd (upd (upd (upd (upd (upd (upd (upd (upd (upd (sx 256) (3 : Int32).toNatClampNeg 1) (4 : Int32).toNatClampNeg 0) (17 : Int32).toNatClampNeg 0) (5 : Int32).toNatClampNeg 1) (6 : Int32).toNatClampNeg 0) (7 : Int32).toNatClampNeg 0) (8 : Int32).toNatClampNeg 0) (9 : Int32).toNatClampNeg 0) (15 : Int32).toNatClampNeg 0) (10100 : Int32).toNatClampNeg ((-1))) (18100 : Int32).toNatClampNeg ((-1))) (15 : Int32).toNatClampNeg 1) (10101 : Int32).toNatClampNeg ((-1))) (18101 : Int32).toNatClampNeg ((-1))) (15 : Int32).toNatClampNeg 2) (10102 : Int32).toNatClampNeg ((-1))) (18102 : Int32).toNatClampNeg ((-1))) (15 : Int32).toNatClampNeg 3) (10103 : Int32).toNatClampNeg ((-1))) (18103 : Int32).toNatClampNeg ((-1))) (15 : Int32).toNatClampNeg 4) (10104 : Int32).toNatClampNeg ((-1))) (18104 : Int32).toNatClampNeg ((-1))) (15 : Int32).toNatClampNeg 5) (10105 : Int32).toNatClampNeg ((-1))) (18105 : Int32).toNatClampNeg ((-1))) (15 : Int32).toNatClampNeg 6) (10106 : Int32).toNatClampNeg ((-1))) (18106 : Int32).toNatClampNeg ((-1))) (15 : Int32).toNatClampNeg 7) (10107 : Int32).toNatClampNeg ((-1))) (18107 : Int32).toNatClampNeg ((-1))) (15 : Int32).toNatClampNeg 8) (10108 : Int32).toNatClampNeg ((-1))) (18108 : Int32).toNatClampNeg ((-1))) (15 : Int32).toNatClampNeg 9) (10109 : Int32).toNatClampNeg ((-1))) (18109 : Int32).toNatClampNeg ((-1))) (15 : Int32).toNatClampNeg 10) (10110 : Int32).toNatClampNeg ((-1))) (18110 : Int32).toNatClampNeg ((-1))) (15 : Int32).toNatClampNeg 11) (10111 : Int32).toNatClampNeg ((-1))) (18111 : Int32).toNatClampNeg ((-1))) (15 : Int32).toNatClampNeg 12) (10112 : Int32).toNatClampNeg ((-1))) (18112 : Int32).toNatClampNeg ((-1))) (15 : Int32).toNatClampNeg 13) (10113 : Int32).toNatClampNeg ((-1))) (18113 : Int32).toNatClampNeg ((-1))) (15 : Int32).toNatClampNeg 14) (10114 : Int32).toNatClampNeg ((-1))) (18114 : Int32).toNatClampNeg ((-1))) (15 : Int32).toNatClampNeg 15) (10115 : Int32).toNatClampNeg ((-1))) (18115 : Int32).toNatClampNeg ((-1))) (15 : Int32).toNatClampNeg 16) (10116 : Int32).toNatClampNeg ((-1))) (18116 : Int32).toNatClampNeg ((-1))) (15 : Int32).toNatClampNeg 17) (10117 : Int32).toNatClampNeg ((-1))) (18117 : Int32).toNatClampNeg ((-1))) (15 : Int32).toNatClampNeg 18) (10118 : Int32).toNatClampNeg ((-1))) (18118 : Int32).toNatClampNeg ((-1))) (15 : Int32).toNatClampNeg 19) (10119 : Int32).toNatClampNeg ((-1))) (18119 : Int32).toNatClampNeg ((-1))) (15 : Int32).toNatClampNeg 20) (10120 : Int32).toNatClampNeg ((-1))) (18120 : Int32).toNatClampNeg ((-1))) (15 : Int32).toNatClampNeg 21) (10121 : Int32).toNatClampNeg ((-1))) (18121 : Int32).toNatClampNeg ((-1))) (15 : Int32).toNatClampNeg 22)))) := by
  refine Ct.of (by decide) (Nat.le_of_ble_eq_true rfl) ⟨Nat.le_refl _, Nat.le_refl _⟩ ?_
  show Go l G mX10_write _ 0 [(0, .ref (G.2.1 + 32)), (1, .int ((-1)))] [] n k (va_up w (G.2.1 + 33) (ai G 26100 (upd (upd (upd (upd (upd (upd (upd (upd (upd (upd (upd (upd (upd (upd (upd (upd (upd (upd (upd (upd (upd (upd (upd (upd (upd (upd (upd (upd (upd (upd (upd (upd (upd (upd (upd (upd (upd (upd (upd (upd (upd (upd (upd (upd (upd (upd (upd (upd (upd (upd (upd (upd (upd (upd (upd (upd (upd (upd (upd (upd (upd (upd (upd (upd (upd (upd (upd (upd (upd (upd (upd (upd (sx 256) (3 : Int32).toNatClampNeg 1) (4 : Int32).toNatClampNeg 0) (17 : Int32).toNatClampNeg 0) (5 : Int32).toNatClampNeg 1) (6 : Int32).toNatClampNeg 0) (7 : Int32).toNatClampNeg 0) (8 : Int32).toNatClampNeg 0) (9 : Int32).toNatClampNeg 0) (15 : Int32).toNatClampNeg 0) (10100 : Int32).toNatClampNeg ((-1))) (18100 : Int32).toNatClampNeg ((-1))) (15 : Int32).toNatClampNeg 1) (10101 : Int32).toNatClampNeg ((-1))) (18101 : Int32).toNatClampNeg ((-1))) (15 : Int32).toNatClampNeg 2) (10102 : Int32).toNatClampNeg ((-1))) (18102 : Int32).toNatClampNeg ((-1))) (15 : Int32).toNatClampNeg 3) (10103 : Int32).toNatClampNeg ((-1))) (18103 : Int32).toNatClampNeg ((-1))) (15 : Int32).toNatClampNeg 4) (10104 : Int32).toNatClampNeg ((-1))) (18104 : Int32).toNatClampNeg ((-1))) (15 : Int32).toNatClampNeg 5) (10105 : Int32).toNatClampNeg ((-1))) (18105 : Int32).toNatClampNeg ((-1))) (15 : Int32).toNatClampNeg 6) (10106 : Int32).toNatClampNeg ((-1))) (18106 : Int32).toNatClampNeg ((-1))) (15 : Int32).toNatClampNeg 7) (10107 : Int32).toNatClampNeg ((-1))) (18107 : Int32).toNatClampNeg ((-1))) (15 : Int32).toNatClampNeg 8) (10108 : Int32).toNatClampNeg ((-1))) (18108 : Int32).toNatClampNeg ((-1))) (15 : Int32).toNatClampNeg 9) (10109 : Int32).toNatClampNeg ((-1))) (18109 : Int32).toNatClampNeg ((-1))) (15 : Int32).toNatClampNeg 10) (10110 : Int32).toNatClampNeg ((-1))) (18110 : Int32).toNatClampNeg ((-1))) (15 : Int32).toNatClampNeg 11) (10111 : Int32).toNatClampNeg ((-1))) (18111 : Int32).toNatClampNeg ((-1))) (15 : Int32).toNatClampNeg 12) (10112 : Int32).toNatClampNeg ((-1))) (18112 : Int32).toNatClampNeg ((-1))) (15 : Int32).toNatClampNeg 13) (10113 : Int32).toNatClampNeg ((-1))) (18113 : Int32).toNatClampNeg ((-1))) (15 : Int32).toNatClampNeg 14) (10114 : Int32).toNatClampNeg ((-1))) (18114 : Int32).toNatClampNeg ((-1))) (15 : Int32).toNatClampNeg 15) (10115 : Int32).toNatClampNeg ((-1))) (18115 : Int32).toNatClampNeg ((-1))) (15 : Int32).toNatClampNeg 16) (10116 : Int32).toNatClampNeg ((-1))) (18116 : Int32).toNatClampNeg ((-1))) (15 : Int32).toNatClampNeg 17) (10117 : Int32).toNatClampNeg ((-1))) (18117 : Int32).toNatClampNeg ((-1))) (15 : Int32).toNatClampNeg 18) (10118 : Int32).toNatClampNeg ((-1))) (18118 : Int32).toNatClampNeg ((-1))) (15 : Int32).toNatClampNeg 19) (10119 : Int32).toNatClampNeg ((-1))) (18119 : Int32).toNatClampNeg ((-1))) (15 : Int32).toNatClampNeg 20) (10120 : Int32).toNatClampNeg ((-1))) (18120 : Int32).toNatClampNeg ((-1))) (15 : Int32).toNatClampNeg 21)))
  refine go_aload_n (pc := 0) dX10_write_0 rfl rfl ?_
  refine go_get (pc := 1) fX10_9 rfl (gz_b (by omega)) ((va_up_ne _ _ (gz_ne (by decide))).trans ((hw 32 (by decide) (by decide)).trans (wl_at (i := 32) rfl))) rfl dX10_write_1 ?_
  refine go_sipush (pc := 4) (v := 10100) dX10_write_4 (by decide) ?_
  refine go_aload_n (pc := 7) dX10_write_7 rfl rfl ?_
  refine go_get (pc := 8) fX10_9 rfl (gz_b (by omega)) ((va_up_ne _ _ (gz_ne (by decide))).trans ((hw 32 (by decide) (by decide)).trans (wl_at (i := 32) rfl))) rfl dX10_write_8 ?_
  refine go_bipush (pc := 11) (v := 15) dX10_write_11 (by decide) ?_
  refine go_iald (pc := 13) (gz_b (by omega)) (va_up_self _ _ _) (gv_in (by decide)) dX10_write_13 ?_
  refine go_top (y := 21) rfl ?_
  refine go_iadd (pc := 14) dX10_write_14 ?_
  refine go_top (y := 10121) (by decide) ?_
  refine go_iload_n (pc := 15) dX10_write_15 rfl rfl ?_
  refine go_iast (pc := 16) (gz_b (by omega)) (va_up_self _ _ _) (gv_in (by decide)) dX10_write_16 ?_
  refine go_w (va_up_up _ _ _ _) ?_
  refine go_aload_n (pc := 17) dX10_write_17 rfl rfl ?_
  refine go_get (pc := 18) fX10_9 rfl (gz_b (by omega)) ((va_up_ne _ _ (gz_ne (by decide))).trans ((hw 32 (by decide) (by decide)).trans (wl_at (i := 32) rfl))) rfl dX10_write_18 ?_
  refine go_sipush (pc := 21) (v := 18100) dX10_write_21 (by decide) ?_
  refine go_aload_n (pc := 24) dX10_write_24 rfl rfl ?_
  refine go_get (pc := 25) fX10_9 rfl (gz_b (by omega)) ((va_up_ne _ _ (gz_ne (by decide))).trans ((hw 32 (by decide) (by decide)).trans (wl_at (i := 32) rfl))) rfl dX10_write_25 ?_
  refine go_bipush (pc := 28) (v := 15) dX10_write_28 (by decide) ?_
  refine go_iald (pc := 30) (gz_b (by omega)) (va_up_self _ _ _) (gv_in (by decide)) dX10_write_30 ?_
  refine go_top (y := 21) rfl ?_
  refine go_iadd (pc := 31) dX10_write_31 ?_
  refine go_top (y := 18121) (by decide) ?_
  refine go_iload_n (pc := 32) dX10_write_32 rfl rfl ?_
  refine go_iast (pc := 33) (gz_b (by omega)) (va_up_self _ _ _) (gv_in (by decide)) dX10_write_33 ?_
  refine go_w (va_up_up _ _ _ _) ?_
  refine go_aload_n (pc := 34) dX10_write_34 rfl rfl ?_
  refine go_get (pc := 35) fX10_9 rfl (gz_b (by omega)) ((va_up_ne _ _ (gz_ne (by decide))).trans ((hw 32 (by decide) (by decide)).trans (wl_at (i := 32) rfl))) rfl dX10_write_35 ?_
  refine go_bipush (pc := 38) (v := 15) dX10_write_38 (by decide) ?_
  refine go_dup2 (pc := 40) dX10_write_40 rfl rfl ?_
  refine go_iald (pc := 41) (gz_b (by omega)) (va_up_self _ _ _) (gv_in (by decide)) dX10_write_41 ?_
  refine go_top (y := 21) rfl ?_
  refine go_iconst (pc := 42) (v := 1) dX10_write_42 (by decide) ?_
  refine go_iadd (pc := 43) dX10_write_43 ?_
  refine go_top (y := 22) (by decide) ?_
  refine go_iast (pc := 44) (gz_b (by omega)) (va_up_self _ _ _) (gv_in (by decide)) dX10_write_44 ?_
  refine go_w (va_up_up _ _ _ _) ?_
  exact go_vret (pc := 45) rfl dX10_write_45
set_option maxRecDepth 100000 in
set_option maxHeartbeats 4000000 in
theorem cX10_write_50 {l : Launch} {G : gG} {n k : Nat} {w : Nat → va_E} (hn : 42 ≤ n) (hw : ∀ i, 32 ≤ i → i < 42 → w (G.2.1 + i) = wl G.2.1 (LF G) (G.2.1 + i)) : Ct l G mX10_write 0 0 [.ref (G.2.1 + 32), .int ((-1))] n k (va_up w (G.2.1 + 33) (ai G 26100 (upd (upd (upd (upd (upd (upd (upd (upd (upd (upd (upd (upd (upd (upd (upd (upd (upd (upd (upd (upd (upd (upd (upd (upd (upd (upd (upd (upd (upd (upd (upd (upd (upd (upd (upd (upd (upd (upd (upd (upd (upd (upd (upd (upd (upd (upd (upd (upd (upd (upd (upd (upd (upd (upd (upd (upd (upd (upd (upd (upd (upd (upd (upd (upd (upd (upd (upd (upd (upd (upd (upd (upd (upd (upd (upd (sx 256) (3 : Int32).toNatClampNeg 1) (4 : Int32).toNatClampNeg 0) (17 : Int32).toNatClampNeg 0) (5 : Int32).toNatClampNeg 1) (6 : Int32).toNatClampNeg 0) (7 : Int32).toNatClampNeg 0) (8 : Int32).toNatClampNeg 0) (9 : Int32).toNatClampNeg 0) (15 : Int32).toNatClampNeg 0) (10100 : Int32).toNatClampNeg ((-1))) (18100 : Int32).toNatClampNeg ((-1))) (15 : Int32).toNatClampNeg 1) (10101 : Int32).toNatClampNeg ((-1))) (18101 : Int32).toNatClampNeg ((-1))) (15 : Int32).toNatClampNeg 2) (10102 : Int32).toNatClampNeg ((-1))) (18102 : Int32).toNatClampNeg ((-1))) (15 : Int32).toNatClampNeg 3) (10103 : Int32).toNatClampNeg ((-1))) (18103 : Int32).toNatClampNeg ((-1))) (15 : Int32).toNatClampNeg 4) (10104 : Int32).toNatClampNeg ((-1))) (18104 : Int32).toNatClampNeg ((-1))) (15 : Int32).toNatClampNeg 5) (10105 : Int32).toNatClampNeg ((-1))) (18105 : Int32).toNatClampNeg ((-1))) (15 : Int32).toNatClampNeg 6) (10106 : Int32).toNatClampNeg ((-1))) (18106 : Int32).toNatClampNeg ((-1))) (15 : Int32).toNatClampNeg 7) (10107 : Int32).toNatClampNeg ((-1))) (18107 : Int32).toNatClampNeg ((-1))) (15 : Int32).toNatClampNeg 8) (10108 : Int32).toNatClampNeg ((-1))) (18108 : Int32).toNatClampNeg ((-1))) (15 : Int32).toNatClampNeg 9) (10109 : Int32).toNatClampNeg ((-1))) (18109 : Int32).toNatClampNeg ((-1))) (15 : Int32).toNatClampNeg 10) (10110 : Int32).toNatClampNeg ((-1))) (18110 : Int32).toNatClampNeg ((-1))) (15 : Int32).toNatClampNeg 11) (10111 : Int32).toNatClampNeg ((-1))) (18111 : Int32).toNatClampNeg ((-1))) (15 : Int32).toNatClampNeg 12) (10112 : Int32).toNatClampNeg ((-1))) (18112 : Int32).toNatClampNeg ((-1))) (15 : Int32).toNatClampNeg 13) (10113 : Int32).toNatClampNeg ((-1))) (18113 : Int32).toNatClampNeg ((-1))) (15 : Int32).toNatClampNeg 14) (10114 : Int32).toNatClampNeg ((-1))) (18114 : Int32).toNatClampNeg ((-1))) (15 : Int32).toNatClampNeg 15) (10115 : Int32).toNatClampNeg ((-1))) (18115 : Int32).toNatClampNeg ((-1))) (15 : Int32).toNatClampNeg 16) (10116 : Int32).toNatClampNeg ((-1))) (18116 : Int32).toNatClampNeg ((-1))) (15 : Int32).toNatClampNeg 17) (10117 : Int32).toNatClampNeg ((-1))) (18117 : Int32).toNatClampNeg ((-1))) (15 : Int32).toNatClampNeg 18) (10118 : Int32).toNatClampNeg ((-1))) (18118 : Int32).toNatClampNeg ((-1))) (15 : Int32).toNatClampNeg 19) (10119 : Int32).toNatClampNeg ((-1))) (18119 : Int32).toNatClampNeg ((-1))) (15 : Int32).toNatClampNeg 20) (10120 : Int32).toNatClampNeg ((-1))) (18120 : Int32).toNatClampNeg ((-1))) (15 : Int32).toNatClampNeg 21) (10121 : Int32).toNatClampNeg ((-1))) (18121 : Int32).toNatClampNeg ((-1))) (15 : Int32).toNatClampNeg 22))) (none, n, k, (va_up w (G.2.1 + 33) (ai G 26100 (upd (upd (upd (upd (upd (upd (upd (upd (upd (upd (upd (upd (upd (upd (upd (upd (upd (upd (upd (upd (upd (upd (upd (upd (upd (upd (upd (upd (upd (upd (upd (upd (upd (upd (upd (upd (upd (upd (upd (upd (upd (upd (upd (upd (upd (upd (upd (upd (upd (upd (upd (upd (upd (upd (upd (upd (upd (upd (upd (upd (upd (upd (upd (upd (upd (upd (upd (upd (upd (upd (upd (upd (upd (upd (upd (upd (upd (upd (sx 256) (3 : Int32).toNatClampNeg 1) (4 : Int32).toNatClampNeg 0) (17 : Int32).toNatClampNeg 0) (5 : Int32).toNatClampNeg 1) (6 : Int32).toNatClampNeg 0) (7 : Int32).toNatClampNeg 0) (8 : Int32).toNatClampNeg 0) (9 : Int32).toNatClampNeg 0) (15 : Int32).toNatClampNeg 0) (10100 : Int32).toNatClampNeg ((-1))) (18100 : Int32).toNatClampNeg ((-1))) (15 : Int32).toNatClampNeg 1) (10101 : Int32).toNatClampNeg ((-1))) (18101 : Int32).toNatClampNeg ((-1))) (15 : Int32).toNatClampNeg 2) (10102 : Int32).toNatClampNeg ((-1))) (18102 : Int32).toNatClampNeg ((-1))) (15 : Int32).toNatClampNeg 3) (10103 : Int32).toNatClampNeg ((-1))) (18103 : Int32).toNatClampNeg ((-1))) (15 : Int32).toNatClampNeg 4) (10104 : Int32).toNatClampNeg ((-1))) (18104 : Int32).toNatClampNeg ((-1))) (15 : Int32).toNatClampNeg 5) (10105 : Int32).toNatClampNeg ((-1))) (18105 : Int32).toNatClampNeg ((-1))) (15 : Int32).toNatClampNeg 6) (10106 : Int32).toNatClampNeg ((-1))) (18106 : Int32).toNatClampNeg ((-1))) (15 : Int32).toNatClampNeg 7) (10107 : Int32).toNatClampNeg ((-1))) (18107 : Int32).toNatClampNeg ((-1))) (15 : Int32).toNatClampNeg 8) (10108 : Int32).toNatClampNeg ((-1))) (18108 : Int32).toNatClampNeg ((-1))) (15 : Int32).toNatClampNeg 9) (10109 : Int32).toNatClampNeg ((-1))) (18109 : Int32).toNatClampNeg ((-1))) (15 : Int32).toNatClampNeg 10) (10110 : Int32).toNatClampNeg ((-1))) (18110 : Int32).toNatClampNeg ((-1))) (15 : Int32).toNatClampNeg 11) (10111 : Int32).toNatClampNeg ((-1))) (18111 : Int32).toNatClampNeg ((-1))) (15 : Int32).toNatClampNeg 12) (10112 : Int32).toNatClampNeg ((-1))) (18112 : Int32).toNatClampNeg ((-1))) (15 : Int32).toNatClampNeg 13) (10113 : Int32).toNatClampNeg ((-1))) (18113 : Int32).toNatClampNeg ((-1))) (15 : Int32).toNatClampNeg 14) (10114 : Int32).toNatClampNeg ((-1))) (18114 : Int32).toNatClampNeg ((-1))) (15 : Int32).toNatClampNeg 15) (10115 : Int32).toNatClampNeg ((-1))) (18115 : Int32).toNatClampNeg ((-1))) (15 : Int32).toNatClampNeg 16) (10116 : Int32).toNatClampNeg ((-1))) (18116 : Int32).toNatClampNeg ((-1))) (15 : Int32).toNatClampNeg 17) (10117 : Int32).toNatClampNeg ((-1))) (18117 : Int32).toNatClampNeg ((-1))) (15 : Int32).toNatClampNeg 18) (10118 : Int32).toNatClampNeg ((-1))) (18118 : Int32).toNatClampNeg ((-1))) (15 : Int32).toNatClampNeg 19) (10119 : Int32).toNatClampNeg ((-1))) (18119 : Int32).toNatClampNeg ((-1))) (15 : Int32).toNatClampNeg 20) (10120 : Int32).toNatClampNeg ((-1))) (18120 : Int32).toNatClampNeg ((-1))) (15 : Int32).toNatClampNeg 21) (10121 : Int32).toNatClampNeg ((-1))) (18121 : Int32).toNatClampNeg ((-1))) (15 : Int32).toNatClampNeg 22) (10122 : Int32).toNatClampNeg ((-1))) (18122 : Int32).toNatClampNeg ((-1))) (15 : Int32).toNatClampNeg 23)))) := by
  refine Ct.of (by decide) (Nat.le_of_ble_eq_true rfl) ⟨Nat.le_refl _, Nat.le_refl _⟩ ?_
  show Go l G mX10_write _ 0 [(0, .ref (G.2.1 + 32)), (1, .int ((-1)))] [] n k (va_up w (G.2.1 + 33) (ai G 26100 (upd (upd (upd (upd (upd (upd (upd (upd (upd (upd (upd (upd (upd (upd (upd (upd (upd (upd (upd (upd (upd (upd (upd (upd (upd (upd (upd (upd (upd (upd (upd (upd (upd (upd (upd (upd (upd (upd (upd (upd (upd (upd (upd (upd (upd (upd (upd (upd (upd (upd (upd (upd (upd (upd (upd (upd (upd (upd (upd (upd (upd (upd (upd (upd (upd (upd (upd (upd (upd (upd (upd (upd (upd (upd (upd (sx 256) (3 : Int32).toNatClampNeg 1) (4 : Int32).toNatClampNeg 0) (17 : Int32).toNatClampNeg 0) (5 : Int32).toNatClampNeg 1) (6 : Int32).toNatClampNeg 0) (7 : Int32).toNatClampNeg 0) (8 : Int32).toNatClampNeg 0) (9 : Int32).toNatClampNeg 0) (15 : Int32).toNatClampNeg 0) (10100 : Int32).toNatClampNeg ((-1))) (18100 : Int32).toNatClampNeg ((-1))) (15 : Int32).toNatClampNeg 1) (10101 : Int32).toNatClampNeg ((-1))) (18101 : Int32).toNatClampNeg ((-1))) (15 : Int32).toNatClampNeg 2) (10102 : Int32).toNatClampNeg ((-1))) (18102 : Int32).toNatClampNeg ((-1))) (15 : Int32).toNatClampNeg 3) (10103 : Int32).toNatClampNeg ((-1))) (18103 : Int32).toNatClampNeg ((-1))) (15 : Int32).toNatClampNeg 4) (10104 : Int32).toNatClampNeg ((-1))) (18104 : Int32).toNatClampNeg ((-1))) (15 : Int32).toNatClampNeg 5) (10105 : Int32).toNatClampNeg ((-1))) (18105 : Int32).toNatClampNeg ((-1))) (15 : Int32).toNatClampNeg 6) (10106 : Int32).toNatClampNeg ((-1))) (18106 : Int32).toNatClampNeg ((-1))) (15 : Int32).toNatClampNeg 7) (10107 : Int32).toNatClampNeg ((-1))) (18107 : Int32).toNatClampNeg ((-1))) (15 : Int32).toNatClampNeg 8) (10108 : Int32).toNatClampNeg ((-1))) (18108 : Int32).toNatClampNeg ((-1))) (15 : Int32).toNatClampNeg 9) (10109 : Int32).toNatClampNeg ((-1))) (18109 : Int32).toNatClampNeg ((-1))) (15 : Int32).toNatClampNeg 10) (10110 : Int32).toNatClampNeg ((-1))) (18110 : Int32).toNatClampNeg ((-1))) (15 : Int32).toNatClampNeg 11) (10111 : Int32).toNatClampNeg ((-1))) (18111 : Int32).toNatClampNeg ((-1))) (15 : Int32).toNatClampNeg 12) (10112 : Int32).toNatClampNeg ((-1))) (18112 : Int32).toNatClampNeg ((-1))) (15 : Int32).toNatClampNeg 13) (10113 : Int32).toNatClampNeg ((-1))) (18113 : Int32).toNatClampNeg ((-1))) (15 : Int32).toNatClampNeg 14) (10114 : Int32).toNatClampNeg ((-1))) (18114 : Int32).toNatClampNeg ((-1))) (15 : Int32).toNatClampNeg 15) (10115 : Int32).toNatClampNeg ((-1))) (18115 : Int32).toNatClampNeg ((-1))) (15 : Int32).toNatClampNeg 16) (10116 : Int32).toNatClampNeg ((-1))) (18116 : Int32).toNatClampNeg ((-1))) (15 : Int32).toNatClampNeg 17) (10117 : Int32).toNatClampNeg ((-1))) (18117 : Int32).toNatClampNeg ((-1))) (15 : Int32).toNatClampNeg 18) (10118 : Int32).toNatClampNeg ((-1))) (18118 : Int32).toNatClampNeg ((-1))) (15 : Int32).toNatClampNeg 19) (10119 : Int32).toNatClampNeg ((-1))) (18119 : Int32).toNatClampNeg ((-1))) (15 : Int32).toNatClampNeg 20) (10120 : Int32).toNatClampNeg ((-1))) (18120 : Int32).toNatClampNeg ((-1))) (15 : Int32).toNatClampNeg 21) (10121 : Int32).toNatClampNeg ((-1))) (18121 : Int32).toNatClampNeg ((-1))) (15 : Int32).toNatClampNeg 22)))
  refine go_aload_n (pc := 0) dX10_write_0 rfl rfl ?_
  refine go_get (pc := 1) fX10_9 rfl (gz_b (by omega)) ((va_up_ne _ _ (gz_ne (by decide))).trans ((hw 32 (by decide) (by decide)).trans (wl_at (i := 32) rfl))) rfl dX10_write_1 ?_
  refine go_sipush (pc := 4) (v := 10100) dX10_write_4 (by decide) ?_
  refine go_aload_n (pc := 7) dX10_write_7 rfl rfl ?_
  refine go_get (pc := 8) fX10_9 rfl (gz_b (by omega)) ((va_up_ne _ _ (gz_ne (by decide))).trans ((hw 32 (by decide) (by decide)).trans (wl_at (i := 32) rfl))) rfl dX10_write_8 ?_
  refine go_bipush (pc := 11) (v := 15) dX10_write_11 (by decide) ?_
  refine go_iald (pc := 13) (gz_b (by omega)) (va_up_self _ _ _) (gv_in (by decide)) dX10_write_13 ?_
  refine go_top (y := 22) rfl ?_
  refine go_iadd (pc := 14) dX10_write_14 ?_
  refine go_top (y := 10122) (by decide) ?_
  refine go_iload_n (pc := 15) dX10_write_15 rfl rfl ?_
  refine go_iast (pc := 16) (gz_b (by omega)) (va_up_self _ _ _) (gv_in (by decide)) dX10_write_16 ?_
  refine go_w (va_up_up _ _ _ _) ?_
  refine go_aload_n (pc := 17) dX10_write_17 rfl rfl ?_
  refine go_get (pc := 18) fX10_9 rfl (gz_b (by omega)) ((va_up_ne _ _ (gz_ne (by decide))).trans ((hw 32 (by decide) (by decide)).trans (wl_at (i := 32) rfl))) rfl dX10_write_18 ?_
  refine go_sipush (pc := 21) (v := 18100) dX10_write_21 (by decide) ?_
  refine go_aload_n (pc := 24) dX10_write_24 rfl rfl ?_
  refine go_get (pc := 25) fX10_9 rfl (gz_b (by omega)) ((va_up_ne _ _ (gz_ne (by decide))).trans ((hw 32 (by decide) (by decide)).trans (wl_at (i := 32) rfl))) rfl dX10_write_25 ?_
  refine go_bipush (pc := 28) (v := 15) dX10_write_28 (by decide) ?_
  refine go_iald (pc := 30) (gz_b (by omega)) (va_up_self _ _ _) (gv_in (by decide)) dX10_write_30 ?_
  refine go_top (y := 22) rfl ?_
  refine go_iadd (pc := 31) dX10_write_31 ?_
  refine go_top (y := 18122) (by decide) ?_
  refine go_iload_n (pc := 32) dX10_write_32 rfl rfl ?_
  refine go_iast (pc := 33) (gz_b (by omega)) (va_up_self _ _ _) (gv_in (by decide)) dX10_write_33 ?_
  refine go_w (va_up_up _ _ _ _) ?_
  refine go_aload_n (pc := 34) dX10_write_34 rfl rfl ?_
  refine go_get (pc := 35) fX10_9 rfl (gz_b (by omega)) ((va_up_ne _ _ (gz_ne (by decide))).trans ((hw 32 (by decide) (by decide)).trans (wl_at (i := 32) rfl))) rfl dX10_write_35 ?_
  refine go_bipush (pc := 38) (v := 15) dX10_write_38 (by decide) ?_
  refine go_dup2 (pc := 40) dX10_write_40 rfl rfl ?_
  refine go_iald (pc := 41) (gz_b (by omega)) (va_up_self _ _ _) (gv_in (by decide)) dX10_write_41 ?_
  refine go_top (y := 22) rfl ?_
  refine go_iconst (pc := 42) (v := 1) dX10_write_42 (by decide) ?_
  refine go_iadd (pc := 43) dX10_write_43 ?_
  refine go_top (y := 23) (by decide) ?_
  refine go_iast (pc := 44) (gz_b (by omega)) (va_up_self _ _ _) (gv_in (by decide)) dX10_write_44 ?_
  refine go_w (va_up_up _ _ _ _) ?_
  exact go_vret (pc := 45) rfl dX10_write_45
set_option maxRecDepth 100000 in
set_option maxHeartbeats 4000000 in
theorem cX10_write_51 {l : Launch} {G : gG} {n k : Nat} {w : Nat → va_E} (hn : 42 ≤ n) (hw : ∀ i, 32 ≤ i → i < 42 → w (G.2.1 + i) = wl G.2.1 (LF G) (G.2.1 + i)) : Ct l G mX10_write 0 0 [.ref (G.2.1 + 32), .int ((-1))] n k (va_up w (G.2.1 + 33) (ai G 26100 (upd (upd (upd (upd (upd (upd (upd (upd (upd (upd (upd (upd (upd (upd (upd (upd (upd (upd (upd (upd (upd (upd (upd (upd (upd (upd (upd (upd (upd (upd (upd (upd (upd (upd (upd (upd (upd (upd (upd (upd (upd (upd (upd (upd (upd (upd (upd (upd (upd (upd (upd (upd (upd (upd (upd (upd (upd (upd (upd (upd (upd (upd (upd (upd (upd (upd (upd (upd (upd (upd (upd (upd (upd (upd (upd (upd (upd (upd (sx 256) (3 : Int32).toNatClampNeg 1) (4 : Int32).toNatClampNeg 0) (17 : Int32).toNatClampNeg 0) (5 : Int32).toNatClampNeg 1) (6 : Int32).toNatClampNeg 0) (7 : Int32).toNatClampNeg 0) (8 : Int32).toNatClampNeg 0) (9 : Int32).toNatClampNeg 0) (15 : Int32).toNatClampNeg 0) (10100 : Int32).toNatClampNeg ((-1))) (18100 : Int32).toNatClampNeg ((-1))) (15 : Int32).toNatClampNeg 1) (10101 : Int32).toNatClampNeg ((-1))) (18101 : Int32).toNatClampNeg ((-1))) (15 : Int32).toNatClampNeg 2) (10102 : Int32).toNatClampNeg ((-1))) (18102 : Int32).toNatClampNeg ((-1))) (15 : Int32).toNatClampNeg 3) (10103 : Int32).toNatClampNeg ((-1))) (18103 : Int32).toNatClampNeg ((-1))) (15 : Int32).toNatClampNeg 4) (10104 : Int32).toNatClampNeg ((-1))) (18104 : Int32).toNatClampNeg ((-1))) (15 : Int32).toNatClampNeg 5) (10105 : Int32).toNatClampNeg ((-1))) (18105 : Int32).toNatClampNeg ((-1))) (15 : Int32).toNatClampNeg 6) (10106 : Int32).toNatClampNeg ((-1))) (18106 : Int32).toNatClampNeg ((-1))) (15 : Int32).toNatClampNeg 7) (10107 : Int32).toNatClampNeg ((-1))) (18107 : Int32).toNatClampNeg ((-1))) (15 : Int32).toNatClampNeg 8) (10108 : Int32).toNatClampNeg ((-1))) (18108 : Int32).toNatClampNeg ((-1))) (15 : Int32).toNatClampNeg 9) (10109 : Int32).toNatClampNeg ((-1))) (18109 : Int32).toNatClampNeg ((-1))) (15 : Int32).toNatClampNeg 10) (10110 : Int32).toNatClampNeg ((-1))) (18110 : Int32).toNatClampNeg ((-1))) (15 : Int32).toNatClampNeg 11) (10111 : Int32).toNatClampNeg ((-1))) (18111 : Int32).toNatClampNeg ((-1))) (15 : Int32).toNatClampNeg 12) (10112 : Int32).toNatClampNeg ((-1))) (18112 : Int32).toNatClampNeg ((-1))) (15 : Int32).toNatClampNeg 13) (10113 : Int32).toNatClampNeg ((-1))) (18113 : Int32).toNatClampNeg ((-1))) (15 : Int32).toNatClampNeg 14) (10114 : Int32).toNatClampNeg ((-1))) (18114 : Int32).toNatClampNeg ((-1))) (15 : Int32).toNatClampNeg 15) (10115 : Int32).toNatClampNeg ((-1))) (18115 : Int32).toNatClampNeg ((-1))) (15 : Int32).toNatClampNeg 16) (10116 : Int32).toNatClampNeg ((-1))) (18116 : Int32).toNatClampNeg ((-1))) (15 : Int32).toNatClampNeg 17) (10117 : Int32).toNatClampNeg ((-1))) (18117 : Int32).toNatClampNeg ((-1))) (15 : Int32).toNatClampNeg 18) (10118 : Int32).toNatClampNeg ((-1))) (18118 : Int32).toNatClampNeg ((-1))) (15 : Int32).toNatClampNeg 19) (10119 : Int32).toNatClampNeg ((-1))) (18119 : Int32).toNatClampNeg ((-1))) (15 : Int32).toNatClampNeg 20) (10120 : Int32).toNatClampNeg ((-1))) (18120 : Int32).toNatClampNeg ((-1))) (15 : Int32).toNatClampNeg 21) (10121 : Int32).toNatClampNeg ((-1))) (18121 : Int32).toNatClampNeg ((-1))) (15 : Int32).toNatClampNeg 22) (10122 : Int32).toNatClampNeg ((-1))) (18122 : Int32).toNatClampNeg ((-1))) (15 : Int32).toNatClampNeg 23))) (none, n, k, (va_up w (G.2.1 + 33) (ai G 26100 (upd (upd (upd (upd (upd (upd (upd (upd (upd (upd (upd (upd (upd (upd (upd (upd (upd (upd (upd (upd (upd (upd (upd (upd (upd (upd (upd (upd (upd (upd (upd (upd (upd (upd (upd (upd (upd (upd (upd (upd (upd (upd (upd (upd (upd (upd (upd (upd (upd (upd (upd (upd (upd (upd (upd (upd (upd (upd (upd (upd (upd (upd (upd (upd (upd (upd (upd (upd (upd (upd (upd (upd (upd (upd (upd (upd (upd (upd (upd (upd (upd (sx 256) (3 : Int32).toNatClampNeg 1) (4 : Int32).toNatClampNeg 0) (17 : Int32).toNatClampNeg 0) (5 : Int32).toNatClampNeg 1) (6 : Int32).toNatClampNeg 0) (7 : Int32).toNatClampNeg 0) (8 : Int32).toNatClampNeg 0) (9 : Int32).toNatClampNeg 0) (15 : Int32).toNatClampNeg 0) (10100 : Int32).toNatClampNeg ((-1))) (18100 : Int32).toNatClampNeg ((-1))) (15 : Int32).toNatClampNeg 1) (10101 : Int32).toNatClampNeg ((-1))) (18101 : Int32).toNatClampNeg ((-1))) (15 : Int32).toNatClampNeg 2) (10102 : Int32).toNatClampNeg ((-1))) (18102 : Int32).toNatClampNeg ((-1))) (15 : Int32).toNatClampNeg 3) (10103 : Int32).toNatClampNeg ((-1))) (18103 : Int32).toNatClampNeg ((-1))) (15 : Int32).toNatClampNeg 4) (10104 : Int32).toNatClampNeg ((-1))) (18104 : Int32).toNatClampNeg ((-1))) (15 : Int32).toNatClampNeg 5) (10105 : Int32).toNatClampNeg ((-1))) (18105 : Int32).toNatClampNeg ((-1))) (15 : Int32).toNatClampNeg 6) (10106 : Int32).toNatClampNeg ((-1))) (18106 : Int32).toNatClampNeg ((-1))) (15 : Int32).toNatClampNeg 7) (10107 : Int32).toNatClampNeg ((-1))) (18107 : Int32).toNatClampNeg ((-1))) (15 : Int32).toNatClampNeg 8) (10108 : Int32).toNatClampNeg ((-1))) (18108 : Int32).toNatClampNeg ((-1))) (15 : Int32).toNatClampNeg 9) (10109 : Int32).toNatClampNeg ((-1))) (18109 : Int32).toNatClampNeg ((-1))) (15 : Int32).toNatClampNeg 10) (10110 : Int32).toNatClampNeg ((-1))) (18110 : Int32).toNatClampNeg ((-1))) (15 : Int32).toNatClampNeg 11) (10111 : Int32).toNatClampNeg ((-1))) (18111 : Int32).toNatClampNeg ((-1))) (15 : Int32).toNatClampNeg 12) (10112 : Int32).toNatClampNeg ((-1))) (18112 : Int32).toNatClampNeg ((-1))) (15 : Int32).toNatClampNeg 13) (10113 : Int32).toNatClampNeg ((-1))) (18113 : Int32).toNatClampNeg ((-1))) (15 : Int32).toNatClampNeg 14) (10114 : Int32).toNatClampNeg ((-1))) (18114 : Int32).toNatClampNeg ((-1))) (15 : Int32).toNatClampNeg 15) (10115 : Int32).toNatClampNeg ((-1))) (18115 : Int32).toNatClampNeg ((-1))) (15 : Int32).toNatClampNeg 16) (10116 : Int32).toNatClampNeg ((-1))) (18116 : Int32).toNatClampNeg ((-1))) (15 : Int32).toNatClampNeg 17) (10117 : Int32).toNatClampNeg ((-1))) (18117 : Int32).toNatClampNeg ((-1))) (15 : Int32).toNatClampNeg 18) (10118 : Int32).toNatClampNeg ((-1))) (18118 : Int32).toNatClampNeg ((-1))) (15 : Int32).toNatClampNeg 19) (10119 : Int32).toNatClampNeg ((-1))) (18119 : Int32).toNatClampNeg ((-1))) (15 : Int32).toNatClampNeg 20) (10120 : Int32).toNatClampNeg ((-1))) (18120 : Int32).toNatClampNeg ((-1))) (15 : Int32).toNatClampNeg 21) (10121 : Int32).toNatClampNeg ((-1))) (18121 : Int32).toNatClampNeg ((-1))) (15 : Int32).toNatClampNeg 22) (10122 : Int32).toNatClampNeg ((-1))) (18122 : Int32).toNatClampNeg ((-1))) (15 : Int32).toNatClampNeg 23) (10123 : Int32).toNatClampNeg ((-1))) (18123 : Int32).toNatClampNeg ((-1))) (15 : Int32).toNatClampNeg 24)))) := by
  refine Ct.of (by decide) (Nat.le_of_ble_eq_true rfl) ⟨Nat.le_refl _, Nat.le_refl _⟩ ?_
  show Go l G mX10_write _ 0 [(0, .ref (G.2.1 + 32)), (1, .int ((-1)))] [] n k (va_up w (G.2.1 + 33) (ai G 26100 (upd (upd (upd (upd (upd (upd (upd (upd (upd (upd (upd (upd (upd (upd (upd (upd (upd (upd (upd (upd (upd (upd (upd (upd (upd (upd (upd (upd (upd (upd (upd (upd (upd (upd (upd (upd (upd (upd (upd (upd (upd (upd (upd (upd (upd (upd (upd (upd (upd (upd (upd (upd (upd (upd (upd (upd (upd (upd (upd (upd (upd (upd (upd (upd (upd (upd (upd (upd (upd (upd (upd (upd (upd (upd (upd (upd (upd (upd (sx 256) (3 : Int32).toNatClampNeg 1) (4 : Int32).toNatClampNeg 0) (17 : Int32).toNatClampNeg 0) (5 : Int32).toNatClampNeg 1) (6 : Int32).toNatClampNeg 0) (7 : Int32).toNatClampNeg 0) (8 : Int32).toNatClampNeg 0) (9 : Int32).toNatClampNeg 0) (15 : Int32).toNatClampNeg 0) (10100 : Int32).toNatClampNeg ((-1))) (18100 : Int32).toNatClampNeg ((-1))) (15 : Int32).toNatClampNeg 1) (10101 : Int32).toNatClampNeg ((-1))) (18101 : Int32).toNatClampNeg ((-1))) (15 : Int32).toNatClampNeg 2) (10102 : Int32).toNatClampNeg ((-1))) (18102 : Int32).toNatClampNeg ((-1))) (15 : Int32).toNatClampNeg 3) (10103 : Int32).toNatClampNeg ((-1))) (18103 : Int32).toNatClampNeg ((-1))) (15 : Int32).toNatClampNeg 4) (10104 : Int32).toNatClampNeg ((-1))) (18104 : Int32).toNatClampNeg ((-1))) (15 : Int32).toNatClampNeg 5) (10105 : Int32).toNatClampNeg ((-1))) (18105 : Int32).toNatClampNeg ((-1))) (15 : Int32).toNatClampNeg 6) (10106 : Int32).toNatClampNeg ((-1))) (18106 : Int32).toNatClampNeg ((-1))) (15 : Int32).toNatClampNeg 7) (10107 : Int32).toNatClampNeg ((-1))) (18107 : Int32).toNatClampNeg ((-1))) (15 : Int32).toNatClampNeg 8) (10108 : Int32).toNatClampNeg ((-1))) (18108 : Int32).toNatClampNeg ((-1))) (15 : Int32).toNatClampNeg 9) (10109 : Int32).toNatClampNeg ((-1))) (18109 : Int32).toNatClampNeg ((-1))) (15 : Int32).toNatClampNeg 10) (10110 : Int32).toNatClampNeg ((-1))) (18110 : Int32).toNatClampNeg ((-1))) (15 : Int32).toNatClampNeg 11) (10111 : Int32).toNatClampNeg ((-1))) (18111 : Int32).toNatClampNeg ((-1))) (15 : Int32).toNatClampNeg 12) (10112 : Int32).toNatClampNeg ((-1))) (18112 : Int32).toNatClampNeg ((-1))) (15 : Int32).toNatClampNeg 13) (10113 : Int32).toNatClampNeg ((-1))) (18113 : Int32).toNatClampNeg ((-1))) (15 : Int32).toNatClampNeg 14) (10114 : Int32).toNatClampNeg ((-1))) (18114 : Int32).toNatClampNeg ((-1))) (15 : Int32).toNatClampNeg 15) (10115 : Int32).toNatClampNeg ((-1))) (18115 : Int32).toNatClampNeg ((-1))) (15 : Int32).toNatClampNeg 16) (10116 : Int32).toNatClampNeg ((-1))) (18116 : Int32).toNatClampNeg ((-1))) (15 : Int32).toNatClampNeg 17) (10117 : Int32).toNatClampNeg ((-1))) (18117 : Int32).toNatClampNeg ((-1))) (15 : Int32).toNatClampNeg 18) (10118 : Int32).toNatClampNeg ((-1))) (18118 : Int32).toNatClampNeg ((-1))) (15 : Int32).toNatClampNeg 19) (10119 : Int32).toNatClampNeg ((-1))) (18119 : Int32).toNatClampNeg ((-1))) (15 : Int32).toNatClampNeg 20) (10120 : Int32).toNatClampNeg ((-1))) (18120 : Int32).toNatClampNeg ((-1))) (15 : Int32).toNatClampNeg 21) (10121 : Int32).toNatClampNeg ((-1))) (18121 : Int32).toNatClampNeg ((-1))) (15 : Int32).toNatClampNeg 22) (10122 : Int32).toNatClampNeg ((-1))) (18122 : Int32).toNatClampNeg ((-1))) (15 : Int32).toNatClampNeg 23)))
  refine go_aload_n (pc := 0) dX10_write_0 rfl rfl ?_
  refine go_get (pc := 1) fX10_9 rfl (gz_b (by omega)) ((va_up_ne _ _ (gz_ne (by decide))).trans ((hw 32 (by decide) (by decide)).trans (wl_at (i := 32) rfl))) rfl dX10_write_1 ?_
  refine go_sipush (pc := 4) (v := 10100) dX10_write_4 (by decide) ?_
  refine go_aload_n (pc := 7) dX10_write_7 rfl rfl ?_
  refine go_get (pc := 8) fX10_9 rfl (gz_b (by omega)) ((va_up_ne _ _ (gz_ne (by decide))).trans ((hw 32 (by decide) (by decide)).trans (wl_at (i := 32) rfl))) rfl dX10_write_8 ?_
  refine go_bipush (pc := 11) (v := 15) dX10_write_11 (by decide) ?_
  refine go_iald (pc := 13) (gz_b (by omega)) (va_up_self _ _ _) (gv_in (by decide)) dX10_write_13 ?_
  refine go_top (y := 23) rfl ?_
  refine go_iadd (pc := 14) dX10_write_14 ?_
  refine go_top (y := 10123) (by decide) ?_
  refine go_iload_n (pc := 15) dX10_write_15 rfl rfl ?_
  refine go_iast (pc := 16) (gz_b (by omega)) (va_up_self _ _ _) (gv_in (by decide)) dX10_write_16 ?_
  refine go_w (va_up_up _ _ _ _) ?_
  refine go_aload_n (pc := 17) dX10_write_17 rfl rfl ?_
  refine go_get (pc := 18) fX10_9 rfl (gz_b (by omega)) ((va_up_ne _ _ (gz_ne (by decide))).trans ((hw 32 (by decide) (by decide)).trans (wl_at (i := 32) rfl))) rfl dX10_write_18 ?_
  refine go_sipush (pc := 21) (v := 18100) dX10_write_21 (by decide) ?_
  refine go_aload_n (pc := 24) dX10_write_24 rfl rfl ?_
  refine go_get (pc := 25) fX10_9 rfl (gz_b (by omega)) ((va_up_ne _ _ (gz_ne (by decide))).trans ((hw 32 (by decide) (by decide)).trans (wl_at (i := 32) rfl))) rfl dX10_write_25 ?_
  refine go_bipush (pc := 28) (v := 15) dX10_write_28 (by decide) ?_
  refine go_iald (pc := 30) (gz_b (by omega)) (va_up_self _ _ _) (gv_in (by decide)) dX10_write_30 ?_
  refine go_top (y := 23) rfl ?_
  refine go_iadd (pc := 31) dX10_write_31 ?_
  refine go_top (y := 18123) (by decide) ?_
  refine go_iload_n (pc := 32) dX10_write_32 rfl rfl ?_
  refine go_iast (pc := 33) (gz_b (by omega)) (va_up_self _ _ _) (gv_in (by decide)) dX10_write_33 ?_
  refine go_w (va_up_up _ _ _ _) ?_
  refine go_aload_n (pc := 34) dX10_write_34 rfl rfl ?_
  refine go_get (pc := 35) fX10_9 rfl (gz_b (by omega)) ((va_up_ne _ _ (gz_ne (by decide))).trans ((hw 32 (by decide) (by decide)).trans (wl_at (i := 32) rfl))) rfl dX10_write_35 ?_
  refine go_bipush (pc := 38) (v := 15) dX10_write_38 (by decide) ?_
  refine go_dup2 (pc := 40) dX10_write_40 rfl rfl ?_
  refine go_iald (pc := 41) (gz_b (by omega)) (va_up_self _ _ _) (gv_in (by decide)) dX10_write_41 ?_
  refine go_top (y := 23) rfl ?_
  refine go_iconst (pc := 42) (v := 1) dX10_write_42 (by decide) ?_
  refine go_iadd (pc := 43) dX10_write_43 ?_
  refine go_top (y := 24) (by decide) ?_
  refine go_iast (pc := 44) (gz_b (by omega)) (va_up_self _ _ _) (gv_in (by decide)) dX10_write_44 ?_
  refine go_w (va_up_up _ _ _ _) ?_
  exact go_vret (pc := 45) rfl dX10_write_45
set_option maxRecDepth 100000 in
set_option maxHeartbeats 4000000 in
theorem cX10_write_52 {l : Launch} {G : gG} {n k : Nat} {w : Nat → va_E} (hn : 42 ≤ n) (hw : ∀ i, 32 ≤ i → i < 42 → w (G.2.1 + i) = wl G.2.1 (LF G) (G.2.1 + i)) : Ct l G mX10_write 0 0 [.ref (G.2.1 + 32), .int 0] n k (va_up w (G.2.1 + 33) (ai G 26100 (upd (upd (upd (upd (upd (upd (upd (upd (upd (upd (upd (upd (upd (upd (upd (upd (upd (upd (upd (upd (upd (upd (upd (upd (upd (upd (upd (upd (upd (upd (upd (upd (upd (upd (upd (upd (upd (upd (upd (upd (upd (upd (upd (upd (upd (upd (upd (upd (upd (upd (upd (upd (upd (upd (upd (upd (upd (upd (upd (upd (upd (upd (upd (upd (upd (upd (upd (upd (upd (upd (upd (upd (upd (upd (upd (upd (upd (upd (upd (upd (upd (sx 256) (3 : Int32).toNatClampNeg 1) (4 : Int32).toNatClampNeg 0) (17 : Int32).toNatClampNeg 0) (5 : Int32).toNatClampNeg 1) (6 : Int32).toNatClampNeg 0) (7 : Int32).toNatClampNeg 0) (8 : Int32).toNatClampNeg 0) (9 : Int32).toNatClampNeg 0) (15 : Int32).toNatClampNeg 0) (10100 : Int32).toNatClampNeg ((-1))) (18100 : Int32).toNatClampNeg ((-1))) (15 : Int32).toNatClampNeg 1) (10101 : Int32).toNatClampNeg ((-1))) (18101 : Int32).toNatClampNeg ((-1))) (15 : Int32).toNatClampNeg 2) (10102 : Int32).toNatClampNeg ((-1))) (18102 : Int32).toNatClampNeg ((-1))) (15 : Int32).toNatClampNeg 3) (10103 : Int32).toNatClampNeg ((-1))) (18103 : Int32).toNatClampNeg ((-1))) (15 : Int32).toNatClampNeg 4) (10104 : Int32).toNatClampNeg ((-1))) (18104 : Int32).toNatClampNeg ((-1))) (15 : Int32).toNatClampNeg 5) (10105 : Int32).toNatClampNeg ((-1))) (18105 : Int32).toNatClampNeg ((-1))) (15 : Int32).toNatClampNeg 6) (10106 : Int32).toNatClampNeg ((-1))) (18106 : Int32).toNatClampNeg ((-1))) (15 : Int32).toNatClampNeg 7) (10107 : Int32).toNatClampNeg ((-1))) (18107 : Int32).toNatClampNeg ((-1))) (15 : Int32).toNatClampNeg 8) (10108 : Int32).toNatClampNeg ((-1))) (18108 : Int32).toNatClampNeg ((-1))) (15 : Int32).toNatClampNeg 9) (10109 : Int32).toNatClampNeg ((-1))) (18109 : Int32).toNatClampNeg ((-1))) (15 : Int32).toNatClampNeg 10) (10110 : Int32).toNatClampNeg ((-1))) (18110 : Int32).toNatClampNeg ((-1))) (15 : Int32).toNatClampNeg 11) (10111 : Int32).toNatClampNeg ((-1))) (18111 : Int32).toNatClampNeg ((-1))) (15 : Int32).toNatClampNeg 12) (10112 : Int32).toNatClampNeg ((-1))) (18112 : Int32).toNatClampNeg ((-1))) (15 : Int32).toNatClampNeg 13) (10113 : Int32).toNatClampNeg ((-1))) (18113 : Int32).toNatClampNeg ((-1))) (15 : Int32).toNatClampNeg 14) (10114 : Int32).toNatClampNeg ((-1))) (18114 : Int32).toNatClampNeg ((-1))) (15 : Int32).toNatClampNeg 15) (10115 : Int32).toNatClampNeg ((-1))) (18115 : Int32).toNatClampNeg ((-1))) (15 : Int32).toNatClampNeg 16) (10116 : Int32).toNatClampNeg ((-1))) (18116 : Int32).toNatClampNeg ((-1))) (15 : Int32).toNatClampNeg 17) (10117 : Int32).toNatClampNeg ((-1))) (18117 : Int32).toNatClampNeg ((-1))) (15 : Int32).toNatClampNeg 18) (10118 : Int32).toNatClampNeg ((-1))) (18118 : Int32).toNatClampNeg ((-1))) (15 : Int32).toNatClampNeg 19) (10119 : Int32).toNatClampNeg ((-1))) (18119 : Int32).toNatClampNeg ((-1))) (15 : Int32).toNatClampNeg 20) (10120 : Int32).toNatClampNeg ((-1))) (18120 : Int32).toNatClampNeg ((-1))) (15 : Int32).toNatClampNeg 21) (10121 : Int32).toNatClampNeg ((-1))) (18121 : Int32).toNatClampNeg ((-1))) (15 : Int32).toNatClampNeg 22) (10122 : Int32).toNatClampNeg ((-1))) (18122 : Int32).toNatClampNeg ((-1))) (15 : Int32).toNatClampNeg 23) (10123 : Int32).toNatClampNeg ((-1))) (18123 : Int32).toNatClampNeg ((-1))) (15 : Int32).toNatClampNeg 24))) (none, n, k, (va_up w (G.2.1 + 33) (ai G 26100 (upd (upd (upd (upd (upd (upd (upd (upd (upd (upd (upd (upd (upd (upd (upd (upd (upd (upd (upd (upd (upd (upd (upd (upd (upd (upd (upd (upd (upd (upd (upd (upd (upd (upd (upd (upd (upd (upd (upd (upd (upd (upd (upd (upd (upd (upd (upd (upd (upd (upd (upd (upd (upd (upd (upd (upd (upd (upd (upd (upd (upd (upd (upd (upd (upd (upd (upd (upd (upd (upd (upd (upd (upd (upd (upd (upd (upd (upd (upd (upd (upd (upd (upd (upd (sx 256) (3 : Int32).toNatClampNeg 1) (4 : Int32).toNatClampNeg 0) (17 : Int32).toNatClampNeg 0) (5 : Int32).toNatClampNeg 1) (6 : Int32).toNatClampNeg 0) (7 : Int32).toNatClampNeg 0) (8 : Int32).toNatClampNeg 0) (9 : Int32).toNatClampNeg 0) (15 : Int32).toNatClampNeg 0) (10100 : Int32).toNatClampNeg ((-1))) (18100 : Int32).toNatClampNeg ((-1))) (15 : Int32).toNatClampNeg 1) (10101 : Int32).toNatClampNeg ((-1))) (18101 : Int32).toNatClampNeg ((-1))) (15 : Int32).toNatClampNeg 2) (10102 : Int32).toNatClampNeg ((-1))) (18102 : Int32).toNatClampNeg ((-1))) (15 : Int32).toNatClampNeg 3) (10103 : Int32).toNatClampNeg ((-1))) (18103 : Int32).toNatClampNeg ((-1))) (15 : Int32).toNatClampNeg 4) (10104 : Int32).toNatClampNeg ((-1))) (18104 : Int32).toNatClampNeg ((-1))) (15 : Int32).toNatClampNeg 5) (10105 : Int32).toNatClampNeg ((-1))) (18105 : Int32).toNatClampNeg ((-1))) (15 : Int32).toNatClampNeg 6) (10106 : Int32).toNatClampNeg ((-1))) (18106 : Int32).toNatClampNeg ((-1))) (15 : Int32).toNatClampNeg 7) (10107 : Int32).toNatClampNeg ((-1))) (18107 : Int32).toNatClampNeg ((-1))) (15 : Int32).toNatClampNeg 8) (10108 : Int32).toNatClampNeg ((-1))) (18108 : Int32).toNatClampNeg ((-1))) (15 : Int32).toNatClampNeg 9) (10109 : Int32).toNatClampNeg ((-1))) (18109 : Int32).toNatClampNeg ((-1))) (15 : Int32).toNatClampNeg 10) (10110 : Int32).toNatClampNeg ((-1))) (18110 : Int32).toNatClampNeg ((-1))) (15 : Int32).toNatClampNeg 11) (10111 : Int32).toNatClampNeg ((-1))) (18111 : Int32).toNatClampNeg ((-1))) (15 : Int32).toNatClampNeg 12) (10112 : Int32).toNatClampNeg ((-1))) (18112 : Int32).toNatClampNeg ((-1))) (15 : Int32).toNatClampNeg 13) (10113 : Int32).toNatClampNeg ((-1))) (18113 : Int32).toNatClampNeg ((-1))) (15 : Int32).toNatClampNeg 14) (10114 : Int32).toNatClampNeg ((-1))) (18114 : Int32).toNatClampNeg ((-1))) (15 : Int32).toNatClampNeg 15) (10115 : Int32).toNatClampNeg ((-1))) (18115 : Int32).toNatClampNeg ((-1))) (15 : Int32).toNatClampNeg 16) (10116 : Int32).toNatClampNeg ((-1))) (18116 : Int32).toNatClampNeg ((-1))) (15 : Int32).toNatClampNeg 17) (10117 : Int32).toNatClampNeg ((-1))) (18117 : Int32).toNatClampNeg ((-1))) (15 : Int32).toNatClampNeg 18) (10118 : Int32).toNatClampNeg ((-1))) (18118 : Int32).toNatClampNeg ((-1))) (15 : Int32).toNatClampNeg 19) (10119 : Int32).toNatClampNeg ((-1))) (18119 : Int32).toNatClampNeg ((-1))) (15 : Int32).toNatClampNeg 20) (10120 : Int32).toNatClampNeg ((-1))) (18120 : Int32).toNatClampNeg ((-1))) (15 : Int32).toNatClampNeg 21) (10121 : Int32).toNatClampNeg ((-1))) (18121 : Int32).toNatClampNeg ((-1))) (15 : Int32).toNatClampNeg 22) (10122 : Int32).toNatClampNeg ((-1))) (18122 : Int32).toNatClampNeg ((-1))) (15 : Int32).toNatClampNeg 23) (10123 : Int32).toNatClampNeg ((-1))) (18123 : Int32).toNatClampNeg ((-1))) (15 : Int32).toNatClampNeg 24) (10124 : Int32).toNatClampNeg 0) (18124 : Int32).toNatClampNeg 0) (15 : Int32).toNatClampNeg 25)))) := by
  refine Ct.of (by decide) (Nat.le_of_ble_eq_true rfl) ⟨Nat.le_refl _, Nat.le_refl _⟩ ?_
  show Go l G mX10_write _ 0 [(0, .ref (G.2.1 + 32)), (1, .int 0)] [] n k (va_up w (G.2.1 + 33) (ai G 26100 (upd (upd (upd (upd (upd (upd (upd (upd (upd (upd (upd (upd (upd (upd (upd (upd (upd (upd (upd (upd (upd (upd (upd (upd (upd (upd (upd (upd (upd (upd (upd (upd (upd (upd (upd (upd (upd (upd (upd (upd (upd (upd (upd (upd (upd (upd (upd (upd (upd (upd (upd (upd (upd (upd (upd (upd (upd (upd (upd (upd (upd (upd (upd (upd (upd (upd (upd (upd (upd (upd (upd (upd (upd (upd (upd (upd (upd (upd (upd (upd (upd (sx 256) (3 : Int32).toNatClampNeg 1) (4 : Int32).toNatClampNeg 0) (17 : Int32).toNatClampNeg 0) (5 : Int32).toNatClampNeg 1) (6 : Int32).toNatClampNeg 0) (7 : Int32).toNatClampNeg 0) (8 : Int32).toNatClampNeg 0) (9 : Int32).toNatClampNeg 0) (15 : Int32).toNatClampNeg 0) (10100 : Int32).toNatClampNeg ((-1))) (18100 : Int32).toNatClampNeg ((-1))) (15 : Int32).toNatClampNeg 1) (10101 : Int32).toNatClampNeg ((-1))) (18101 : Int32).toNatClampNeg ((-1))) (15 : Int32).toNatClampNeg 2) (10102 : Int32).toNatClampNeg ((-1))) (18102 : Int32).toNatClampNeg ((-1))) (15 : Int32).toNatClampNeg 3) (10103 : Int32).toNatClampNeg ((-1))) (18103 : Int32).toNatClampNeg ((-1))) (15 : Int32).toNatClampNeg 4) (10104 : Int32).toNatClampNeg ((-1))) (18104 : Int32).toNatClampNeg ((-1))) (15 : Int32).toNatClampNeg 5) (10105 : Int32).toNatClampNeg ((-1))) (18105 : Int32).toNatClampNeg ((-1))) (15 : Int32).toNatClampNeg 6) (10106 : Int32).toNatClampNeg ((-1))) (18106 : Int32).toNatClampNeg ((-1))) (15 : Int32).toNatClampNeg 7) (10107 : Int32).toNatClampNeg ((-1))) (18107 : Int32).toNatClampNeg ((-1))) (15 : Int32).toNatClampNeg 8) (10108 : Int32).toNatClampNeg ((-1))) (18108 : Int32).toNatClampNeg ((-1))) (15 : Int32).toNatClampNeg 9) (10109 : Int32).toNatClampNeg ((-1))) (18109 : Int32).toNatClampNeg ((-1))) (15 : Int32).toNatClampNeg 10) (10110 : Int32).toNatClampNeg ((-1))) (18110 : Int32).toNatClampNeg ((-1))) (15 : Int32).toNatClampNeg 11) (10111 : Int32).toNatClampNeg ((-1))) (18111 : Int32).toNatClampNeg ((-1))) (15 : Int32).toNatClampNeg 12) (10112 : Int32).toNatClampNeg ((-1))) (18112 : Int32).toNatClampNeg ((-1))) (15 : Int32).toNatClampNeg 13) (10113 : Int32).toNatClampNeg ((-1))) (18113 : Int32).toNatClampNeg ((-1))) (15 : Int32).toNatClampNeg 14) (10114 : Int32).toNatClampNeg ((-1))) (18114 : Int32).toNatClampNeg ((-1))) (15 : Int32).toNatClampNeg 15) (10115 : Int32).toNatClampNeg ((-1))) (18115 : Int32).toNatClampNeg ((-1))) (15 : Int32).toNatClampNeg 16) (10116 : Int32).toNatClampNeg ((-1))) (18116 : Int32).toNatClampNeg ((-1))) (15 : Int32).toNatClampNeg 17) (10117 : Int32).toNatClampNeg ((-1))) (18117 : Int32).toNatClampNeg ((-1))) (15 : Int32).toNatClampNeg 18) (10118 : Int32).toNatClampNeg ((-1))) (18118 : Int32).toNatClampNeg ((-1))) (15 : Int32).toNatClampNeg 19) (10119 : Int32).toNatClampNeg ((-1))) (18119 : Int32).toNatClampNeg ((-1))) (15 : Int32).toNatClampNeg 20) (10120 : Int32).toNatClampNeg ((-1))) (18120 : Int32).toNatClampNeg ((-1))) (15 : Int32).toNatClampNeg 21) (10121 : Int32).toNatClampNeg ((-1))) (18121 : Int32).toNatClampNeg ((-1))) (15 : Int32).toNatClampNeg 22) (10122 : Int32).toNatClampNeg ((-1))) (18122 : Int32).toNatClampNeg ((-1))) (15 : Int32).toNatClampNeg 23) (10123 : Int32).toNatClampNeg ((-1))) (18123 : Int32).toNatClampNeg ((-1))) (15 : Int32).toNatClampNeg 24)))
  refine go_aload_n (pc := 0) dX10_write_0 rfl rfl ?_
  refine go_get (pc := 1) fX10_9 rfl (gz_b (by omega)) ((va_up_ne _ _ (gz_ne (by decide))).trans ((hw 32 (by decide) (by decide)).trans (wl_at (i := 32) rfl))) rfl dX10_write_1 ?_
  refine go_sipush (pc := 4) (v := 10100) dX10_write_4 (by decide) ?_
  refine go_aload_n (pc := 7) dX10_write_7 rfl rfl ?_
  refine go_get (pc := 8) fX10_9 rfl (gz_b (by omega)) ((va_up_ne _ _ (gz_ne (by decide))).trans ((hw 32 (by decide) (by decide)).trans (wl_at (i := 32) rfl))) rfl dX10_write_8 ?_
  refine go_bipush (pc := 11) (v := 15) dX10_write_11 (by decide) ?_
  refine go_iald (pc := 13) (gz_b (by omega)) (va_up_self _ _ _) (gv_in (by decide)) dX10_write_13 ?_
  refine go_top (y := 24) rfl ?_
  refine go_iadd (pc := 14) dX10_write_14 ?_
  refine go_top (y := 10124) (by decide) ?_
  refine go_iload_n (pc := 15) dX10_write_15 rfl rfl ?_
  refine go_iast (pc := 16) (gz_b (by omega)) (va_up_self _ _ _) (gv_in (by decide)) dX10_write_16 ?_
  refine go_w (va_up_up _ _ _ _) ?_
  refine go_aload_n (pc := 17) dX10_write_17 rfl rfl ?_
  refine go_get (pc := 18) fX10_9 rfl (gz_b (by omega)) ((va_up_ne _ _ (gz_ne (by decide))).trans ((hw 32 (by decide) (by decide)).trans (wl_at (i := 32) rfl))) rfl dX10_write_18 ?_
  refine go_sipush (pc := 21) (v := 18100) dX10_write_21 (by decide) ?_
  refine go_aload_n (pc := 24) dX10_write_24 rfl rfl ?_
  refine go_get (pc := 25) fX10_9 rfl (gz_b (by omega)) ((va_up_ne _ _ (gz_ne (by decide))).trans ((hw 32 (by decide) (by decide)).trans (wl_at (i := 32) rfl))) rfl dX10_write_25 ?_
  refine go_bipush (pc := 28) (v := 15) dX10_write_28 (by decide) ?_
  refine go_iald (pc := 30) (gz_b (by omega)) (va_up_self _ _ _) (gv_in (by decide)) dX10_write_30 ?_
  refine go_top (y := 24) rfl ?_
  refine go_iadd (pc := 31) dX10_write_31 ?_
  refine go_top (y := 18124) (by decide) ?_
  refine go_iload_n (pc := 32) dX10_write_32 rfl rfl ?_
  refine go_iast (pc := 33) (gz_b (by omega)) (va_up_self _ _ _) (gv_in (by decide)) dX10_write_33 ?_
  refine go_w (va_up_up _ _ _ _) ?_
  refine go_aload_n (pc := 34) dX10_write_34 rfl rfl ?_
  refine go_get (pc := 35) fX10_9 rfl (gz_b (by omega)) ((va_up_ne _ _ (gz_ne (by decide))).trans ((hw 32 (by decide) (by decide)).trans (wl_at (i := 32) rfl))) rfl dX10_write_35 ?_
  refine go_bipush (pc := 38) (v := 15) dX10_write_38 (by decide) ?_
  refine go_dup2 (pc := 40) dX10_write_40 rfl rfl ?_
  refine go_iald (pc := 41) (gz_b (by omega)) (va_up_self _ _ _) (gv_in (by decide)) dX10_write_41 ?_
  refine go_top (y := 24) rfl ?_
  refine go_iconst (pc := 42) (v := 1) dX10_write_42 (by decide) ?_
  refine go_iadd (pc := 43) dX10_write_43 ?_
  refine go_top (y := 25) (by decide) ?_
  refine go_iast (pc := 44) (gz_b (by omega)) (va_up_self _ _ _) (gv_in (by decide)) dX10_write_44 ?_
  refine go_w (va_up_up _ _ _ _) ?_
  exact go_vret (pc := 45) rfl dX10_write_45
set_option maxRecDepth 100000 in
set_option maxHeartbeats 4000000 in
theorem cX10_write_53 {l : Launch} {G : gG} {n k : Nat} {w : Nat → va_E} (hn : 42 ≤ n) (hw : ∀ i, 32 ≤ i → i < 42 → w (G.2.1 + i) = wl G.2.1 (LF G) (G.2.1 + i)) : Ct l G mX10_write 0 0 [.ref (G.2.1 + 32), .int 0] n k (va_up w (G.2.1 + 33) (ai G 26100 (upd (upd (upd (upd (upd (upd (upd (upd (upd (upd (upd (upd (upd (upd (upd (upd (upd (upd (upd (upd (upd (upd (upd (upd (upd (upd (upd (upd (upd (upd (upd (upd (upd (upd (upd (upd (upd (upd (upd (upd (upd (upd (upd (upd (upd (upd (upd (upd (upd (upd (upd (upd (upd (upd (upd (upd (upd (upd (upd (upd (upd (upd (upd (upd (upd (upd (upd (upd (upd (upd (upd (upd (upd (upd (upd (upd (upd (upd (upd (upd (upd (upd (upd (upd (upd (sx 256) (3 : Int32).toNatClampNeg 1) (4 : Int32).toNatClampNeg 0) (17 : Int32).toNatClampNeg 0) (5 : Int32).toNatClampNeg 1) (6 : Int32).toNatClampNeg 0) (7 : Int32).toNatClampNeg 0) (8 : Int32).toNatClampNeg 0) (9 : Int32).toNatClampNeg 0) (15 : Int32).toNatClampNeg 0) (10100 : Int32).toNatClampNeg ((-1))) (18100 : Int32).toNatClampNeg ((-1))) (15 : Int32).toNatClampNeg 1) (10101 : Int32).toNatClampNeg ((-1))) (18101 : Int32).toNatClampNeg ((-1))) (15 : Int32).toNatClampNeg 2) (10102 : Int32).toNatClampNeg ((-1))) (18102 : Int32).toNatClampNeg ((-1))) (15 : Int32).toNatClampNeg 3) (10103 : Int32).toNatClampNeg ((-1))) (18103 : Int32).toNatClampNeg ((-1))) (15 : Int32).toNatClampNeg 4) (10104 : Int32).toNatClampNeg ((-1))) (18104 : Int32).toNatClampNeg ((-1))) (15 : Int32).toNatClampNeg 5) (10105 : Int32).toNatClampNeg ((-1))) (18105 : Int32).toNatClampNeg ((-1))) (15 : Int32).toNatClampNeg 6) (10106 : Int32).toNatClampNeg ((-1))) (18106 : Int32).toNatClampNeg ((-1))) (15 : Int32).toNatClampNeg 7) (10107 : Int32).toNatClampNeg ((-1))) (18107 : Int32).toNatClampNeg ((-1))) (15 : Int32).toNatClampNeg 8) (10108 : Int32).toNatClampNeg ((-1))) (18108 : Int32).toNatClampNeg ((-1))) (15 : Int32).toNatClampNeg 9) (10109 : Int32).toNatClampNeg ((-1))) (18109 : Int32).toNatClampNeg ((-1))) (15 : Int32).toNatClampNeg 10) (10110 : Int32).toNatClampNeg ((-1))) (18110 : Int32).toNatClampNeg ((-1))) (15 : Int32).toNatClampNeg 11) (10111 : Int32).toNatClampNeg ((-1))) (18111 : Int32).toNatClampNeg ((-1))) (15 : Int32).toNatClampNeg 12) (10112 : Int32).toNatClampNeg ((-1))) (18112 : Int32).toNatClampNeg ((-1))) (15 : Int32).toNatClampNeg 13) (10113 : Int32).toNatClampNeg ((-1))) (18113 : Int32).toNatClampNeg ((-1))) (15 : Int32).toNatClampNeg 14) (10114 : Int32).toNatClampNeg ((-1))) (18114 : Int32).toNatClampNeg ((-1))) (15 : Int32).toNatClampNeg 15) (10115 : Int32).toNatClampNeg ((-1))) (18115 : Int32).toNatClampNeg ((-1))) (15 : Int32).toNatClampNeg 16) (10116 : Int32).toNatClampNeg ((-1))) (18116 : Int32).toNatClampNeg ((-1))) (15 : Int32).toNatClampNeg 17) (10117 : Int32).toNatClampNeg ((-1))) (18117 : Int32).toNatClampNeg ((-1))) (15 : Int32).toNatClampNeg 18) (10118 : Int32).toNatClampNeg ((-1))) (18118 : Int32).toNatClampNeg ((-1))) (15 : Int32).toNatClampNeg 19) (10119 : Int32).toNatClampNeg ((-1))) (18119 : Int32).toNatClampNeg ((-1))) (15 : Int32).toNatClampNeg 20) (10120 : Int32).toNatClampNeg ((-1))) (18120 : Int32).toNatClampNeg ((-1))) (15 : Int32).toNatClampNeg 21) (10121 : Int32).toNatClampNeg ((-1))) (18121 : Int32).toNatClampNeg ((-1))) (15 : Int32).toNatClampNeg 22) (10122 : Int32).toNatClampNeg ((-1))) (18122 : Int32).toNatClampNeg ((-1))) (15 : Int32).toNatClampNeg 23) (10123 : Int32).toNatClampNeg ((-1))) (18123 : Int32).toNatClampNeg ((-1))) (15 : Int32).toNatClampNeg 24) (10124 : Int32).toNatClampNeg 0) (18124 : Int32).toNatClampNeg 0) (15 : Int32).toNatClampNeg 25) (16 : Int32).toNatClampNeg 0))) (none, n, k, (va_up w (G.2.1 + 33) (ai G 26100 (upd (upd (upd (upd (upd (upd (upd (upd (upd (upd (upd (upd (upd (upd (upd (upd (upd (upd (upd (upd (upd (upd (upd (upd (upd (upd (upd (upd (upd (upd (upd (upd (upd (upd (upd (upd (upd (upd (upd (upd (upd (upd (upd (upd (upd (upd (upd (upd (upd (upd (upd (upd (upd (upd (upd (upd (upd (upd (upd (upd (upd (upd (upd (upd (upd (upd (upd (upd (upd (upd (upd (upd (upd (upd (upd (upd (upd (upd (upd (upd (upd (upd (upd (upd (upd (upd (upd (upd (sx 256) (3 : Int32).toNatClampNeg 1) (4 : Int32).toNatClampNeg 0) (17 : Int32).toNatClampNeg 0) (5 : Int32).toNatClampNeg 1) (6 : Int32).toNatClampNeg 0) (7 : Int32).toNatClampNeg 0) (8 : Int32).toNatClampNeg 0) (9 : Int32).toNatClampNeg 0) (15 : Int32).toNatClampNeg 0) (10100 : Int32).toNatClampNeg ((-1))) (18100 : Int32).toNatClampNeg ((-1))) (15 : Int32).toNatClampNeg 1) (10101 : Int32).toNatClampNeg ((-1))) (18101 : Int32).toNatClampNeg ((-1))) (15 : Int32).toNatClampNeg 2) (10102 : Int32).toNatClampNeg ((-1))) (18102 : Int32).toNatClampNeg ((-1))) (15 : Int32).toNatClampNeg 3) (10103 : Int32).toNatClampNeg ((-1))) (18103 : Int32).toNatClampNeg ((-1))) (15 : Int32).toNatClampNeg 4) (10104 : Int32).toNatClampNeg ((-1))) (18104 : Int32).toNatClampNeg ((-1))) (15 : Int32).toNatClampNeg 5) (10105 : Int32).toNatClampNeg ((-1))) (18105 : Int32).toNatClampNeg ((-1))) (15 : Int32).toNatClampNeg 6) (10106 : Int32).toNatClampNeg ((-1))) (18106 : Int32).toNatClampNeg ((-1))) (15 : Int32).toNatClampNeg 7) (10107 : Int32).toNatClampNeg ((-1))) (18107 : Int32).toNatClampNeg ((-1))) (15 : Int32).toNatClampNeg 8) (10108 : Int32).toNatClampNeg ((-1))) (18108 : Int32).toNatClampNeg ((-1))) (15 : Int32).toNatClampNeg 9) (10109 : Int32).toNatClampNeg ((-1))) (18109 : Int32).toNatClampNeg ((-1))) (15 : Int32).toNatClampNeg 10) (10110 : Int32).toNatClampNeg ((-1))) (18110 : Int32).toNatClampNeg ((-1))) (15 : Int32).toNatClampNeg 11) (10111 : Int32).toNatClampNeg ((-1))) (18111 : Int32).toNatClampNeg ((-1))) (15 : Int32).toNatClampNeg 12) (10112 : Int32).toNatClampNeg ((-1))) (18112 : Int32).toNatClampNeg ((-1))) (15 : Int32).toNatClampNeg 13) (10113 : Int32).toNatClampNeg ((-1))) (18113 : Int32).toNatClampNeg ((-1))) (15 : Int32).toNatClampNeg 14) (10114 : Int32).toNatClampNeg ((-1))) (18114 : Int32).toNatClampNeg ((-1))) (15 : Int32).toNatClampNeg 15) (10115 : Int32).toNatClampNeg ((-1))) (18115 : Int32).toNatClampNeg ((-1))) (15 : Int32).toNatClampNeg 16) (10116 : Int32).toNatClampNeg ((-1))) (18116 : Int32).toNatClampNeg ((-1))) (15 : Int32).toNatClampNeg 17) (10117 : Int32).toNatClampNeg ((-1))) (18117 : Int32).toNatClampNeg ((-1))) (15 : Int32).toNatClampNeg 18) (10118 : Int32).toNatClampNeg ((-1))) (18118 : Int32).toNatClampNeg ((-1))) (15 : Int32).toNatClampNeg 19) (10119 : Int32).toNatClampNeg ((-1))) (18119 : Int32).toNatClampNeg ((-1))) (15 : Int32).toNatClampNeg 20) (10120 : Int32).toNatClampNeg ((-1))) (18120 : Int32).toNatClampNeg ((-1))) (15 : Int32).toNatClampNeg 21) (10121 : Int32).toNatClampNeg ((-1))) (18121 : Int32).toNatClampNeg ((-1))) (15 : Int32).toNatClampNeg 22) (10122 : Int32).toNatClampNeg ((-1))) (18122 : Int32).toNatClampNeg ((-1))) (15 : Int32).toNatClampNeg 23) (10123 : Int32).toNatClampNeg ((-1))) (18123 : Int32).toNatClampNeg ((-1))) (15 : Int32).toNatClampNeg 24) (10124 : Int32).toNatClampNeg 0) (18124 : Int32).toNatClampNeg 0) (15 : Int32).toNatClampNeg 25) (16 : Int32).toNatClampNeg 0) (10125 : Int32).toNatClampNeg 0) (18125 : Int32).toNatClampNeg 0) (15 : Int32).toNatClampNeg 26)))) := by
  refine Ct.of (by decide) (Nat.le_of_ble_eq_true rfl) ⟨Nat.le_refl _, Nat.le_refl _⟩ ?_
  show Go l G mX10_write _ 0 [(0, .ref (G.2.1 + 32)), (1, .int 0)] [] n k (va_up w (G.2.1 + 33) (ai G 26100 (upd (upd (upd (upd (upd (upd (upd (upd (upd (upd (upd (upd (upd (upd (upd (upd (upd (upd (upd (upd (upd (upd (upd (upd (upd (upd (upd (upd (upd (upd (upd (upd (upd (upd (upd (upd (upd (upd (upd (upd (upd (upd (upd (upd (upd (upd (upd (upd (upd (upd (upd (upd (upd (upd (upd (upd (upd (upd (upd (upd (upd (upd (upd (upd (upd (upd (upd (upd (upd (upd (upd (upd (upd (upd (upd (upd (upd (upd (upd (upd (upd (upd (upd (upd (upd (sx 256) (3 : Int32).toNatClampNeg 1) (4 : Int32).toNatClampNeg 0) (17 : Int32).toNatClampNeg 0) (5 : Int32).toNatClampNeg 1) (6 : Int32).toNatClampNeg 0) (7 : Int32).toNatClampNeg 0) (8 : Int32).toNatClampNeg 0) (9 : Int32).toNatClampNeg 0) (15 : Int32).toNatClampNeg 0) (10100 : Int32).toNatClampNeg ((-1))) (18100 : Int32).toNatClampNeg ((-1))) (15 : Int32).toNatClampNeg 1) (10101 : Int32).toNatClampNeg ((-1))) (18101 : Int32).toNatClampNeg ((-1))) (15 : Int32).toNatClampNeg 2) (10102 : Int32).toNatClampNeg ((-1))) (18102 : Int32).toNatClampNeg ((-1))) (15 : Int32).toNatClampNeg 3) (10103 : Int32).toNatClampNeg ((-1))) (18103 : Int32).toNatClampNeg ((-1))) (15 : Int32).toNatClampNeg 4) (10104 : Int32).toNatClampNeg ((-1))) (18104 : Int32).toNatClampNeg ((-1))) (15 : Int32).toNatClampNeg 5) (10105 : Int32).toNatClampNeg ((-1))) (18105 : Int32).toNatClampNeg ((-1))) (15 : Int32).toNatClampNeg 6) (10106 : Int32).toNatClampNeg ((-1))) (18106 : Int32).toNatClampNeg ((-1))) (15 : Int32).toNatClampNeg 7) (10107 : Int32).toNatClampNeg ((-1))) (18107 : Int32).toNatClampNeg ((-1))) (15 : Int32).toNatClampNeg 8) (10108 : Int32).toNatClampNeg ((-1))) (18108 : Int32).toNatClampNeg ((-1))) (15 : Int32).toNatClampNeg 9) (10109 : Int32).toNatClampNeg ((-1))) (18109 : Int32).toNatClampNeg ((-1))) (15 : Int32).toNatClampNeg 10) (10110 : Int32).toNatClampNeg ((-1))) (18110 : Int32).toNatClampNeg ((-1))) (15 : Int32).toNatClampNeg 11) (10111 : Int32).toNatClampNeg ((-1))) (18111 : Int32).toNatClampNeg ((-1))) (15 : Int32).toNatClampNeg 12) (10112 : Int32).toNatClampNeg ((-1))) (18112 : Int32).toNatClampNeg ((-1))) (15 : Int32).toNatClampNeg 13) (10113 : Int32).toNatClampNeg ((-1))) (18113 : Int32).toNatClampNeg ((-1))) (15 : Int32).toNatClampNeg 14) (10114 : Int32).toNatClampNeg ((-1))) (18114 : Int32).toNatClampNeg ((-1))) (15 : Int32).toNatClampNeg 15) (10115 : Int32).toNatClampNeg ((-1))) (18115 : Int32).toNatClampNeg ((-1))) (15 : Int32).toNatClampNeg 16) (10116 : Int32).toNatClampNeg ((-1))) (18116 : Int32).toNatClampNeg ((-1))) (15 : Int32).toNatClampNeg 17) (10117 : Int32).toNatClampNeg ((-1))) (18117 : Int32).toNatClampNeg ((-1))) (15 : Int32).toNatClampNeg 18) (10118 : Int32).toNatClampNeg ((-1))) (18118 : Int32).toNatClampNeg ((-1))) (15 : Int32).toNatClampNeg 19) (10119 : Int32).toNatClampNeg ((-1))) (18119 : Int32).toNatClampNeg ((-1))) (15 : Int32).toNatClampNeg 20) (10120 : Int32).toNatClampNeg ((-1))) (18120 : Int32).toNatClampNeg ((-1))) (15 : Int32).toNatClampNeg 21) (10121 : Int32).toNatClampNeg ((-1))) (18121 : Int32).toNatClampNeg ((-1))) (15 : Int32).toNatClampNeg 22) (10122 : Int32).toNatClampNeg ((-1))) (18122 : Int32).toNatClampNeg ((-1))) (15 : Int32).toNatClampNeg 23) (10123 : Int32).toNatClampNeg ((-1))) (18123 : Int32).toNatClampNeg ((-1))) (15 : Int32).toNatClampNeg 24) (10124 : Int32).toNatClampNeg 0) (18124 : Int32).toNatClampNeg 0) (15 : Int32).toNatClampNeg 25) (16 : Int32).toNatClampNeg 0)))
  refine go_aload_n (pc := 0) dX10_write_0 rfl rfl ?_
  refine go_get (pc := 1) fX10_9 rfl (gz_b (by omega)) ((va_up_ne _ _ (gz_ne (by decide))).trans ((hw 32 (by decide) (by decide)).trans (wl_at (i := 32) rfl))) rfl dX10_write_1 ?_
  refine go_sipush (pc := 4) (v := 10100) dX10_write_4 (by decide) ?_
  refine go_aload_n (pc := 7) dX10_write_7 rfl rfl ?_
  refine go_get (pc := 8) fX10_9 rfl (gz_b (by omega)) ((va_up_ne _ _ (gz_ne (by decide))).trans ((hw 32 (by decide) (by decide)).trans (wl_at (i := 32) rfl))) rfl dX10_write_8 ?_
  refine go_bipush (pc := 11) (v := 15) dX10_write_11 (by decide) ?_
  refine go_iald (pc := 13) (gz_b (by omega)) (va_up_self _ _ _) (gv_in (by decide)) dX10_write_13 ?_
  refine go_top (y := 25) rfl ?_
  refine go_iadd (pc := 14) dX10_write_14 ?_
  refine go_top (y := 10125) (by decide) ?_
  refine go_iload_n (pc := 15) dX10_write_15 rfl rfl ?_
  refine go_iast (pc := 16) (gz_b (by omega)) (va_up_self _ _ _) (gv_in (by decide)) dX10_write_16 ?_
  refine go_w (va_up_up _ _ _ _) ?_
  refine go_aload_n (pc := 17) dX10_write_17 rfl rfl ?_
  refine go_get (pc := 18) fX10_9 rfl (gz_b (by omega)) ((va_up_ne _ _ (gz_ne (by decide))).trans ((hw 32 (by decide) (by decide)).trans (wl_at (i := 32) rfl))) rfl dX10_write_18 ?_
  refine go_sipush (pc := 21) (v := 18100) dX10_write_21 (by decide) ?_
  refine go_aload_n (pc := 24) dX10_write_24 rfl rfl ?_
  refine go_get (pc := 25) fX10_9 rfl (gz_b (by omega)) ((va_up_ne _ _ (gz_ne (by decide))).trans ((hw 32 (by decide) (by decide)).trans (wl_at (i := 32) rfl))) rfl dX10_write_25 ?_
  refine go_bipush (pc := 28) (v := 15) dX10_write_28 (by decide) ?_
  refine go_iald (pc := 30) (gz_b (by omega)) (va_up_self _ _ _) (gv_in (by decide)) dX10_write_30 ?_
  refine go_top (y := 25) rfl ?_
  refine go_iadd (pc := 31) dX10_write_31 ?_
  refine go_top (y := 18125) (by decide) ?_
  refine go_iload_n (pc := 32) dX10_write_32 rfl rfl ?_
  refine go_iast (pc := 33) (gz_b (by omega)) (va_up_self _ _ _) (gv_in (by decide)) dX10_write_33 ?_
  refine go_w (va_up_up _ _ _ _) ?_
  refine go_aload_n (pc := 34) dX10_write_34 rfl rfl ?_
  refine go_get (pc := 35) fX10_9 rfl (gz_b (by omega)) ((va_up_ne _ _ (gz_ne (by decide))).trans ((hw 32 (by decide) (by decide)).trans (wl_at (i := 32) rfl))) rfl dX10_write_35 ?_
  refine go_bipush (pc := 38) (v := 15) dX10_write_38 (by decide) ?_
  refine go_dup2 (pc := 40) dX10_write_40 rfl rfl ?_
  refine go_iald (pc := 41) (gz_b (by omega)) (va_up_self _ _ _) (gv_in (by decide)) dX10_write_41 ?_
  refine go_top (y := 25) rfl ?_
  refine go_iconst (pc := 42) (v := 1) dX10_write_42 (by decide) ?_
  refine go_iadd (pc := 43) dX10_write_43 ?_
  refine go_top (y := 26) (by decide) ?_
  refine go_iast (pc := 44) (gz_b (by omega)) (va_up_self _ _ _) (gv_in (by decide)) dX10_write_44 ?_
  refine go_w (va_up_up _ _ _ _) ?_
  exact go_vret (pc := 45) rfl dX10_write_45
set_option maxRecDepth 100000 in
set_option maxHeartbeats 4000000 in
theorem cX10_sum_2 {l : Launch} {G : gG} {n k : Nat} {w : Nat → va_E} (hn : 42 ≤ n) (hw : ∀ i, 32 ≤ i → i < 42 → w (G.2.1 + i) = wl G.2.1 (LF G) (G.2.1 + i)) : Ct l G mX10_sum 0 0 [.ref (G.2.1 + 32)] n k (va_up w (G.2.1 + 33) (ai G 26100 (upd (upd (upd (upd (upd (upd (upd (upd (upd (upd (upd (upd (upd (upd (upd (upd (upd (upd (upd (upd (upd (upd (upd (upd (upd (upd (upd (upd (upd (upd (upd (upd (upd (upd (upd (upd (upd (upd (upd (upd (upd (upd (upd (upd (upd (upd (upd (upd (upd (upd (upd (upd (upd (upd (upd (upd (upd (upd (upd (upd (upd (upd (upd (upd (upd (upd (upd (upd (upd (upd (upd (upd (upd (upd (upd (upd (upd (upd (upd (upd (upd (upd (upd (upd (upd (upd (upd (upd (sx 256) (3 : Int32).toNatClampNeg 1) (4 : Int32).toNatClampNeg 0) (17 : Int32).toNatClampNeg 0) (5 : Int32).toNatClampNeg 1) (6 : Int32).toNatClampNeg 0) (7 : Int32).toNatClampNeg 0) (8 : Int32).toNatClampNeg 0) (9 : Int32).toNatClampNeg 0) (15 : Int32).toNatClampNeg 0) (10100 : Int32).toNatClampNeg ((-1))) (18100 : Int32).toNatClampNeg ((-1))) (15 : Int32).toNatClampNeg 1) (10101 : Int32).toNatClampNeg ((-1))) (18101 : Int32).toNatClampNeg ((-1))) (15 : Int32).toNatClampNeg 2) (10102 : Int32).toNatClampNeg ((-1))) (18102 : Int32).toNatClampNeg ((-1))) (15 : Int32).toNatClampNeg 3) (10103 : Int32).toNatClampNeg ((-1))) (18103 : Int32).toNatClampNeg ((-1))) (15 : Int32).toNatClampNeg 4) (10104 : Int32).toNatClampNeg ((-1))) (18104 : Int32).toNatClampNeg ((-1))) (15 : Int32).toNatClampNeg 5) (10105 : Int32).toNatClampNeg ((-1))) (18105 : Int32).toNatClampNeg ((-1))) (15 : Int32).toNatClampNeg 6) (10106 : Int32).toNatClampNeg ((-1))) (18106 : Int32).toNatClampNeg ((-1))) (15 : Int32).toNatClampNeg 7) (10107 : Int32).toNatClampNeg ((-1))) (18107 : Int32).toNatClampNeg ((-1))) (15 : Int32).toNatClampNeg 8) (10108 : Int32).toNatClampNeg ((-1))) (18108 : Int32).toNatClampNeg ((-1))) (15 : Int32).toNatClampNeg 9) (10109 : Int32).toNatClampNeg ((-1))) (18109 : Int32).toNatClampNeg ((-1))) (15 : Int32).toNatClampNeg 10) (10110 : Int32).toNatClampNeg ((-1))) (18110 : Int32).toNatClampNeg ((-1))) (15 : Int32).toNatClampNeg 11) (10111 : Int32).toNatClampNeg ((-1))) (18111 : Int32).toNatClampNeg ((-1))) (15 : Int32).toNatClampNeg 12) (10112 : Int32).toNatClampNeg ((-1))) (18112 : Int32).toNatClampNeg ((-1))) (15 : Int32).toNatClampNeg 13) (10113 : Int32).toNatClampNeg ((-1))) (18113 : Int32).toNatClampNeg ((-1))) (15 : Int32).toNatClampNeg 14) (10114 : Int32).toNatClampNeg ((-1))) (18114 : Int32).toNatClampNeg ((-1))) (15 : Int32).toNatClampNeg 15) (10115 : Int32).toNatClampNeg ((-1))) (18115 : Int32).toNatClampNeg ((-1))) (15 : Int32).toNatClampNeg 16) (10116 : Int32).toNatClampNeg ((-1))) (18116 : Int32).toNatClampNeg ((-1))) (15 : Int32).toNatClampNeg 17) (10117 : Int32).toNatClampNeg ((-1))) (18117 : Int32).toNatClampNeg ((-1))) (15 : Int32).toNatClampNeg 18) (10118 : Int32).toNatClampNeg ((-1))) (18118 : Int32).toNatClampNeg ((-1))) (15 : Int32).toNatClampNeg 19) (10119 : Int32).toNatClampNeg ((-1))) (18119 : Int32).toNatClampNeg ((-1))) (15 : Int32).toNatClampNeg 20) (10120 : Int32).toNatClampNeg ((-1))) (18120 : Int32).toNatClampNeg ((-1))) (15 : Int32).toNatClampNeg 21) (10121 : Int32).toNatClampNeg ((-1))) (18121 : Int32).toNatClampNeg ((-1))) (15 : Int32).toNatClampNeg 22) (10122 : Int32).toNatClampNeg ((-1))) (18122 : Int32).toNatClampNeg ((-1))) (15 : Int32).toNatClampNeg 23) (10123 : Int32).toNatClampNeg ((-1))) (18123 : Int32).toNatClampNeg ((-1))) (15 : Int32).toNatClampNeg 24) (10124 : Int32).toNatClampNeg 0) (18124 : Int32).toNatClampNeg 0) (15 : Int32).toNatClampNeg 25) (16 : Int32).toNatClampNeg 0) (10125 : Int32).toNatClampNeg 0) (18125 : Int32).toNatClampNeg 0) (15 : Int32).toNatClampNeg 26))) (some (.int 1072725825), n, k, (va_up w (G.2.1 + 33) (ai G 26100 (upd (upd (upd (upd (upd (upd (upd (upd (upd (upd (upd (upd (upd (upd (upd (upd (upd (upd (upd (upd (upd (upd (upd (upd (upd (upd (upd (upd (upd (upd (upd (upd (upd (upd (upd (upd (upd (upd (upd (upd (upd (upd (upd (upd (upd (upd (upd (upd (upd (upd (upd (upd (upd (upd (upd (upd (upd (upd (upd (upd (upd (upd (upd (upd (upd (upd (upd (upd (upd (upd (upd (upd (upd (upd (upd (upd (upd (upd (upd (upd (upd (upd (upd (upd (upd (upd (upd (upd (sx 256) (3 : Int32).toNatClampNeg 1) (4 : Int32).toNatClampNeg 0) (17 : Int32).toNatClampNeg 0) (5 : Int32).toNatClampNeg 1) (6 : Int32).toNatClampNeg 0) (7 : Int32).toNatClampNeg 0) (8 : Int32).toNatClampNeg 0) (9 : Int32).toNatClampNeg 0) (15 : Int32).toNatClampNeg 0) (10100 : Int32).toNatClampNeg ((-1))) (18100 : Int32).toNatClampNeg ((-1))) (15 : Int32).toNatClampNeg 1) (10101 : Int32).toNatClampNeg ((-1))) (18101 : Int32).toNatClampNeg ((-1))) (15 : Int32).toNatClampNeg 2) (10102 : Int32).toNatClampNeg ((-1))) (18102 : Int32).toNatClampNeg ((-1))) (15 : Int32).toNatClampNeg 3) (10103 : Int32).toNatClampNeg ((-1))) (18103 : Int32).toNatClampNeg ((-1))) (15 : Int32).toNatClampNeg 4) (10104 : Int32).toNatClampNeg ((-1))) (18104 : Int32).toNatClampNeg ((-1))) (15 : Int32).toNatClampNeg 5) (10105 : Int32).toNatClampNeg ((-1))) (18105 : Int32).toNatClampNeg ((-1))) (15 : Int32).toNatClampNeg 6) (10106 : Int32).toNatClampNeg ((-1))) (18106 : Int32).toNatClampNeg ((-1))) (15 : Int32).toNatClampNeg 7) (10107 : Int32).toNatClampNeg ((-1))) (18107 : Int32).toNatClampNeg ((-1))) (15 : Int32).toNatClampNeg 8) (10108 : Int32).toNatClampNeg ((-1))) (18108 : Int32).toNatClampNeg ((-1))) (15 : Int32).toNatClampNeg 9) (10109 : Int32).toNatClampNeg ((-1))) (18109 : Int32).toNatClampNeg ((-1))) (15 : Int32).toNatClampNeg 10) (10110 : Int32).toNatClampNeg ((-1))) (18110 : Int32).toNatClampNeg ((-1))) (15 : Int32).toNatClampNeg 11) (10111 : Int32).toNatClampNeg ((-1))) (18111 : Int32).toNatClampNeg ((-1))) (15 : Int32).toNatClampNeg 12) (10112 : Int32).toNatClampNeg ((-1))) (18112 : Int32).toNatClampNeg ((-1))) (15 : Int32).toNatClampNeg 13) (10113 : Int32).toNatClampNeg ((-1))) (18113 : Int32).toNatClampNeg ((-1))) (15 : Int32).toNatClampNeg 14) (10114 : Int32).toNatClampNeg ((-1))) (18114 : Int32).toNatClampNeg ((-1))) (15 : Int32).toNatClampNeg 15) (10115 : Int32).toNatClampNeg ((-1))) (18115 : Int32).toNatClampNeg ((-1))) (15 : Int32).toNatClampNeg 16) (10116 : Int32).toNatClampNeg ((-1))) (18116 : Int32).toNatClampNeg ((-1))) (15 : Int32).toNatClampNeg 17) (10117 : Int32).toNatClampNeg ((-1))) (18117 : Int32).toNatClampNeg ((-1))) (15 : Int32).toNatClampNeg 18) (10118 : Int32).toNatClampNeg ((-1))) (18118 : Int32).toNatClampNeg ((-1))) (15 : Int32).toNatClampNeg 19) (10119 : Int32).toNatClampNeg ((-1))) (18119 : Int32).toNatClampNeg ((-1))) (15 : Int32).toNatClampNeg 20) (10120 : Int32).toNatClampNeg ((-1))) (18120 : Int32).toNatClampNeg ((-1))) (15 : Int32).toNatClampNeg 21) (10121 : Int32).toNatClampNeg ((-1))) (18121 : Int32).toNatClampNeg ((-1))) (15 : Int32).toNatClampNeg 22) (10122 : Int32).toNatClampNeg ((-1))) (18122 : Int32).toNatClampNeg ((-1))) (15 : Int32).toNatClampNeg 23) (10123 : Int32).toNatClampNeg ((-1))) (18123 : Int32).toNatClampNeg ((-1))) (15 : Int32).toNatClampNeg 24) (10124 : Int32).toNatClampNeg 0) (18124 : Int32).toNatClampNeg 0) (15 : Int32).toNatClampNeg 25) (16 : Int32).toNatClampNeg 0) (10125 : Int32).toNatClampNeg 0) (18125 : Int32).toNatClampNeg 0) (15 : Int32).toNatClampNeg 26)))) := by
  refine Ct.of (by decide) (Nat.le_of_ble_eq_true rfl) ⟨Nat.le_refl _, Nat.le_refl _⟩ ?_
  show Go l G mX10_sum _ 0 [(0, .ref (G.2.1 + 32))] [] n k (va_up w (G.2.1 + 33) (ai G 26100 (upd (upd (upd (upd (upd (upd (upd (upd (upd (upd (upd (upd (upd (upd (upd (upd (upd (upd (upd (upd (upd (upd (upd (upd (upd (upd (upd (upd (upd (upd (upd (upd (upd (upd (upd (upd (upd (upd (upd (upd (upd (upd (upd (upd (upd (upd (upd (upd (upd (upd (upd (upd (upd (upd (upd (upd (upd (upd (upd (upd (upd (upd (upd (upd (upd (upd (upd (upd (upd (upd (upd (upd (upd (upd (upd (upd (upd (upd (upd (upd (upd (upd (upd (upd (upd (upd (upd (upd (sx 256) (3 : Int32).toNatClampNeg 1) (4 : Int32).toNatClampNeg 0) (17 : Int32).toNatClampNeg 0) (5 : Int32).toNatClampNeg 1) (6 : Int32).toNatClampNeg 0) (7 : Int32).toNatClampNeg 0) (8 : Int32).toNatClampNeg 0) (9 : Int32).toNatClampNeg 0) (15 : Int32).toNatClampNeg 0) (10100 : Int32).toNatClampNeg ((-1))) (18100 : Int32).toNatClampNeg ((-1))) (15 : Int32).toNatClampNeg 1) (10101 : Int32).toNatClampNeg ((-1))) (18101 : Int32).toNatClampNeg ((-1))) (15 : Int32).toNatClampNeg 2) (10102 : Int32).toNatClampNeg ((-1))) (18102 : Int32).toNatClampNeg ((-1))) (15 : Int32).toNatClampNeg 3) (10103 : Int32).toNatClampNeg ((-1))) (18103 : Int32).toNatClampNeg ((-1))) (15 : Int32).toNatClampNeg 4) (10104 : Int32).toNatClampNeg ((-1))) (18104 : Int32).toNatClampNeg ((-1))) (15 : Int32).toNatClampNeg 5) (10105 : Int32).toNatClampNeg ((-1))) (18105 : Int32).toNatClampNeg ((-1))) (15 : Int32).toNatClampNeg 6) (10106 : Int32).toNatClampNeg ((-1))) (18106 : Int32).toNatClampNeg ((-1))) (15 : Int32).toNatClampNeg 7) (10107 : Int32).toNatClampNeg ((-1))) (18107 : Int32).toNatClampNeg ((-1))) (15 : Int32).toNatClampNeg 8) (10108 : Int32).toNatClampNeg ((-1))) (18108 : Int32).toNatClampNeg ((-1))) (15 : Int32).toNatClampNeg 9) (10109 : Int32).toNatClampNeg ((-1))) (18109 : Int32).toNatClampNeg ((-1))) (15 : Int32).toNatClampNeg 10) (10110 : Int32).toNatClampNeg ((-1))) (18110 : Int32).toNatClampNeg ((-1))) (15 : Int32).toNatClampNeg 11) (10111 : Int32).toNatClampNeg ((-1))) (18111 : Int32).toNatClampNeg ((-1))) (15 : Int32).toNatClampNeg 12) (10112 : Int32).toNatClampNeg ((-1))) (18112 : Int32).toNatClampNeg ((-1))) (15 : Int32).toNatClampNeg 13) (10113 : Int32).toNatClampNeg ((-1))) (18113 : Int32).toNatClampNeg ((-1))) (15 : Int32).toNatClampNeg 14) (10114 : Int32).toNatClampNeg ((-1))) (18114 : Int32).toNatClampNeg ((-1))) (15 : Int32).toNatClampNeg 15) (10115 : Int32).toNatClampNeg ((-1))) (18115 : Int32).toNatClampNeg ((-1))) (15 : Int32).toNatClampNeg 16) (10116 : Int32).toNatClampNeg ((-1))) (18116 : Int32).toNatClampNeg ((-1))) (15 : Int32).toNatClampNeg 17) (10117 : Int32).toNatClampNeg ((-1))) (18117 : Int32).toNatClampNeg ((-1))) (15 : Int32).toNatClampNeg 18) (10118 : Int32).toNatClampNeg ((-1))) (18118 : Int32).toNatClampNeg ((-1))) (15 : Int32).toNatClampNeg 19) (10119 : Int32).toNatClampNeg ((-1))) (18119 : Int32).toNatClampNeg ((-1))) (15 : Int32).toNatClampNeg 20) (10120 : Int32).toNatClampNeg ((-1))) (18120 : Int32).toNatClampNeg ((-1))) (15 : Int32).toNatClampNeg 21) (10121 : Int32).toNatClampNeg ((-1))) (18121 : Int32).toNatClampNeg ((-1))) (15 : Int32).toNatClampNeg 22) (10122 : Int32).toNatClampNeg ((-1))) (18122 : Int32).toNatClampNeg ((-1))) (15 : Int32).toNatClampNeg 23) (10123 : Int32).toNatClampNeg ((-1))) (18123 : Int32).toNatClampNeg ((-1))) (15 : Int32).toNatClampNeg 24) (10124 : Int32).toNatClampNeg 0) (18124 : Int32).toNatClampNeg 0) (15 : Int32).toNatClampNeg 25) (16 : Int32).toNatClampNeg 0) (10125 : Int32).toNatClampNeg 0) (18125 : Int32).toNatClampNeg 0) (15 : Int32).toNatClampNeg 26)))
  refine go_iconst (pc := 0) (v := 1) dX10_sum_0 (by decide) ?_
  refine go_istore_n (pc := 1) (lv' := [(1, .int 1), (0, .ref (G.2.1 + 32))]) dX10_sum_1 rfl (by decide) rfl ?_
  refine go_iconst (pc := 2) (v := 0) dX10_sum_2 (by decide) ?_
  refine go_istore_n (pc := 3) (lv' := [(2, .int 0), (1, .int 1), (0, .ref (G.2.1 + 32))]) dX10_sum_3 rfl (by decide) rfl ?_
  refine go_iload_n (pc := 4) dX10_sum_4 rfl rfl ?_
  refine go_aload_n (pc := 5) dX10_sum_5 rfl rfl ?_
  refine go_get (pc := 6) fX10_9 rfl (gz_b (by omega)) ((va_up_ne _ _ (gz_ne (by decide))).trans ((hw 32 (by decide) (by decide)).trans (wl_at (i := 32) rfl))) rfl dX10_sum_6 ?_
  refine go_bipush (pc := 9) (v := 15) dX10_sum_9 (by decide) ?_
  refine go_iald (pc := 11) (gz_b (by omega)) (va_up_self _ _ _) (gv_in (by decide)) dX10_sum_11 ?_
  refine go_top (y := 26) rfl ?_
  refine go_icmp_ge_f (pc := 12) (tgt := 37) dX10_sum_12 (by decide) (by decide) ?_
  refine go_bipush (pc := 15) (v := 31) dX10_sum_15 (by decide) ?_
  refine go_iload_n (pc := 17) dX10_sum_17 rfl rfl ?_
  refine go_imul (pc := 18) dX10_sum_18 ?_
  refine go_top (y := 31) (by decide) ?_
  refine go_aload_n (pc := 19) dX10_sum_19 rfl rfl ?_
  refine go_get (pc := 20) fX10_9 rfl (gz_b (by omega)) ((va_up_ne _ _ (gz_ne (by decide))).trans ((hw 32 (by decide) (by decide)).trans (wl_at (i := 32) rfl))) rfl dX10_sum_20 ?_
  refine go_sipush (pc := 23) (v := 10100) dX10_sum_23 (by decide) ?_
  refine go_iload_n (pc := 26) dX10_sum_26 rfl rfl ?_
  refine go_iadd (pc := 27) dX10_sum_27 ?_
  refine go_top (y := 10100) (by decide) ?_
  refine go_iald (pc := 28) (gz_b (by omega)) (va_up_self _ _ _) (gv_in (by decide)) dX10_sum_28 ?_
  refine go_top (y := (-1)) rfl ?_
  refine go_iadd (pc := 29) dX10_sum_29 ?_
  refine go_top (y := 30) (by decide) ?_
  refine go_istore_n (pc := 30) (lv' := [(1, .int 30), (2, .int 0), (0, .ref (G.2.1 + 32))]) dX10_sum_30 rfl (by decide) rfl ?_
  refine go_iinc (pc := 31) (v := 1) (lv' := [(2, .int 1), (1, .int 30), (0, .ref (G.2.1 + 32))]) dX10_sum_31 1 rfl (by first | rfl | decide) (by decide) rfl ?_
  refine go_goto (pc := 34) (tgt := 4) dX10_sum_34 (by decide) ?_
  refine go_iload_n (pc := 4) dX10_sum_4 rfl rfl ?_
  refine go_aload_n (pc := 5) dX10_sum_5 rfl rfl ?_
  refine go_get (pc := 6) fX10_9 rfl (gz_b (by omega)) ((va_up_ne _ _ (gz_ne (by decide))).trans ((hw 32 (by decide) (by decide)).trans (wl_at (i := 32) rfl))) rfl dX10_sum_6 ?_
  refine go_bipush (pc := 9) (v := 15) dX10_sum_9 (by decide) ?_
  refine go_iald (pc := 11) (gz_b (by omega)) (va_up_self _ _ _) (gv_in (by decide)) dX10_sum_11 ?_
  refine go_top (y := 26) rfl ?_
  refine go_icmp_ge_f (pc := 12) (tgt := 37) dX10_sum_12 (by decide) (by decide) ?_
  refine go_bipush (pc := 15) (v := 31) dX10_sum_15 (by decide) ?_
  refine go_iload_n (pc := 17) dX10_sum_17 rfl rfl ?_
  refine go_imul (pc := 18) dX10_sum_18 ?_
  refine go_top (y := 930) (by decide) ?_
  refine go_aload_n (pc := 19) dX10_sum_19 rfl rfl ?_
  refine go_get (pc := 20) fX10_9 rfl (gz_b (by omega)) ((va_up_ne _ _ (gz_ne (by decide))).trans ((hw 32 (by decide) (by decide)).trans (wl_at (i := 32) rfl))) rfl dX10_sum_20 ?_
  refine go_sipush (pc := 23) (v := 10100) dX10_sum_23 (by decide) ?_
  refine go_iload_n (pc := 26) dX10_sum_26 rfl rfl ?_
  refine go_iadd (pc := 27) dX10_sum_27 ?_
  refine go_top (y := 10101) (by decide) ?_
  refine go_iald (pc := 28) (gz_b (by omega)) (va_up_self _ _ _) (gv_in (by decide)) dX10_sum_28 ?_
  refine go_top (y := (-1)) rfl ?_
  refine go_iadd (pc := 29) dX10_sum_29 ?_
  refine go_top (y := 929) (by decide) ?_
  refine go_istore_n (pc := 30) (lv' := [(1, .int 929), (2, .int 1), (0, .ref (G.2.1 + 32))]) dX10_sum_30 rfl (by decide) rfl ?_
  refine go_iinc (pc := 31) (v := 2) (lv' := [(2, .int 2), (1, .int 929), (0, .ref (G.2.1 + 32))]) dX10_sum_31 1 rfl (by first | rfl | decide) (by decide) rfl ?_
  refine go_goto (pc := 34) (tgt := 4) dX10_sum_34 (by decide) ?_
  refine go_iload_n (pc := 4) dX10_sum_4 rfl rfl ?_
  refine go_aload_n (pc := 5) dX10_sum_5 rfl rfl ?_
  refine go_get (pc := 6) fX10_9 rfl (gz_b (by omega)) ((va_up_ne _ _ (gz_ne (by decide))).trans ((hw 32 (by decide) (by decide)).trans (wl_at (i := 32) rfl))) rfl dX10_sum_6 ?_
  refine go_bipush (pc := 9) (v := 15) dX10_sum_9 (by decide) ?_
  refine go_iald (pc := 11) (gz_b (by omega)) (va_up_self _ _ _) (gv_in (by decide)) dX10_sum_11 ?_
  refine go_top (y := 26) rfl ?_
  refine go_icmp_ge_f (pc := 12) (tgt := 37) dX10_sum_12 (by decide) (by decide) ?_
  refine go_bipush (pc := 15) (v := 31) dX10_sum_15 (by decide) ?_
  refine go_iload_n (pc := 17) dX10_sum_17 rfl rfl ?_
  refine go_imul (pc := 18) dX10_sum_18 ?_
  refine go_top (y := 28799) (by decide) ?_
  refine go_aload_n (pc := 19) dX10_sum_19 rfl rfl ?_
  refine go_get (pc := 20) fX10_9 rfl (gz_b (by omega)) ((va_up_ne _ _ (gz_ne (by decide))).trans ((hw 32 (by decide) (by decide)).trans (wl_at (i := 32) rfl))) rfl dX10_sum_20 ?_
  refine go_sipush (pc := 23) (v := 10100) dX10_sum_23 (by decide) ?_
  refine go_iload_n (pc := 26) dX10_sum_26 rfl rfl ?_
  refine go_iadd (pc := 27) dX10_sum_27 ?_
  refine go_top (y := 10102) (by decide) ?_
  refine go_iald (pc := 28) (gz_b (by omega)) (va_up_self _ _ _) (gv_in (by decide)) dX10_sum_28 ?_
  refine go_top (y := (-1)) rfl ?_
  refine go_iadd (pc := 29) dX10_sum_29 ?_
  refine go_top (y := 28798) (by decide) ?_
  refine go_istore_n (pc := 30) (lv' := [(1, .int 28798), (2, .int 2), (0, .ref (G.2.1 + 32))]) dX10_sum_30 rfl (by decide) rfl ?_
  refine go_iinc (pc := 31) (v := 3) (lv' := [(2, .int 3), (1, .int 28798), (0, .ref (G.2.1 + 32))]) dX10_sum_31 1 rfl (by first | rfl | decide) (by decide) rfl ?_
  refine go_goto (pc := 34) (tgt := 4) dX10_sum_34 (by decide) ?_
  refine go_iload_n (pc := 4) dX10_sum_4 rfl rfl ?_
  refine go_aload_n (pc := 5) dX10_sum_5 rfl rfl ?_
  refine go_get (pc := 6) fX10_9 rfl (gz_b (by omega)) ((va_up_ne _ _ (gz_ne (by decide))).trans ((hw 32 (by decide) (by decide)).trans (wl_at (i := 32) rfl))) rfl dX10_sum_6 ?_
  refine go_bipush (pc := 9) (v := 15) dX10_sum_9 (by decide) ?_
  refine go_iald (pc := 11) (gz_b (by omega)) (va_up_self _ _ _) (gv_in (by decide)) dX10_sum_11 ?_
  refine go_top (y := 26) rfl ?_
  refine go_icmp_ge_f (pc := 12) (tgt := 37) dX10_sum_12 (by decide) (by decide) ?_
  refine go_bipush (pc := 15) (v := 31) dX10_sum_15 (by decide) ?_
  refine go_iload_n (pc := 17) dX10_sum_17 rfl rfl ?_
  refine go_imul (pc := 18) dX10_sum_18 ?_
  refine go_top (y := 892738) (by decide) ?_
  refine go_aload_n (pc := 19) dX10_sum_19 rfl rfl ?_
  refine go_get (pc := 20) fX10_9 rfl (gz_b (by omega)) ((va_up_ne _ _ (gz_ne (by decide))).trans ((hw 32 (by decide) (by decide)).trans (wl_at (i := 32) rfl))) rfl dX10_sum_20 ?_
  refine go_sipush (pc := 23) (v := 10100) dX10_sum_23 (by decide) ?_
  refine go_iload_n (pc := 26) dX10_sum_26 rfl rfl ?_
  refine go_iadd (pc := 27) dX10_sum_27 ?_
  refine go_top (y := 10103) (by decide) ?_
  refine go_iald (pc := 28) (gz_b (by omega)) (va_up_self _ _ _) (gv_in (by decide)) dX10_sum_28 ?_
  refine go_top (y := (-1)) rfl ?_
  refine go_iadd (pc := 29) dX10_sum_29 ?_
  refine go_top (y := 892737) (by decide) ?_
  refine go_istore_n (pc := 30) (lv' := [(1, .int 892737), (2, .int 3), (0, .ref (G.2.1 + 32))]) dX10_sum_30 rfl (by decide) rfl ?_
  refine go_iinc (pc := 31) (v := 4) (lv' := [(2, .int 4), (1, .int 892737), (0, .ref (G.2.1 + 32))]) dX10_sum_31 1 rfl (by first | rfl | decide) (by decide) rfl ?_
  refine go_goto (pc := 34) (tgt := 4) dX10_sum_34 (by decide) ?_
  refine go_iload_n (pc := 4) dX10_sum_4 rfl rfl ?_
  refine go_aload_n (pc := 5) dX10_sum_5 rfl rfl ?_
  refine go_get (pc := 6) fX10_9 rfl (gz_b (by omega)) ((va_up_ne _ _ (gz_ne (by decide))).trans ((hw 32 (by decide) (by decide)).trans (wl_at (i := 32) rfl))) rfl dX10_sum_6 ?_
  refine go_bipush (pc := 9) (v := 15) dX10_sum_9 (by decide) ?_
  refine go_iald (pc := 11) (gz_b (by omega)) (va_up_self _ _ _) (gv_in (by decide)) dX10_sum_11 ?_
  refine go_top (y := 26) rfl ?_
  refine go_icmp_ge_f (pc := 12) (tgt := 37) dX10_sum_12 (by decide) (by decide) ?_
  refine go_bipush (pc := 15) (v := 31) dX10_sum_15 (by decide) ?_
  refine go_iload_n (pc := 17) dX10_sum_17 rfl rfl ?_
  refine go_imul (pc := 18) dX10_sum_18 ?_
  refine go_top (y := 27674847) (by decide) ?_
  refine go_aload_n (pc := 19) dX10_sum_19 rfl rfl ?_
  refine go_get (pc := 20) fX10_9 rfl (gz_b (by omega)) ((va_up_ne _ _ (gz_ne (by decide))).trans ((hw 32 (by decide) (by decide)).trans (wl_at (i := 32) rfl))) rfl dX10_sum_20 ?_
  refine go_sipush (pc := 23) (v := 10100) dX10_sum_23 (by decide) ?_
  refine go_iload_n (pc := 26) dX10_sum_26 rfl rfl ?_
  refine go_iadd (pc := 27) dX10_sum_27 ?_
  refine go_top (y := 10104) (by decide) ?_
  refine go_iald (pc := 28) (gz_b (by omega)) (va_up_self _ _ _) (gv_in (by decide)) dX10_sum_28 ?_
  refine go_top (y := (-1)) rfl ?_
  refine go_iadd (pc := 29) dX10_sum_29 ?_
  refine go_top (y := 27674846) (by decide) ?_
  refine go_istore_n (pc := 30) (lv' := [(1, .int 27674846), (2, .int 4), (0, .ref (G.2.1 + 32))]) dX10_sum_30 rfl (by decide) rfl ?_
  refine go_iinc (pc := 31) (v := 5) (lv' := [(2, .int 5), (1, .int 27674846), (0, .ref (G.2.1 + 32))]) dX10_sum_31 1 rfl (by first | rfl | decide) (by decide) rfl ?_
  refine go_goto (pc := 34) (tgt := 4) dX10_sum_34 (by decide) ?_
  refine go_iload_n (pc := 4) dX10_sum_4 rfl rfl ?_
  refine go_aload_n (pc := 5) dX10_sum_5 rfl rfl ?_
  refine go_get (pc := 6) fX10_9 rfl (gz_b (by omega)) ((va_up_ne _ _ (gz_ne (by decide))).trans ((hw 32 (by decide) (by decide)).trans (wl_at (i := 32) rfl))) rfl dX10_sum_6 ?_
  refine go_bipush (pc := 9) (v := 15) dX10_sum_9 (by decide) ?_
  refine go_iald (pc := 11) (gz_b (by omega)) (va_up_self _ _ _) (gv_in (by decide)) dX10_sum_11 ?_
  refine go_top (y := 26) rfl ?_
  refine go_icmp_ge_f (pc := 12) (tgt := 37) dX10_sum_12 (by decide) (by decide) ?_
  refine go_bipush (pc := 15) (v := 31) dX10_sum_15 (by decide) ?_
  refine go_iload_n (pc := 17) dX10_sum_17 rfl rfl ?_
  refine go_imul (pc := 18) dX10_sum_18 ?_
  refine go_top (y := 857920226) (by decide) ?_
  refine go_aload_n (pc := 19) dX10_sum_19 rfl rfl ?_
  refine go_get (pc := 20) fX10_9 rfl (gz_b (by omega)) ((va_up_ne _ _ (gz_ne (by decide))).trans ((hw 32 (by decide) (by decide)).trans (wl_at (i := 32) rfl))) rfl dX10_sum_20 ?_
  refine go_sipush (pc := 23) (v := 10100) dX10_sum_23 (by decide) ?_
  refine go_iload_n (pc := 26) dX10_sum_26 rfl rfl ?_
  refine go_iadd (pc := 27) dX10_sum_27 ?_
  refine go_top (y := 10105) (by decide) ?_
  refine go_iald (pc := 28) (gz_b (by omega)) (va_up_self _ _ _) (gv_in (by decide)) dX10_sum_28 ?_
  refine go_top (y := (-1)) rfl ?_
  refine go_iadd (pc := 29) dX10_sum_29 ?_
  refine go_top (y := 857920225) (by decide) ?_
  refine go_istore_n (pc := 30) (lv' := [(1, .int 857920225), (2, .int 5), (0, .ref (G.2.1 + 32))]) dX10_sum_30 rfl (by decide) rfl ?_
  refine go_iinc (pc := 31) (v := 6) (lv' := [(2, .int 6), (1, .int 857920225), (0, .ref (G.2.1 + 32))]) dX10_sum_31 1 rfl (by first | rfl | decide) (by decide) rfl ?_
  refine go_goto (pc := 34) (tgt := 4) dX10_sum_34 (by decide) ?_
  refine go_iload_n (pc := 4) dX10_sum_4 rfl rfl ?_
  refine go_aload_n (pc := 5) dX10_sum_5 rfl rfl ?_
  refine go_get (pc := 6) fX10_9 rfl (gz_b (by omega)) ((va_up_ne _ _ (gz_ne (by decide))).trans ((hw 32 (by decide) (by decide)).trans (wl_at (i := 32) rfl))) rfl dX10_sum_6 ?_
  refine go_bipush (pc := 9) (v := 15) dX10_sum_9 (by decide) ?_
  refine go_iald (pc := 11) (gz_b (by omega)) (va_up_self _ _ _) (gv_in (by decide)) dX10_sum_11 ?_
  refine go_top (y := 26) rfl ?_
  refine go_icmp_ge_f (pc := 12) (tgt := 37) dX10_sum_12 (by decide) (by decide) ?_
  refine go_bipush (pc := 15) (v := 31) dX10_sum_15 (by decide) ?_
  refine go_iload_n (pc := 17) dX10_sum_17 rfl rfl ?_
  refine go_imul (pc := 18) dX10_sum_18 ?_
  refine go_top (y := 825723199) (by decide) ?_
  refine go_aload_n (pc := 19) dX10_sum_19 rfl rfl ?_
  refine go_get (pc := 20) fX10_9 rfl (gz_b (by omega)) ((va_up_ne _ _ (gz_ne (by decide))).trans ((hw 32 (by decide) (by decide)).trans (wl_at (i := 32) rfl))) rfl dX10_sum_20 ?_
  refine go_sipush (pc := 23) (v := 10100) dX10_sum_23 (by decide) ?_
  refine go_iload_n (pc := 26) dX10_sum_26 rfl rfl ?_
  refine go_iadd (pc := 27) dX10_sum_27 ?_
  refine go_top (y := 10106) (by decide) ?_
  refine go_iald (pc := 28) (gz_b (by omega)) (va_up_self _ _ _) (gv_in (by decide)) dX10_sum_28 ?_
  refine go_top (y := (-1)) rfl ?_
  refine go_iadd (pc := 29) dX10_sum_29 ?_
  refine go_top (y := 825723198) (by decide) ?_
  refine go_istore_n (pc := 30) (lv' := [(1, .int 825723198), (2, .int 6), (0, .ref (G.2.1 + 32))]) dX10_sum_30 rfl (by decide) rfl ?_
  refine go_iinc (pc := 31) (v := 7) (lv' := [(2, .int 7), (1, .int 825723198), (0, .ref (G.2.1 + 32))]) dX10_sum_31 1 rfl (by first | rfl | decide) (by decide) rfl ?_
  refine go_goto (pc := 34) (tgt := 4) dX10_sum_34 (by decide) ?_
  refine go_iload_n (pc := 4) dX10_sum_4 rfl rfl ?_
  refine go_aload_n (pc := 5) dX10_sum_5 rfl rfl ?_
  refine go_get (pc := 6) fX10_9 rfl (gz_b (by omega)) ((va_up_ne _ _ (gz_ne (by decide))).trans ((hw 32 (by decide) (by decide)).trans (wl_at (i := 32) rfl))) rfl dX10_sum_6 ?_
  refine go_bipush (pc := 9) (v := 15) dX10_sum_9 (by decide) ?_
  refine go_iald (pc := 11) (gz_b (by omega)) (va_up_self _ _ _) (gv_in (by decide)) dX10_sum_11 ?_
  refine go_top (y := 26) rfl ?_
  refine go_icmp_ge_f (pc := 12) (tgt := 37) dX10_sum_12 (by decide) (by decide) ?_
  refine go_bipush (pc := 15) (v := 31) dX10_sum_15 (by decide) ?_
  refine go_iload_n (pc := 17) dX10_sum_17 rfl rfl ?_
  refine go_imul (pc := 18) dX10_sum_18 ?_
  refine go_top (y := (-172384638)) (by decide) ?_
  refine go_aload_n (pc := 19) dX10_sum_19 rfl rfl ?_
  refine go_get (pc := 20) fX10_9 rfl (gz_b (by omega)) ((va_up_ne _ _ (gz_ne (by decide))).trans ((hw 32 (by decide) (by decide)).trans (wl_at (i := 32) rfl))) rfl dX10_sum_20 ?_
  refine go_sipush (pc := 23) (v := 10100) dX10_sum_23 (by decide) ?_
  refine go_iload_n (pc := 26) dX10_sum_26 rfl rfl ?_
  refine go_iadd (pc := 27) dX10_sum_27 ?_
  refine go_top (y := 10107) (by decide) ?_
  refine go_iald (pc := 28) (gz_b (by omega)) (va_up_self _ _ _) (gv_in (by decide)) dX10_sum_28 ?_
  refine go_top (y := (-1)) rfl ?_
  refine go_iadd (pc := 29) dX10_sum_29 ?_
  refine go_top (y := (-172384639)) (by decide) ?_
  refine go_istore_n (pc := 30) (lv' := [(1, .int ((-172384639))), (2, .int 7), (0, .ref (G.2.1 + 32))]) dX10_sum_30 rfl (by decide) rfl ?_
  refine go_iinc (pc := 31) (v := 8) (lv' := [(2, .int 8), (1, .int ((-172384639))), (0, .ref (G.2.1 + 32))]) dX10_sum_31 1 rfl (by first | rfl | decide) (by decide) rfl ?_
  refine go_goto (pc := 34) (tgt := 4) dX10_sum_34 (by decide) ?_
  refine go_iload_n (pc := 4) dX10_sum_4 rfl rfl ?_
  refine go_aload_n (pc := 5) dX10_sum_5 rfl rfl ?_
  refine go_get (pc := 6) fX10_9 rfl (gz_b (by omega)) ((va_up_ne _ _ (gz_ne (by decide))).trans ((hw 32 (by decide) (by decide)).trans (wl_at (i := 32) rfl))) rfl dX10_sum_6 ?_
  refine go_bipush (pc := 9) (v := 15) dX10_sum_9 (by decide) ?_
  refine go_iald (pc := 11) (gz_b (by omega)) (va_up_self _ _ _) (gv_in (by decide)) dX10_sum_11 ?_
  refine go_top (y := 26) rfl ?_
  refine go_icmp_ge_f (pc := 12) (tgt := 37) dX10_sum_12 (by decide) (by decide) ?_
  refine go_bipush (pc := 15) (v := 31) dX10_sum_15 (by decide) ?_
  refine go_iload_n (pc := 17) dX10_sum_17 rfl rfl ?_
  refine go_imul (pc := 18) dX10_sum_18 ?_
  refine go_top (y := (-1048956513)) (by decide) ?_
  refine go_aload_n (pc := 19) dX10_sum_19 rfl rfl ?_
  refine go_get (pc := 20) fX10_9 rfl (gz_b (by omega)) ((va_up_ne _ _ (gz_ne (by decide))).trans ((hw 32 (by decide) (by decide)).trans (wl_at (i := 32) rfl))) rfl dX10_sum_20 ?_
  refine go_sipush (pc := 23) (v := 10100) dX10_sum_23 (by decide) ?_
  refine go_iload_n (pc := 26) dX10_sum_26 rfl rfl ?_
  refine go_iadd (pc := 27) dX10_sum_27 ?_
  refine go_top (y := 10108) (by decide) ?_
  refine go_iald (pc := 28) (gz_b (by omega)) (va_up_self _ _ _) (gv_in (by decide)) dX10_sum_28 ?_
  refine go_top (y := (-1)) rfl ?_
  refine go_iadd (pc := 29) dX10_sum_29 ?_
  refine go_top (y := (-1048956514)) (by decide) ?_
  refine go_istore_n (pc := 30) (lv' := [(1, .int ((-1048956514))), (2, .int 8), (0, .ref (G.2.1 + 32))]) dX10_sum_30 rfl (by decide) rfl ?_
  refine go_iinc (pc := 31) (v := 9) (lv' := [(2, .int 9), (1, .int ((-1048956514))), (0, .ref (G.2.1 + 32))]) dX10_sum_31 1 rfl (by first | rfl | decide) (by decide) rfl ?_
  refine go_goto (pc := 34) (tgt := 4) dX10_sum_34 (by decide) ?_
  refine go_iload_n (pc := 4) dX10_sum_4 rfl rfl ?_
  refine go_aload_n (pc := 5) dX10_sum_5 rfl rfl ?_
  refine go_get (pc := 6) fX10_9 rfl (gz_b (by omega)) ((va_up_ne _ _ (gz_ne (by decide))).trans ((hw 32 (by decide) (by decide)).trans (wl_at (i := 32) rfl))) rfl dX10_sum_6 ?_
  refine go_bipush (pc := 9) (v := 15) dX10_sum_9 (by decide) ?_
  refine go_iald (pc := 11) (gz_b (by omega)) (va_up_self _ _ _) (gv_in (by decide)) dX10_sum_11 ?_
  refine go_top (y := 26) rfl ?_
  refine go_icmp_ge_f (pc := 12) (tgt := 37) dX10_sum_12 (by decide) (by decide) ?_
  refine go_bipush (pc := 15) (v := 31) dX10_sum_15 (by decide) ?_
  refine go_iload_n (pc := 17) dX10_sum_17 rfl rfl ?_
  refine go_imul (pc := 18) dX10_sum_18 ?_
  refine go_top (y := 1842086434) (by decide) ?_
  refine go_aload_n (pc := 19) dX10_sum_19 rfl rfl ?_
  refine go_get (pc := 20) fX10_9 rfl (gz_b (by omega)) ((va_up_ne _ _ (gz_ne (by decide))).trans ((hw 32 (by decide) (by decide)).trans (wl_at (i := 32) rfl))) rfl dX10_sum_20 ?_
  refine go_sipush (pc := 23) (v := 10100) dX10_sum_23 (by decide) ?_
  refine go_iload_n (pc := 26) dX10_sum_26 rfl rfl ?_
  refine go_iadd (pc := 27) dX10_sum_27 ?_
  refine go_top (y := 10109) (by decide) ?_
  refine go_iald (pc := 28) (gz_b (by omega)) (va_up_self _ _ _) (gv_in (by decide)) dX10_sum_28 ?_
  refine go_top (y := (-1)) rfl ?_
  refine go_iadd (pc := 29) dX10_sum_29 ?_
  refine go_top (y := 1842086433) (by decide) ?_
  refine go_istore_n (pc := 30) (lv' := [(1, .int 1842086433), (2, .int 9), (0, .ref (G.2.1 + 32))]) dX10_sum_30 rfl (by decide) rfl ?_
  refine go_iinc (pc := 31) (v := 10) (lv' := [(2, .int 10), (1, .int 1842086433), (0, .ref (G.2.1 + 32))]) dX10_sum_31 1 rfl (by first | rfl | decide) (by decide) rfl ?_
  refine go_goto (pc := 34) (tgt := 4) dX10_sum_34 (by decide) ?_
  refine go_iload_n (pc := 4) dX10_sum_4 rfl rfl ?_
  refine go_aload_n (pc := 5) dX10_sum_5 rfl rfl ?_
  refine go_get (pc := 6) fX10_9 rfl (gz_b (by omega)) ((va_up_ne _ _ (gz_ne (by decide))).trans ((hw 32 (by decide) (by decide)).trans (wl_at (i := 32) rfl))) rfl dX10_sum_6 ?_
  refine go_bipush (pc := 9) (v := 15) dX10_sum_9 (by decide) ?_
  refine go_iald (pc := 11) (gz_b (by omega)) (va_up_self _ _ _) (gv_in (by decide)) dX10_sum_11 ?_
  refine go_top (y := 26) rfl ?_
  refine go_icmp_ge_f (pc := 12) (tgt := 37) dX10_sum_12 (by decide) (by decide) ?_
  refine go_bipush (pc := 15) (v := 31) dX10_sum_15 (by decide) ?_
  refine go_iload_n (pc := 17) dX10_sum_17 rfl rfl ?_
  refine go_imul (pc := 18) dX10_sum_18 ?_
  refine go_top (y := 1270104575) (by decide) ?_
  refine go_aload_n (pc := 19) dX10_sum_19 rfl rfl ?_
  refine go_get (pc := 20) fX10_9 rfl (gz_b (by omega)) ((va_up_ne _ _ (gz_ne (by decide))).trans ((hw 32 (by decide) (by decide)).trans (wl_at (i := 32) rfl))) rfl dX10_sum_20 ?_
  refine go_sipush (pc := 23) (v := 10100) dX10_sum_23 (by decide) ?_
  refine go_iload_n (pc := 26) dX10_sum_26 rfl rfl ?_
  refine go_iadd (pc := 27) dX10_sum_27 ?_
  refine go_top (y := 10110) (by decide) ?_
  refine go_iald (pc := 28) (gz_b (by omega)) (va_up_self _ _ _) (gv_in (by decide)) dX10_sum_28 ?_
  refine go_top (y := (-1)) rfl ?_
  refine go_iadd (pc := 29) dX10_sum_29 ?_
  refine go_top (y := 1270104574) (by decide) ?_
  refine go_istore_n (pc := 30) (lv' := [(1, .int 1270104574), (2, .int 10), (0, .ref (G.2.1 + 32))]) dX10_sum_30 rfl (by decide) rfl ?_
  refine go_iinc (pc := 31) (v := 11) (lv' := [(2, .int 11), (1, .int 1270104574), (0, .ref (G.2.1 + 32))]) dX10_sum_31 1 rfl (by first | rfl | decide) (by decide) rfl ?_
  refine go_goto (pc := 34) (tgt := 4) dX10_sum_34 (by decide) ?_
  refine go_iload_n (pc := 4) dX10_sum_4 rfl rfl ?_
  refine go_aload_n (pc := 5) dX10_sum_5 rfl rfl ?_
  refine go_get (pc := 6) fX10_9 rfl (gz_b (by omega)) ((va_up_ne _ _ (gz_ne (by decide))).trans ((hw 32 (by decide) (by decide)).trans (wl_at (i := 32) rfl))) rfl dX10_sum_6 ?_
  refine go_bipush (pc := 9) (v := 15) dX10_sum_9 (by decide) ?_
  refine go_iald (pc := 11) (gz_b (by omega)) (va_up_self _ _ _) (gv_in (by decide)) dX10_sum_11 ?_
  refine go_top (y := 26) rfl ?_
  refine go_icmp_ge_f (pc := 12) (tgt := 37) dX10_sum_12 (by decide) (by decide) ?_
  refine go_bipush (pc := 15) (v := 31) dX10_sum_15 (by decide) ?_
  refine go_iload_n (pc := 17) dX10_sum_17 rfl rfl ?_
  refine go_imul (pc := 18) dX10_sum_18 ?_
  refine go_top (y := 718536130) (by decide) ?_
  refine go_aload_n (pc := 19) dX10_sum_19 rfl rfl ?_
  refine go_get (pc := 20) fX10_9 rfl (gz_b (by omega)) ((va_up_ne _ _ (gz_ne (by decide))).trans ((hw 32 (by decide) (by decide)).trans (wl_at (i := 32) rfl))) rfl dX10_sum_20 ?_
  refine go_sipush (pc := 23) (v := 10100) dX10_sum_23 (by decide) ?_
  refine go_iload_n (pc := 26) dX10_sum_26 rfl rfl ?_
  refine go_iadd (pc := 27) dX10_sum_27 ?_
  refine go_top (y := 10111) (by decide) ?_
  refine go_iald (pc := 28) (gz_b (by omega)) (va_up_self _ _ _) (gv_in (by decide)) dX10_sum_28 ?_
  refine go_top (y := (-1)) rfl ?_
  refine go_iadd (pc := 29) dX10_sum_29 ?_
  refine go_top (y := 718536129) (by decide) ?_
  refine go_istore_n (pc := 30) (lv' := [(1, .int 718536129), (2, .int 11), (0, .ref (G.2.1 + 32))]) dX10_sum_30 rfl (by decide) rfl ?_
  refine go_iinc (pc := 31) (v := 12) (lv' := [(2, .int 12), (1, .int 718536129), (0, .ref (G.2.1 + 32))]) dX10_sum_31 1 rfl (by first | rfl | decide) (by decide) rfl ?_
  refine go_goto (pc := 34) (tgt := 4) dX10_sum_34 (by decide) ?_
  refine go_iload_n (pc := 4) dX10_sum_4 rfl rfl ?_
  refine go_aload_n (pc := 5) dX10_sum_5 rfl rfl ?_
  refine go_get (pc := 6) fX10_9 rfl (gz_b (by omega)) ((va_up_ne _ _ (gz_ne (by decide))).trans ((hw 32 (by decide) (by decide)).trans (wl_at (i := 32) rfl))) rfl dX10_sum_6 ?_
  refine go_bipush (pc := 9) (v := 15) dX10_sum_9 (by decide) ?_
  refine go_iald (pc := 11) (gz_b (by omega)) (va_up_self _ _ _) (gv_in (by decide)) dX10_sum_11 ?_
  refine go_top (y := 26) rfl ?_
  refine go_icmp_ge_f (pc := 12) (tgt := 37) dX10_sum_12 (by decide) (by decide) ?_
  refine go_bipush (pc := 15) (v := 31) dX10_sum_15 (by decide) ?_
  refine go_iload_n (pc := 17) dX10_sum_17 rfl rfl ?_
  refine go_imul (pc := 18) dX10_sum_18 ?_
  refine go_top (y := 799783519) (by decide) ?_
  refine go_aload_n (pc := 19) dX10_sum_19 rfl rfl ?_
  refine go_get (pc := 20) fX10_9 rfl (gz_b (by omega)) ((va_up_ne _ _ (gz_ne (by decide))).trans ((hw 32 (by decide) (by decide)).trans (wl_at (i := 32) rfl))) rfl dX10_sum_20 ?_
  refine go_sipush (pc := 23) (v := 10100) dX10_sum_23 (by decide) ?_
  refine go_iload_n (pc := 26) dX10_sum_26 rfl rfl ?_
  refine go_iadd (pc := 27) dX10_sum_27 ?_
  refine go_top (y := 10112) (by decide) ?_
  refine go_iald (pc := 28) (gz_b (by omega)) (va_up_self _ _ _) (gv_in (by decide)) dX10_sum_28 ?_
  refine go_top (y := (-1)) rfl ?_
  refine go_iadd (pc := 29) dX10_sum_29 ?_
  refine go_top (y := 799783518) (by decide) ?_
  refine go_istore_n (pc := 30) (lv' := [(1, .int 799783518), (2, .int 12), (0, .ref (G.2.1 + 32))]) dX10_sum_30 rfl (by decide) rfl ?_
  refine go_iinc (pc := 31) (v := 13) (lv' := [(2, .int 13), (1, .int 799783518), (0, .ref (G.2.1 + 32))]) dX10_sum_31 1 rfl (by first | rfl | decide) (by decide) rfl ?_
  refine go_goto (pc := 34) (tgt := 4) dX10_sum_34 (by decide) ?_
  refine go_iload_n (pc := 4) dX10_sum_4 rfl rfl ?_
  refine go_aload_n (pc := 5) dX10_sum_5 rfl rfl ?_
  refine go_get (pc := 6) fX10_9 rfl (gz_b (by omega)) ((va_up_ne _ _ (gz_ne (by decide))).trans ((hw 32 (by decide) (by decide)).trans (wl_at (i := 32) rfl))) rfl dX10_sum_6 ?_
  refine go_bipush (pc := 9) (v := 15) dX10_sum_9 (by decide) ?_
  refine go_iald (pc := 11) (gz_b (by omega)) (va_up_self _ _ _) (gv_in (by decide)) dX10_sum_11 ?_
  refine go_top (y := 26) rfl ?_
  refine go_icmp_ge_f (pc := 12) (tgt := 37) dX10_sum_12 (by decide) (by decide) ?_
  refine go_bipush (pc := 15) (v := 31) dX10_sum_15 (by decide) ?_
  refine go_iload_n (pc := 17) dX10_sum_17 rfl rfl ?_
  refine go_imul (pc := 18) dX10_sum_18 ?_
  refine go_top (y := (-976514718)) (by decide) ?_
  refine go_aload_n (pc := 19) dX10_sum_19 rfl rfl ?_
  refine go_get (pc := 20) fX10_9 rfl (gz_b (by omega)) ((va_up_ne _ _ (gz_ne (by decide))).trans ((hw 32 (by decide) (by decide)).trans (wl_at (i := 32) rfl))) rfl dX10_sum_20 ?_
  refine go_sipush (pc := 23) (v := 10100) dX10_sum_23 (by decide) ?_
  refine go_iload_n (pc := 26) dX10_sum_26 rfl rfl ?_
  refine go_iadd (pc := 27) dX10_sum_27 ?_
  refine go_top (y := 10113) (by decide) ?_
  refine go_iald (pc := 28) (gz_b (by omega)) (va_up_self _ _ _) (gv_in (by decide)) dX10_sum_28 ?_
  refine go_top (y := (-1)) rfl ?_
  refine go_iadd (pc := 29) dX10_sum_29 ?_
  refine go_top (y := (-976514719)) (by decide) ?_
  refine go_istore_n (pc := 30) (lv' := [(1, .int ((-976514719))), (2, .int 13), (0, .ref (G.2.1 + 32))]) dX10_sum_30 rfl (by decide) rfl ?_
  refine go_iinc (pc := 31) (v := 14) (lv' := [(2, .int 14), (1, .int ((-976514719))), (0, .ref (G.2.1 + 32))]) dX10_sum_31 1 rfl (by first | rfl | decide) (by decide) rfl ?_
  refine go_goto (pc := 34) (tgt := 4) dX10_sum_34 (by decide) ?_
  refine go_iload_n (pc := 4) dX10_sum_4 rfl rfl ?_
  refine go_aload_n (pc := 5) dX10_sum_5 rfl rfl ?_
  refine go_get (pc := 6) fX10_9 rfl (gz_b (by omega)) ((va_up_ne _ _ (gz_ne (by decide))).trans ((hw 32 (by decide) (by decide)).trans (wl_at (i := 32) rfl))) rfl dX10_sum_6 ?_
  refine go_bipush (pc := 9) (v := 15) dX10_sum_9 (by decide) ?_
  refine go_iald (pc := 11) (gz_b (by omega)) (va_up_self _ _ _) (gv_in (by decide)) dX10_sum_11 ?_
  refine go_top (y := 26) rfl ?_
  refine go_icmp_ge_f (pc := 12) (tgt := 37) dX10_sum_12 (by decide) (by decide) ?_
  refine go_bipush (pc := 15) (v := 31) dX10_sum_15 (by decide) ?_
  refine go_iload_n (pc := 17) dX10_sum_17 rfl rfl ?_
  refine go_imul (pc := 18) dX10_sum_18 ?_
  refine go_top (y := (-207185217)) (by decide) ?_
  refine go_aload_n (pc := 19) dX10_sum_19 rfl rfl ?_
  refine go_get (pc := 20) fX10_9 rfl (gz_b (by omega)) ((va_up_ne _ _ (gz_ne (by decide))).trans ((hw 32 (by decide) (by decide)).trans (wl_at (i := 32) rfl))) rfl dX10_sum_20 ?_
  refine go_sipush (pc := 23) (v := 10100) dX10_sum_23 (by decide) ?_
  refine go_iload_n (pc := 26) dX10_sum_26 rfl rfl ?_
  refine go_iadd (pc := 27) dX10_sum_27 ?_
  refine go_top (y := 10114) (by decide) ?_
  refine go_iald (pc := 28) (gz_b (by omega)) (va_up_self _ _ _) (gv_in (by decide)) dX10_sum_28 ?_
  refine go_top (y := (-1)) rfl ?_
  refine go_iadd (pc := 29) dX10_sum_29 ?_
  refine go_top (y := (-207185218)) (by decide) ?_
  refine go_istore_n (pc := 30) (lv' := [(1, .int ((-207185218))), (2, .int 14), (0, .ref (G.2.1 + 32))]) dX10_sum_30 rfl (by decide) rfl ?_
  refine go_iinc (pc := 31) (v := 15) (lv' := [(2, .int 15), (1, .int ((-207185218))), (0, .ref (G.2.1 + 32))]) dX10_sum_31 1 rfl (by first | rfl | decide) (by decide) rfl ?_
  refine go_goto (pc := 34) (tgt := 4) dX10_sum_34 (by decide) ?_
  refine go_iload_n (pc := 4) dX10_sum_4 rfl rfl ?_
  refine go_aload_n (pc := 5) dX10_sum_5 rfl rfl ?_
  refine go_get (pc := 6) fX10_9 rfl (gz_b (by omega)) ((va_up_ne _ _ (gz_ne (by decide))).trans ((hw 32 (by decide) (by decide)).trans (wl_at (i := 32) rfl))) rfl dX10_sum_6 ?_
  refine go_bipush (pc := 9) (v := 15) dX10_sum_9 (by decide) ?_
  refine go_iald (pc := 11) (gz_b (by omega)) (va_up_self _ _ _) (gv_in (by decide)) dX10_sum_11 ?_
  refine go_top (y := 26) rfl ?_
  refine go_icmp_ge_f (pc := 12) (tgt := 37) dX10_sum_12 (by decide) (by decide) ?_
  refine go_bipush (pc := 15) (v := 31) dX10_sum_15 (by decide) ?_
  refine go_iload_n (pc := 17) dX10_sum_17 rfl rfl ?_
  refine go_imul (pc := 18) dX10_sum_18 ?_
  refine go_top (y := (-2127774462)) (by decide) ?_
  refine go_aload_n (pc := 19) dX10_sum_19 rfl rfl ?_
  refine go_get (pc := 20) fX10_9 rfl (gz_b (by omega)) ((va_up_ne _ _ (gz_ne (by decide))).trans ((hw 32 (by decide) (by decide)).trans (wl_at (i := 32) rfl))) rfl dX10_sum_20 ?_
  refine go_sipush (pc := 23) (v := 10100) dX10_sum_23 (by decide) ?_
  refine go_iload_n (pc := 26) dX10_sum_26 rfl rfl ?_
  refine go_iadd (pc := 27) dX10_sum_27 ?_
  refine go_top (y := 10115) (by decide) ?_
  refine go_iald (pc := 28) (gz_b (by omega)) (va_up_self _ _ _) (gv_in (by decide)) dX10_sum_28 ?_
  refine go_top (y := (-1)) rfl ?_
  refine go_iadd (pc := 29) dX10_sum_29 ?_
  refine go_top (y := (-2127774463)) (by decide) ?_
  refine go_istore_n (pc := 30) (lv' := [(1, .int ((-2127774463))), (2, .int 15), (0, .ref (G.2.1 + 32))]) dX10_sum_30 rfl (by decide) rfl ?_
  refine go_iinc (pc := 31) (v := 16) (lv' := [(2, .int 16), (1, .int ((-2127774463))), (0, .ref (G.2.1 + 32))]) dX10_sum_31 1 rfl (by first | rfl | decide) (by decide) rfl ?_
  refine go_goto (pc := 34) (tgt := 4) dX10_sum_34 (by decide) ?_
  refine go_iload_n (pc := 4) dX10_sum_4 rfl rfl ?_
  refine go_aload_n (pc := 5) dX10_sum_5 rfl rfl ?_
  refine go_get (pc := 6) fX10_9 rfl (gz_b (by omega)) ((va_up_ne _ _ (gz_ne (by decide))).trans ((hw 32 (by decide) (by decide)).trans (wl_at (i := 32) rfl))) rfl dX10_sum_6 ?_
  refine go_bipush (pc := 9) (v := 15) dX10_sum_9 (by decide) ?_
  refine go_iald (pc := 11) (gz_b (by omega)) (va_up_self _ _ _) (gv_in (by decide)) dX10_sum_11 ?_
  refine go_top (y := 26) rfl ?_
  refine go_icmp_ge_f (pc := 12) (tgt := 37) dX10_sum_12 (by decide) (by decide) ?_
  refine go_bipush (pc := 15) (v := 31) dX10_sum_15 (by decide) ?_
  refine go_iload_n (pc := 17) dX10_sum_17 rfl rfl ?_
  refine go_imul (pc := 18) dX10_sum_18 ?_
  refine go_top (y := (-1536498913)) (by decide) ?_
  refine go_aload_n (pc := 19) dX10_sum_19 rfl rfl ?_
  refine go_get (pc := 20) fX10_9 rfl (gz_b (by omega)) ((va_up_ne _ _ (gz_ne (by decide))).trans ((hw 32 (by decide) (by decide)).trans (wl_at (i := 32) rfl))) rfl dX10_sum_20 ?_
  refine go_sipush (pc := 23) (v := 10100) dX10_sum_23 (by decide) ?_
  refine go_iload_n (pc := 26) dX10_sum_26 rfl rfl ?_
  refine go_iadd (pc := 27) dX10_sum_27 ?_
  refine go_top (y := 10116) (by decide) ?_
  refine go_iald (pc := 28) (gz_b (by omega)) (va_up_self _ _ _) (gv_in (by decide)) dX10_sum_28 ?_
  refine go_top (y := (-1)) rfl ?_
  refine go_iadd (pc := 29) dX10_sum_29 ?_
  refine go_top (y := (-1536498914)) (by decide) ?_
  refine go_istore_n (pc := 30) (lv' := [(1, .int ((-1536498914))), (2, .int 16), (0, .ref (G.2.1 + 32))]) dX10_sum_30 rfl (by decide) rfl ?_
  refine go_iinc (pc := 31) (v := 17) (lv' := [(2, .int 17), (1, .int ((-1536498914))), (0, .ref (G.2.1 + 32))]) dX10_sum_31 1 rfl (by first | rfl | decide) (by decide) rfl ?_
  refine go_goto (pc := 34) (tgt := 4) dX10_sum_34 (by decide) ?_
  refine go_iload_n (pc := 4) dX10_sum_4 rfl rfl ?_
  refine go_aload_n (pc := 5) dX10_sum_5 rfl rfl ?_
  refine go_get (pc := 6) fX10_9 rfl (gz_b (by omega)) ((va_up_ne _ _ (gz_ne (by decide))).trans ((hw 32 (by decide) (by decide)).trans (wl_at (i := 32) rfl))) rfl dX10_sum_6 ?_
  refine go_bipush (pc := 9) (v := 15) dX10_sum_9 (by decide) ?_
  refine go_iald (pc := 11) (gz_b (by omega)) (va_up_self _ _ _) (gv_in (by decide)) dX10_sum_11 ?_
  refine go_top (y := 26) rfl ?_
  refine go_icmp_ge_f (pc := 12) (tgt := 37) dX10_sum_12 (by decide) (by decide) ?_
  refine go_bipush (pc := 15) (v := 31) dX10_sum_15 (by decide) ?_
  refine go_iload_n (pc := 17) dX10_sum_17 rfl rfl ?_
  refine go_imul (pc := 18) dX10_sum_18 ?_
  refine go_top (y := (-386826078)) (by decide) ?_
  refine go_aload_n (pc := 19) dX10_sum_19 rfl rfl ?_
  refine go_get (pc := 20) fX10_9 rfl (gz_b (by omega)) ((va_up_ne _ _ (gz_ne (by decide))).trans ((hw 32 (by decide) (by decide)).trans (wl_at (i := 32) rfl))) rfl dX10_sum_20 ?_
  refine go_sipush (pc := 23) (v := 10100) dX10_sum_23 (by decide) ?_
  refine go_iload_n (pc := 26) dX10_sum_26 rfl rfl ?_
  refine go_iadd (pc := 27) dX10_sum_27 ?_
  refine go_top (y := 10117) (by decide) ?_
  refine go_iald (pc := 28) (gz_b (by omega)) (va_up_self _ _ _) (gv_in (by decide)) dX10_sum_28 ?_
  refine go_top (y := (-1)) rfl ?_
  refine go_iadd (pc := 29) dX10_sum_29 ?_
  refine go_top (y := (-386826079)) (by decide) ?_
  refine go_istore_n (pc := 30) (lv' := [(1, .int ((-386826079))), (2, .int 17), (0, .ref (G.2.1 + 32))]) dX10_sum_30 rfl (by decide) rfl ?_
  refine go_iinc (pc := 31) (v := 18) (lv' := [(2, .int 18), (1, .int ((-386826079))), (0, .ref (G.2.1 + 32))]) dX10_sum_31 1 rfl (by first | rfl | decide) (by decide) rfl ?_
  refine go_goto (pc := 34) (tgt := 4) dX10_sum_34 (by decide) ?_
  refine go_iload_n (pc := 4) dX10_sum_4 rfl rfl ?_
  refine go_aload_n (pc := 5) dX10_sum_5 rfl rfl ?_
  refine go_get (pc := 6) fX10_9 rfl (gz_b (by omega)) ((va_up_ne _ _ (gz_ne (by decide))).trans ((hw 32 (by decide) (by decide)).trans (wl_at (i := 32) rfl))) rfl dX10_sum_6 ?_
  refine go_bipush (pc := 9) (v := 15) dX10_sum_9 (by decide) ?_
  refine go_iald (pc := 11) (gz_b (by omega)) (va_up_self _ _ _) (gv_in (by decide)) dX10_sum_11 ?_
  refine go_top (y := 26) rfl ?_
  refine go_icmp_ge_f (pc := 12) (tgt := 37) dX10_sum_12 (by decide) (by decide) ?_
  refine go_bipush (pc := 15) (v := 31) dX10_sum_15 (by decide) ?_
  refine go_iload_n (pc := 17) dX10_sum_17 rfl rfl ?_
  refine go_imul (pc := 18) dX10_sum_18 ?_
  refine go_top (y := 893293439) (by decide) ?_
  refine go_aload_n (pc := 19) dX10_sum_19 rfl rfl ?_
  refine go_get (pc := 20) fX10_9 rfl (gz_b (by omega)) ((va_up_ne _ _ (gz_ne (by decide))).trans ((hw 32 (by decide) (by decide)).trans (wl_at (i := 32) rfl))) rfl dX10_sum_20 ?_
  refine go_sipush (pc := 23) (v := 10100) dX10_sum_23 (by decide) ?_
  refine go_iload_n (pc := 26) dX10_sum_26 rfl rfl ?_
  refine go_iadd (pc := 27) dX10_sum_27 ?_
  refine go_top (y := 10118) (by decide) ?_
  refine go_iald (pc := 28) (gz_b (by omega)) (va_up_self _ _ _) (gv_in (by decide)) dX10_sum_28 ?_
  refine go_top (y := (-1)) rfl ?_
  refine go_iadd (pc := 29) dX10_sum_29 ?_
  refine go_top (y := 893293438) (by decide) ?_
  refine go_istore_n (pc := 30) (lv' := [(1, .int 893293438), (2, .int 18), (0, .ref (G.2.1 + 32))]) dX10_sum_30 rfl (by decide) rfl ?_
  refine go_iinc (pc := 31) (v := 19) (lv' := [(2, .int 19), (1, .int 893293438), (0, .ref (G.2.1 + 32))]) dX10_sum_31 1 rfl (by first | rfl | decide) (by decide) rfl ?_
  refine go_goto (pc := 34) (tgt := 4) dX10_sum_34 (by decide) ?_
  refine go_iload_n (pc := 4) dX10_sum_4 rfl rfl ?_
  refine go_aload_n (pc := 5) dX10_sum_5 rfl rfl ?_
  refine go_get (pc := 6) fX10_9 rfl (gz_b (by omega)) ((va_up_ne _ _ (gz_ne (by decide))).trans ((hw 32 (by decide) (by decide)).trans (wl_at (i := 32) rfl))) rfl dX10_sum_6 ?_
  refine go_bipush (pc := 9) (v := 15) dX10_sum_9 (by decide) ?_
  refine go_iald (pc := 11) (gz_b (by omega)) (va_up_self _ _ _) (gv_in (by decide)) dX10_sum_11 ?_
  refine go_top (y := 26) rfl ?_
  refine go_icmp_ge_f (pc := 12) (tgt := 37) dX10_sum_12 (by decide) (by decide) ?_
  refine go_bipush (pc := 15) (v := 31) dX10_sum_15 (by decide) ?_
  refine go_iload_n (pc := 17) dX10_sum_17 rfl rfl ?_
  refine go_imul (pc := 18) dX10_sum_18 ?_
  refine go_top (y := 1922292802) (by decide) ?_
  refine go_aload_n (pc := 19) dX10_sum_19 rfl rfl ?_
  refine go_get (pc := 20) fX10_9 rfl (gz_b (by omega)) ((va_up_ne _ _ (gz_ne (by decide))).trans ((hw 32 (by decide) (by decide)).trans (wl_at (i := 32) rfl))) rfl dX10_sum_20 ?_
  refine go_sipush (pc := 23) (v := 10100) dX10_sum_23 (by decide) ?_
  refine go_iload_n (pc := 26) dX10_sum_26 rfl rfl ?_
  refine go_iadd (pc := 27) dX10_sum_27 ?_
  refine go_top (y := 10119) (by decide) ?_
  refine go_iald (pc := 28) (gz_b (by omega)) (va_up_self _ _ _) (gv_in (by decide)) dX10_sum_28 ?_
  refine go_top (y := (-1)) rfl ?_
  refine go_iadd (pc := 29) dX10_sum_29 ?_
  refine go_top (y := 1922292801) (by decide) ?_
  refine go_istore_n (pc := 30) (lv' := [(1, .int 1922292801), (2, .int 19), (0, .ref (G.2.1 + 32))]) dX10_sum_30 rfl (by decide) rfl ?_
  refine go_iinc (pc := 31) (v := 20) (lv' := [(2, .int 20), (1, .int 1922292801), (0, .ref (G.2.1 + 32))]) dX10_sum_31 1 rfl (by first | rfl | decide) (by decide) rfl ?_
  refine go_goto (pc := 34) (tgt := 4) dX10_sum_34 (by decide) ?_
  refine go_iload_n (pc := 4) dX10_sum_4 rfl rfl ?_
  refine go_aload_n (pc := 5) dX10_sum_5 rfl rfl ?_
  refine go_get (pc := 6) fX10_9 rfl (gz_b (by omega)) ((va_up_ne _ _ (gz_ne (by decide))).trans ((hw 32 (by decide) (by decide)).trans (wl_at (i := 32) rfl))) rfl dX10_sum_6 ?_
  refine go_bipush (pc := 9) (v := 15) dX10_sum_9 (by decide) ?_
  refine go_iald (pc := 11) (gz_b (by omega)) (va_up_self _ _ _) (gv_in (by decide)) dX10_sum_11 ?_
  refine go_top (y := 26) rfl ?_
  refine go_icmp_ge_f (pc := 12) (tgt := 37) dX10_sum_12 (by decide) (by decide) ?_
  refine go_bipush (pc := 15) (v := 31) dX10_sum_15 (by decide) ?_
  refine go_iload_n (pc := 17) dX10_sum_17 rfl rfl ?_
  refine go_imul (pc := 18) dX10_sum_18 ?_
  refine go_top (y := (-538465313)) (by decide) ?_
  refine go_aload_n (pc := 19) dX10_sum_19 rfl rfl ?_
  refine go_get (pc := 20) fX10_9 rfl (gz_b (by omega)) ((va_up_ne _ _ (gz_ne (by decide))).trans ((hw 32 (by decide) (by decide)).trans (wl_at (i := 32) rfl))) rfl dX10_sum_20 ?_
  refine go_sipush (pc := 23) (v := 10100) dX10_sum_23 (by decide) ?_
  refine go_iload_n (pc := 26) dX10_sum_26 rfl rfl ?_
  refine go_iadd (pc := 27) dX10_sum_27 ?_
  refine go_top (y := 10120) (by decide) ?_
  refine go_iald (pc := 28) (gz_b (by omega)) (va_up_self _ _ _) (gv_in (by decide)) dX10_sum_28 ?_
  refine go_top (y := (-1)) rfl ?_
  refine go_iadd (pc := 29) dX10_sum_29 ?_
  refine go_top (y := (-538465314)) (by decide) ?_
  refine go_istore_n (pc := 30) (lv' := [(1, .int ((-538465314))), (2, .int 20), (0, .ref (G.2.1 + 32))]) dX10_sum_30 rfl (by decide) rfl ?_
  refine go_iinc (pc := 31) (v := 21) (lv' := [(2, .int 21), (1, .int ((-538465314))), (0, .ref (G.2.1 + 32))]) dX10_sum_31 1 rfl (by first | rfl | decide) (by decide) rfl ?_
  refine go_goto (pc := 34) (tgt := 4) dX10_sum_34 (by decide) ?_
  refine go_iload_n (pc := 4) dX10_sum_4 rfl rfl ?_
  refine go_aload_n (pc := 5) dX10_sum_5 rfl rfl ?_
  refine go_get (pc := 6) fX10_9 rfl (gz_b (by omega)) ((va_up_ne _ _ (gz_ne (by decide))).trans ((hw 32 (by decide) (by decide)).trans (wl_at (i := 32) rfl))) rfl dX10_sum_6 ?_
  refine go_bipush (pc := 9) (v := 15) dX10_sum_9 (by decide) ?_
  refine go_iald (pc := 11) (gz_b (by omega)) (va_up_self _ _ _) (gv_in (by decide)) dX10_sum_11 ?_
  refine go_top (y := 26) rfl ?_
  refine go_icmp_ge_f (pc := 12) (tgt := 37) dX10_sum_12 (by decide) (by decide) ?_
  refine go_bipush (pc := 15) (v := 31) dX10_sum_15 (by decide) ?_
  refine go_iload_n (pc := 17) dX10_sum_17 rfl rfl ?_
  refine go_imul (pc := 18) dX10_sum_18 ?_
  refine go_top (y := 487444450) (by decide) ?_
  refine go_aload_n (pc := 19) dX10_sum_19 rfl rfl ?_
  refine go_get (pc := 20) fX10_9 rfl (gz_b (by omega)) ((va_up_ne _ _ (gz_ne (by decide))).trans ((hw 32 (by decide) (by decide)).trans (wl_at (i := 32) rfl))) rfl dX10_sum_20 ?_
  refine go_sipush (pc := 23) (v := 10100) dX10_sum_23 (by decide) ?_
  refine go_iload_n (pc := 26) dX10_sum_26 rfl rfl ?_
  refine go_iadd (pc := 27) dX10_sum_27 ?_
  refine go_top (y := 10121) (by decide) ?_
  refine go_iald (pc := 28) (gz_b (by omega)) (va_up_self _ _ _) (gv_in (by decide)) dX10_sum_28 ?_
  refine go_top (y := (-1)) rfl ?_
  refine go_iadd (pc := 29) dX10_sum_29 ?_
  refine go_top (y := 487444449) (by decide) ?_
  refine go_istore_n (pc := 30) (lv' := [(1, .int 487444449), (2, .int 21), (0, .ref (G.2.1 + 32))]) dX10_sum_30 rfl (by decide) rfl ?_
  refine go_iinc (pc := 31) (v := 22) (lv' := [(2, .int 22), (1, .int 487444449), (0, .ref (G.2.1 + 32))]) dX10_sum_31 1 rfl (by first | rfl | decide) (by decide) rfl ?_
  refine go_goto (pc := 34) (tgt := 4) dX10_sum_34 (by decide) ?_
  refine go_iload_n (pc := 4) dX10_sum_4 rfl rfl ?_
  refine go_aload_n (pc := 5) dX10_sum_5 rfl rfl ?_
  refine go_get (pc := 6) fX10_9 rfl (gz_b (by omega)) ((va_up_ne _ _ (gz_ne (by decide))).trans ((hw 32 (by decide) (by decide)).trans (wl_at (i := 32) rfl))) rfl dX10_sum_6 ?_
  refine go_bipush (pc := 9) (v := 15) dX10_sum_9 (by decide) ?_
  refine go_iald (pc := 11) (gz_b (by omega)) (va_up_self _ _ _) (gv_in (by decide)) dX10_sum_11 ?_
  refine go_top (y := 26) rfl ?_
  refine go_icmp_ge_f (pc := 12) (tgt := 37) dX10_sum_12 (by decide) (by decide) ?_
  refine go_bipush (pc := 15) (v := 31) dX10_sum_15 (by decide) ?_
  refine go_iload_n (pc := 17) dX10_sum_17 rfl rfl ?_
  refine go_imul (pc := 18) dX10_sum_18 ?_
  refine go_top (y := (-2069091265)) (by decide) ?_
  refine go_aload_n (pc := 19) dX10_sum_19 rfl rfl ?_
  refine go_get (pc := 20) fX10_9 rfl (gz_b (by omega)) ((va_up_ne _ _ (gz_ne (by decide))).trans ((hw 32 (by decide) (by decide)).trans (wl_at (i := 32) rfl))) rfl dX10_sum_20 ?_
  refine go_sipush (pc := 23) (v := 10100) dX10_sum_23 (by decide) ?_
  refine go_iload_n (pc := 26) dX10_sum_26 rfl rfl ?_
  refine go_iadd (pc := 27) dX10_sum_27 ?_
  refine go_top (y := 10122) (by decide) ?_
  refine go_iald (pc := 28) (gz_b (by omega)) (va_up_self _ _ _) (gv_in (by decide)) dX10_sum_28 ?_
  refine go_top (y := (-1)) rfl ?_
  refine go_iadd (pc := 29) dX10_sum_29 ?_
  refine go_top (y := (-2069091266)) (by decide) ?_
  refine go_istore_n (pc := 30) (lv' := [(1, .int ((-2069091266))), (2, .int 22), (0, .ref (G.2.1 + 32))]) dX10_sum_30 rfl (by decide) rfl ?_
  refine go_iinc (pc := 31) (v := 23) (lv' := [(2, .int 23), (1, .int ((-2069091266))), (0, .ref (G.2.1 + 32))]) dX10_sum_31 1 rfl (by first | rfl | decide) (by decide) rfl ?_
  refine go_goto (pc := 34) (tgt := 4) dX10_sum_34 (by decide) ?_
  refine go_iload_n (pc := 4) dX10_sum_4 rfl rfl ?_
  refine go_aload_n (pc := 5) dX10_sum_5 rfl rfl ?_
  refine go_get (pc := 6) fX10_9 rfl (gz_b (by omega)) ((va_up_ne _ _ (gz_ne (by decide))).trans ((hw 32 (by decide) (by decide)).trans (wl_at (i := 32) rfl))) rfl dX10_sum_6 ?_
  refine go_bipush (pc := 9) (v := 15) dX10_sum_9 (by decide) ?_
  refine go_iald (pc := 11) (gz_b (by omega)) (va_up_self _ _ _) (gv_in (by decide)) dX10_sum_11 ?_
  refine go_top (y := 26) rfl ?_
  refine go_icmp_ge_f (pc := 12) (tgt := 37) dX10_sum_12 (by decide) (by decide) ?_
  refine go_bipush (pc := 15) (v := 31) dX10_sum_15 (by decide) ?_
  refine go_iload_n (pc := 17) dX10_sum_17 rfl rfl ?_
  refine go_imul (pc := 18) dX10_sum_18 ?_
  refine go_top (y := 282680194) (by decide) ?_
  refine go_aload_n (pc := 19) dX10_sum_19 rfl rfl ?_
  refine go_get (pc := 20) fX10_9 rfl (gz_b (by omega)) ((va_up_ne _ _ (gz_ne (by decide))).trans ((hw 32 (by decide) (by decide)).trans (wl_at (i := 32) rfl))) rfl dX10_sum_20 ?_
  refine go_sipush (pc := 23) (v := 10100) dX10_sum_23 (by decide) ?_
  refine go_iload_n (pc := 26) dX10_sum_26 rfl rfl ?_
  refine go_iadd (pc := 27) dX10_sum_27 ?_
  refine go_top (y := 10123) (by decide) ?_
  refine go_iald (pc := 28) (gz_b (by omega)) (va_up_self _ _ _) (gv_in (by decide)) dX10_sum_28 ?_
  refine go_top (y := (-1)) rfl ?_
  refine go_iadd (pc := 29) dX10_sum_29 ?_
  refine go_top (y := 282680193) (by decide) ?_
  refine go_istore_n (pc := 30) (lv' := [(1, .int 282680193), (2, .int 23), (0, .ref (G.2.1 + 32))]) dX10_sum_30 rfl (by decide) rfl ?_
  refine go_iinc (pc := 31) (v := 24) (lv' := [(2, .int 24), (1, .int 282680193), (0, .ref (G.2.1 + 32))]) dX10_sum_31 1 rfl (by first | rfl | decide) (by decide) rfl ?_
  refine go_goto (pc := 34) (tgt := 4) dX10_sum_34 (by decide) ?_
  refine go_iload_n (pc := 4) dX10_sum_4 rfl rfl ?_
  refine go_aload_n (pc := 5) dX10_sum_5 rfl rfl ?_
  refine go_get (pc := 6) fX10_9 rfl (gz_b (by omega)) ((va_up_ne _ _ (gz_ne (by decide))).trans ((hw 32 (by decide) (by decide)).trans (wl_at (i := 32) rfl))) rfl dX10_sum_6 ?_
  refine go_bipush (pc := 9) (v := 15) dX10_sum_9 (by decide) ?_
  refine go_iald (pc := 11) (gz_b (by omega)) (va_up_self _ _ _) (gv_in (by decide)) dX10_sum_11 ?_
  refine go_top (y := 26) rfl ?_
  refine go_icmp_ge_f (pc := 12) (tgt := 37) dX10_sum_12 (by decide) (by decide) ?_
  refine go_bipush (pc := 15) (v := 31) dX10_sum_15 (by decide) ?_
  refine go_iload_n (pc := 17) dX10_sum_17 rfl rfl ?_
  refine go_imul (pc := 18) dX10_sum_18 ?_
  refine go_top (y := 173151391) (by decide) ?_
  refine go_aload_n (pc := 19) dX10_sum_19 rfl rfl ?_
  refine go_get (pc := 20) fX10_9 rfl (gz_b (by omega)) ((va_up_ne _ _ (gz_ne (by decide))).trans ((hw 32 (by decide) (by decide)).trans (wl_at (i := 32) rfl))) rfl dX10_sum_20 ?_
  refine go_sipush (pc := 23) (v := 10100) dX10_sum_23 (by decide) ?_
  refine go_iload_n (pc := 26) dX10_sum_26 rfl rfl ?_
  refine go_iadd (pc := 27) dX10_sum_27 ?_
  refine go_top (y := 10124) (by decide) ?_
  refine go_iald (pc := 28) (gz_b (by omega)) (va_up_self _ _ _) (gv_in (by decide)) dX10_sum_28 ?_
  refine go_top (y := 0) rfl ?_
  refine go_iadd (pc := 29) dX10_sum_29 ?_
  refine go_top (y := 173151391) (by decide) ?_
  refine go_istore_n (pc := 30) (lv' := [(1, .int 173151391), (2, .int 24), (0, .ref (G.2.1 + 32))]) dX10_sum_30 rfl (by decide) rfl ?_
  refine go_iinc (pc := 31) (v := 25) (lv' := [(2, .int 25), (1, .int 173151391), (0, .ref (G.2.1 + 32))]) dX10_sum_31 1 rfl (by first | rfl | decide) (by decide) rfl ?_
  refine go_goto (pc := 34) (tgt := 4) dX10_sum_34 (by decide) ?_
  refine go_iload_n (pc := 4) dX10_sum_4 rfl rfl ?_
  refine go_aload_n (pc := 5) dX10_sum_5 rfl rfl ?_
  refine go_get (pc := 6) fX10_9 rfl (gz_b (by omega)) ((va_up_ne _ _ (gz_ne (by decide))).trans ((hw 32 (by decide) (by decide)).trans (wl_at (i := 32) rfl))) rfl dX10_sum_6 ?_
  refine go_bipush (pc := 9) (v := 15) dX10_sum_9 (by decide) ?_
  refine go_iald (pc := 11) (gz_b (by omega)) (va_up_self _ _ _) (gv_in (by decide)) dX10_sum_11 ?_
  refine go_top (y := 26) rfl ?_
  refine go_icmp_ge_f (pc := 12) (tgt := 37) dX10_sum_12 (by decide) (by decide) ?_
  refine go_bipush (pc := 15) (v := 31) dX10_sum_15 (by decide) ?_
  refine go_iload_n (pc := 17) dX10_sum_17 rfl rfl ?_
  refine go_imul (pc := 18) dX10_sum_18 ?_
  refine go_top (y := 1072725825) (by decide) ?_
  refine go_aload_n (pc := 19) dX10_sum_19 rfl rfl ?_
  refine go_get (pc := 20) fX10_9 rfl (gz_b (by omega)) ((va_up_ne _ _ (gz_ne (by decide))).trans ((hw 32 (by decide) (by decide)).trans (wl_at (i := 32) rfl))) rfl dX10_sum_20 ?_
  refine go_sipush (pc := 23) (v := 10100) dX10_sum_23 (by decide) ?_
  refine go_iload_n (pc := 26) dX10_sum_26 rfl rfl ?_
  refine go_iadd (pc := 27) dX10_sum_27 ?_
  refine go_top (y := 10125) (by decide) ?_
  refine go_iald (pc := 28) (gz_b (by omega)) (va_up_self _ _ _) (gv_in (by decide)) dX10_sum_28 ?_
  refine go_top (y := 0) rfl ?_
  refine go_iadd (pc := 29) dX10_sum_29 ?_
  refine go_top (y := 1072725825) (by decide) ?_
  refine go_istore_n (pc := 30) (lv' := [(1, .int 1072725825), (2, .int 25), (0, .ref (G.2.1 + 32))]) dX10_sum_30 rfl (by decide) rfl ?_
  refine go_iinc (pc := 31) (v := 26) (lv' := [(2, .int 26), (1, .int 1072725825), (0, .ref (G.2.1 + 32))]) dX10_sum_31 1 rfl (by first | rfl | decide) (by decide) rfl ?_
  refine go_goto (pc := 34) (tgt := 4) dX10_sum_34 (by decide) ?_
  refine go_iload_n (pc := 4) dX10_sum_4 rfl rfl ?_
  refine go_aload_n (pc := 5) dX10_sum_5 rfl rfl ?_
  refine go_get (pc := 6) fX10_9 rfl (gz_b (by omega)) ((va_up_ne _ _ (gz_ne (by decide))).trans ((hw 32 (by decide) (by decide)).trans (wl_at (i := 32) rfl))) rfl dX10_sum_6 ?_
  refine go_bipush (pc := 9) (v := 15) dX10_sum_9 (by decide) ?_
  refine go_iald (pc := 11) (gz_b (by omega)) (va_up_self _ _ _) (gv_in (by decide)) dX10_sum_11 ?_
  refine go_top (y := 26) rfl ?_
  refine go_icmp_ge_t (pc := 12) (tgt := 37) dX10_sum_12 (by decide) (by decide) ?_
  refine go_iload_n (pc := 37) dX10_sum_37 rfl rfl ?_
  exact go_iret (pc := 38) rfl dX10_sum_38
set_option maxRecDepth 100000 in
set_option maxHeartbeats 4000000 in
theorem cX10_write_54 {l : Launch} {G : gG} {n k : Nat} {w : Nat → va_E} (hn : 42 ≤ n) (hw : ∀ i, 32 ≤ i → i < 42 → w (G.2.1 + i) = wl G.2.1 (LF G) (G.2.1 + i)) : Ct l G mX10_write 0 0 [.ref (G.2.1 + 32), .int 1072725825] n k (va_up w (G.2.1 + 33) (ai G 26100 (upd (upd (upd (upd (upd (upd (upd (upd (upd (upd (upd (upd (upd (upd (upd (upd (upd (upd (upd (upd (upd (upd (upd (upd (upd (upd (upd (upd (upd (upd (upd (upd (upd (upd (upd (upd (upd (upd (upd (upd (upd (upd (upd (upd (upd (upd (upd (upd (upd (upd (upd (upd (upd (upd (upd (upd (upd (upd (upd (upd (upd (upd (upd (upd (upd (upd (upd (upd (upd (upd (upd (upd (upd (upd (upd (upd (upd (upd (upd (upd (upd (upd (upd (upd (upd (upd (upd (upd (sx 256) (3 : Int32).toNatClampNeg 1) (4 : Int32).toNatClampNeg 0) (17 : Int32).toNatClampNeg 0) (5 : Int32).toNatClampNeg 1) (6 : Int32).toNatClampNeg 0) (7 : Int32).toNatClampNeg 0) (8 : Int32).toNatClampNeg 0) (9 : Int32).toNatClampNeg 0) (15 : Int32).toNatClampNeg 0) (10100 : Int32).toNatClampNeg ((-1))) (18100 : Int32).toNatClampNeg ((-1))) (15 : Int32).toNatClampNeg 1) (10101 : Int32).toNatClampNeg ((-1))) (18101 : Int32).toNatClampNeg ((-1))) (15 : Int32).toNatClampNeg 2) (10102 : Int32).toNatClampNeg ((-1))) (18102 : Int32).toNatClampNeg ((-1))) (15 : Int32).toNatClampNeg 3) (10103 : Int32).toNatClampNeg ((-1))) (18103 : Int32).toNatClampNeg ((-1))) (15 : Int32).toNatClampNeg 4) (10104 : Int32).toNatClampNeg ((-1))) (18104 : Int32).toNatClampNeg ((-1))) (15 : Int32).toNatClampNeg 5) (10105 : Int32).toNatClampNeg ((-1))) (18105 : Int32).toNatClampNeg ((-1))) (15 : Int32).toNatClampNeg 6) (10106 : Int32).toNatClampNeg ((-1))) (18106 : Int32).toNatClampNeg ((-1))) (15 : Int32).toNatClampNeg 7) (10107 : Int32).toNatClampNeg ((-1))) (18107 : Int32).toNatClampNeg ((-1))) (15 : Int32).toNatClampNeg 8) (10108 : Int32).toNatClampNeg ((-1))) (18108 : Int32).toNatClampNeg ((-1))) (15 : Int32).toNatClampNeg 9) (10109 : Int32).toNatClampNeg ((-1))) (18109 : Int32).toNatClampNeg ((-1))) (15 : Int32).toNatClampNeg 10) (10110 : Int32).toNatClampNeg ((-1))) (18110 : Int32).toNatClampNeg ((-1))) (15 : Int32).toNatClampNeg 11) (10111 : Int32).toNatClampNeg ((-1))) (18111 : Int32).toNatClampNeg ((-1))) (15 : Int32).toNatClampNeg 12) (10112 : Int32).toNatClampNeg ((-1))) (18112 : Int32).toNatClampNeg ((-1))) (15 : Int32).toNatClampNeg 13) (10113 : Int32).toNatClampNeg ((-1))) (18113 : Int32).toNatClampNeg ((-1))) (15 : Int32).toNatClampNeg 14) (10114 : Int32).toNatClampNeg ((-1))) (18114 : Int32).toNatClampNeg ((-1))) (15 : Int32).toNatClampNeg 15) (10115 : Int32).toNatClampNeg ((-1))) (18115 : Int32).toNatClampNeg ((-1))) (15 : Int32).toNatClampNeg 16) (10116 : Int32).toNatClampNeg ((-1))) (18116 : Int32).toNatClampNeg ((-1))) (15 : Int32).toNatClampNeg 17) (10117 : Int32).toNatClampNeg ((-1))) (18117 : Int32).toNatClampNeg ((-1))) (15 : Int32).toNatClampNeg 18) (10118 : Int32).toNatClampNeg ((-1))) (18118 : Int32).toNatClampNeg ((-1))) (15 : Int32).toNatClampNeg 19) (10119 : Int32).toNatClampNeg ((-1))) (18119 : Int32).toNatClampNeg ((-1))) (15 : Int32).toNatClampNeg 20) (10120 : Int32).toNatClampNeg ((-1))) (18120 : Int32).toNatClampNeg ((-1))) (15 : Int32).toNatClampNeg 21) (10121 : Int32).toNatClampNeg ((-1))) (18121 : Int32).toNatClampNeg ((-1))) (15 : Int32).toNatClampNeg 22) (10122 : Int32).toNatClampNeg ((-1))) (18122 : Int32).toNatClampNeg ((-1))) (15 : Int32).toNatClampNeg 23) (10123 : Int32).toNatClampNeg ((-1))) (18123 : Int32).toNatClampNeg ((-1))) (15 : Int32).toNatClampNeg 24) (10124 : Int32).toNatClampNeg 0) (18124 : Int32).toNatClampNeg 0) (15 : Int32).toNatClampNeg 25) (16 : Int32).toNatClampNeg 0) (10125 : Int32).toNatClampNeg 0) (18125 : Int32).toNatClampNeg 0) (15 : Int32).toNatClampNeg 26))) (none, n, k, (va_up w (G.2.1 + 33) (ai G 26100 (upd (upd (upd (upd (upd (upd (upd (upd (upd (upd (upd (upd (upd (upd (upd (upd (upd (upd (upd (upd (upd (upd (upd (upd (upd (upd (upd (upd (upd (upd (upd (upd (upd (upd (upd (upd (upd (upd (upd (upd (upd (upd (upd (upd (upd (upd (upd (upd (upd (upd (upd (upd (upd (upd (upd (upd (upd (upd (upd (upd (upd (upd (upd (upd (upd (upd (upd (upd (upd (upd (upd (upd (upd (upd (upd (upd (upd (upd (upd (upd (upd (upd (upd (upd (upd (upd (upd (upd (upd (upd (upd (sx 256) (3 : Int32).toNatClampNeg 1) (4 : Int32).toNatClampNeg 0) (17 : Int32).toNatClampNeg 0) (5 : Int32).toNatClampNeg 1) (6 : Int32).toNatClampNeg 0) (7 : Int32).toNatClampNeg 0) (8 : Int32).toNatClampNeg 0) (9 : Int32).toNatClampNeg 0) (15 : Int32).toNatClampNeg 0) (10100 : Int32).toNatClampNeg ((-1))) (18100 : Int32).toNatClampNeg ((-1))) (15 : Int32).toNatClampNeg 1) (10101 : Int32).toNatClampNeg ((-1))) (18101 : Int32).toNatClampNeg ((-1))) (15 : Int32).toNatClampNeg 2) (10102 : Int32).toNatClampNeg ((-1))) (18102 : Int32).toNatClampNeg ((-1))) (15 : Int32).toNatClampNeg 3) (10103 : Int32).toNatClampNeg ((-1))) (18103 : Int32).toNatClampNeg ((-1))) (15 : Int32).toNatClampNeg 4) (10104 : Int32).toNatClampNeg ((-1))) (18104 : Int32).toNatClampNeg ((-1))) (15 : Int32).toNatClampNeg 5) (10105 : Int32).toNatClampNeg ((-1))) (18105 : Int32).toNatClampNeg ((-1))) (15 : Int32).toNatClampNeg 6) (10106 : Int32).toNatClampNeg ((-1))) (18106 : Int32).toNatClampNeg ((-1))) (15 : Int32).toNatClampNeg 7) (10107 : Int32).toNatClampNeg ((-1))) (18107 : Int32).toNatClampNeg ((-1))) (15 : Int32).toNatClampNeg 8) (10108 : Int32).toNatClampNeg ((-1))) (18108 : Int32).toNatClampNeg ((-1))) (15 : Int32).toNatClampNeg 9) (10109 : Int32).toNatClampNeg ((-1))) (18109 : Int32).toNatClampNeg ((-1))) (15 : Int32).toNatClampNeg 10) (10110 : Int32).toNatClampNeg ((-1))) (18110 : Int32).toNatClampNeg ((-1))) (15 : Int32).toNatClampNeg 11) (10111 : Int32).toNatClampNeg ((-1))) (18111 : Int32).toNatClampNeg ((-1))) (15 : Int32).toNatClampNeg 12) (10112 : Int32).toNatClampNeg ((-1))) (18112 : Int32).toNatClampNeg ((-1))) (15 : Int32).toNatClampNeg 13) (10113 : Int32).toNatClampNeg ((-1))) (18113 : Int32).toNatClampNeg ((-1))) (15 : Int32).toNatClampNeg 14) (10114 : Int32).toNatClampNeg ((-1))) (18114 : Int32).toNatClampNeg ((-1))) (15 : Int32).toNatClampNeg 15) (10115 : Int32).toNatClampNeg ((-1))) (18115 : Int32).toNatClampNeg ((-1))) (15 : Int32).toNatClampNeg 16) (10116 : Int32).toNatClampNeg ((-1))) (18116 : Int32).toNatClampNeg ((-1))) (15 : Int32).toNatClampNeg 17) (10117 : Int32).toNatClampNeg ((-1))) (18117 : Int32).toNatClampNeg ((-1))) (15 : Int32).toNatClampNeg 18) (10118 : Int32).toNatClampNeg ((-1))) (18118 : Int32).toNatClampNeg ((-1))) (15 : Int32).toNatClampNeg 19) (10119 : Int32).toNatClampNeg ((-1))) (18119 : Int32).toNatClampNeg ((-1))) (15 : Int32).toNatClampNeg 20) (10120 : Int32).toNatClampNeg ((-1))) (18120 : Int32).toNatClampNeg ((-1))) (15 : Int32).toNatClampNeg 21) (10121 : Int32).toNatClampNeg ((-1))) (18121 : Int32).toNatClampNeg ((-1))) (15 : Int32).toNatClampNeg 22) (10122 : Int32).toNatClampNeg ((-1))) (18122 : Int32).toNatClampNeg ((-1))) (15 : Int32).toNatClampNeg 23) (10123 : Int32).toNatClampNeg ((-1))) (18123 : Int32).toNatClampNeg ((-1))) (15 : Int32).toNatClampNeg 24) (10124 : Int32).toNatClampNeg 0) (18124 : Int32).toNatClampNeg 0) (15 : Int32).toNatClampNeg 25) (16 : Int32).toNatClampNeg 0) (10125 : Int32).toNatClampNeg 0) (18125 : Int32).toNatClampNeg 0) (15 : Int32).toNatClampNeg 26) (10126 : Int32).toNatClampNeg 1072725825) (18126 : Int32).toNatClampNeg 1072725825) (15 : Int32).toNatClampNeg 27)))) := by
  refine Ct.of (by decide) (Nat.le_of_ble_eq_true rfl) ⟨Nat.le_refl _, Nat.le_refl _⟩ ?_
  show Go l G mX10_write _ 0 [(0, .ref (G.2.1 + 32)), (1, .int 1072725825)] [] n k (va_up w (G.2.1 + 33) (ai G 26100 (upd (upd (upd (upd (upd (upd (upd (upd (upd (upd (upd (upd (upd (upd (upd (upd (upd (upd (upd (upd (upd (upd (upd (upd (upd (upd (upd (upd (upd (upd (upd (upd (upd (upd (upd (upd (upd (upd (upd (upd (upd (upd (upd (upd (upd (upd (upd (upd (upd (upd (upd (upd (upd (upd (upd (upd (upd (upd (upd (upd (upd (upd (upd (upd (upd (upd (upd (upd (upd (upd (upd (upd (upd (upd (upd (upd (upd (upd (upd (upd (upd (upd (upd (upd (upd (upd (upd (upd (sx 256) (3 : Int32).toNatClampNeg 1) (4 : Int32).toNatClampNeg 0) (17 : Int32).toNatClampNeg 0) (5 : Int32).toNatClampNeg 1) (6 : Int32).toNatClampNeg 0) (7 : Int32).toNatClampNeg 0) (8 : Int32).toNatClampNeg 0) (9 : Int32).toNatClampNeg 0) (15 : Int32).toNatClampNeg 0) (10100 : Int32).toNatClampNeg ((-1))) (18100 : Int32).toNatClampNeg ((-1))) (15 : Int32).toNatClampNeg 1) (10101 : Int32).toNatClampNeg ((-1))) (18101 : Int32).toNatClampNeg ((-1))) (15 : Int32).toNatClampNeg 2) (10102 : Int32).toNatClampNeg ((-1))) (18102 : Int32).toNatClampNeg ((-1))) (15 : Int32).toNatClampNeg 3) (10103 : Int32).toNatClampNeg ((-1))) (18103 : Int32).toNatClampNeg ((-1))) (15 : Int32).toNatClampNeg 4) (10104 : Int32).toNatClampNeg ((-1))) (18104 : Int32).toNatClampNeg ((-1))) (15 : Int32).toNatClampNeg 5) (10105 : Int32).toNatClampNeg ((-1))) (18105 : Int32).toNatClampNeg ((-1))) (15 : Int32).toNatClampNeg 6) (10106 : Int32).toNatClampNeg ((-1))) (18106 : Int32).toNatClampNeg ((-1))) (15 : Int32).toNatClampNeg 7) (10107 : Int32).toNatClampNeg ((-1))) (18107 : Int32).toNatClampNeg ((-1))) (15 : Int32).toNatClampNeg 8) (10108 : Int32).toNatClampNeg ((-1))) (18108 : Int32).toNatClampNeg ((-1))) (15 : Int32).toNatClampNeg 9) (10109 : Int32).toNatClampNeg ((-1))) (18109 : Int32).toNatClampNeg ((-1))) (15 : Int32).toNatClampNeg 10) (10110 : Int32).toNatClampNeg ((-1))) (18110 : Int32).toNatClampNeg ((-1))) (15 : Int32).toNatClampNeg 11) (10111 : Int32).toNatClampNeg ((-1))) (18111 : Int32).toNatClampNeg ((-1))) (15 : Int32).toNatClampNeg 12) (10112 : Int32).toNatClampNeg ((-1))) (18112 : Int32).toNatClampNeg ((-1))) (15 : Int32).toNatClampNeg 13) (10113 : Int32).toNatClampNeg ((-1))) (18113 : Int32).toNatClampNeg ((-1))) (15 : Int32).toNatClampNeg 14) (10114 : Int32).toNatClampNeg ((-1))) (18114 : Int32).toNatClampNeg ((-1))) (15 : Int32).toNatClampNeg 15) (10115 : Int32).toNatClampNeg ((-1))) (18115 : Int32).toNatClampNeg ((-1))) (15 : Int32).toNatClampNeg 16) (10116 : Int32).toNatClampNeg ((-1))) (18116 : Int32).toNatClampNeg ((-1))) (15 : Int32).toNatClampNeg 17) (10117 : Int32).toNatClampNeg ((-1))) (18117 : Int32).toNatClampNeg ((-1))) (15 : Int32).toNatClampNeg 18) (10118 : Int32).toNatClampNeg ((-1))) (18118 : Int32).toNatClampNeg ((-1))) (15 : Int32).toNatClampNeg 19) (10119 : Int32).toNatClampNeg ((-1))) (18119 : Int32).toNatClampNeg ((-1))) (15 : Int32).toNatClampNeg 20) (10120 : Int32).toNatClampNeg ((-1))) (18120 : Int32).toNatClampNeg ((-1))) (15 : Int32).toNatClampNeg 21) (10121 : Int32).toNatClampNeg ((-1))) (18121 : Int32).toNatClampNeg ((-1))) (15 : Int32).toNatClampNeg 22) (10122 : Int32).toNatClampNeg ((-1))) (18122 : Int32).toNatClampNeg ((-1))) (15 : Int32).toNatClampNeg 23) (10123 : Int32).toNatClampNeg ((-1))) (18123 : Int32).toNatClampNeg ((-1))) (15 : Int32).toNatClampNeg 24) (10124 : Int32).toNatClampNeg 0) (18124 : Int32).toNatClampNeg 0) (15 : Int32).toNatClampNeg 25) (16 : Int32).toNatClampNeg 0) (10125 : Int32).toNatClampNeg 0) (18125 : Int32).toNatClampNeg 0) (15 : Int32).toNatClampNeg 26)))
  refine go_aload_n (pc := 0) dX10_write_0 rfl rfl ?_
  refine go_get (pc := 1) fX10_9 rfl (gz_b (by omega)) ((va_up_ne _ _ (gz_ne (by decide))).trans ((hw 32 (by decide) (by decide)).trans (wl_at (i := 32) rfl))) rfl dX10_write_1 ?_
  refine go_sipush (pc := 4) (v := 10100) dX10_write_4 (by decide) ?_
  refine go_aload_n (pc := 7) dX10_write_7 rfl rfl ?_
  refine go_get (pc := 8) fX10_9 rfl (gz_b (by omega)) ((va_up_ne _ _ (gz_ne (by decide))).trans ((hw 32 (by decide) (by decide)).trans (wl_at (i := 32) rfl))) rfl dX10_write_8 ?_
  refine go_bipush (pc := 11) (v := 15) dX10_write_11 (by decide) ?_
  refine go_iald (pc := 13) (gz_b (by omega)) (va_up_self _ _ _) (gv_in (by decide)) dX10_write_13 ?_
  refine go_top (y := 26) rfl ?_
  refine go_iadd (pc := 14) dX10_write_14 ?_
  refine go_top (y := 10126) (by decide) ?_
  refine go_iload_n (pc := 15) dX10_write_15 rfl rfl ?_
  refine go_iast (pc := 16) (gz_b (by omega)) (va_up_self _ _ _) (gv_in (by decide)) dX10_write_16 ?_
  refine go_w (va_up_up _ _ _ _) ?_
  refine go_aload_n (pc := 17) dX10_write_17 rfl rfl ?_
  refine go_get (pc := 18) fX10_9 rfl (gz_b (by omega)) ((va_up_ne _ _ (gz_ne (by decide))).trans ((hw 32 (by decide) (by decide)).trans (wl_at (i := 32) rfl))) rfl dX10_write_18 ?_
  refine go_sipush (pc := 21) (v := 18100) dX10_write_21 (by decide) ?_
  refine go_aload_n (pc := 24) dX10_write_24 rfl rfl ?_
  refine go_get (pc := 25) fX10_9 rfl (gz_b (by omega)) ((va_up_ne _ _ (gz_ne (by decide))).trans ((hw 32 (by decide) (by decide)).trans (wl_at (i := 32) rfl))) rfl dX10_write_25 ?_
  refine go_bipush (pc := 28) (v := 15) dX10_write_28 (by decide) ?_
  refine go_iald (pc := 30) (gz_b (by omega)) (va_up_self _ _ _) (gv_in (by decide)) dX10_write_30 ?_
  refine go_top (y := 26) rfl ?_
  refine go_iadd (pc := 31) dX10_write_31 ?_
  refine go_top (y := 18126) (by decide) ?_
  refine go_iload_n (pc := 32) dX10_write_32 rfl rfl ?_
  refine go_iast (pc := 33) (gz_b (by omega)) (va_up_self _ _ _) (gv_in (by decide)) dX10_write_33 ?_
  refine go_w (va_up_up _ _ _ _) ?_
  refine go_aload_n (pc := 34) dX10_write_34 rfl rfl ?_
  refine go_get (pc := 35) fX10_9 rfl (gz_b (by omega)) ((va_up_ne _ _ (gz_ne (by decide))).trans ((hw 32 (by decide) (by decide)).trans (wl_at (i := 32) rfl))) rfl dX10_write_35 ?_
  refine go_bipush (pc := 38) (v := 15) dX10_write_38 (by decide) ?_
  refine go_dup2 (pc := 40) dX10_write_40 rfl rfl ?_
  refine go_iald (pc := 41) (gz_b (by omega)) (va_up_self _ _ _) (gv_in (by decide)) dX10_write_41 ?_
  refine go_top (y := 26) rfl ?_
  refine go_iconst (pc := 42) (v := 1) dX10_write_42 (by decide) ?_
  refine go_iadd (pc := 43) dX10_write_43 ?_
  refine go_top (y := 27) (by decide) ?_
  refine go_iast (pc := 44) (gz_b (by omega)) (va_up_self _ _ _) (gv_in (by decide)) dX10_write_44 ?_
  refine go_w (va_up_up _ _ _ _) ?_
  exact go_vret (pc := 45) rfl dX10_write_45
set_option maxRecDepth 100000 in
set_option maxHeartbeats 4000000 in
theorem cX10_slide_2 {l : Launch} {G : gG} {n k : Nat} {w : Nat → va_E} (hn : 42 ≤ n) (hw : ∀ i, 32 ≤ i → i < 42 → w (G.2.1 + i) = wl G.2.1 (LF G) (G.2.1 + i)) : Ct l G mX10_slide 1 22 [.ref (G.2.1 + 32)] n k (va_up w (G.2.1 + 33) (ai G 26100 (upd (upd (upd (upd (upd (upd (upd (upd (sx 256) (3 : Int32).toNatClampNeg 1) (4 : Int32).toNatClampNeg 0) (17 : Int32).toNatClampNeg 0) (5 : Int32).toNatClampNeg 1) (6 : Int32).toNatClampNeg 0) (7 : Int32).toNatClampNeg 0) (8 : Int32).toNatClampNeg 0) (9 : Int32).toNatClampNeg 0))) (none, n, k, (va_up w (G.2.1 + 33) (ai G 26100 (upd (upd (upd (upd (upd (upd (upd (upd (upd (upd (upd (upd (upd (upd (upd (upd (upd (upd (upd (upd (upd (upd (upd (upd (upd (upd (upd (upd (upd (upd (upd (upd (upd (upd (upd (upd (upd (upd (upd (upd (upd (upd (upd (upd (upd (upd (upd (upd (upd (upd (upd (upd (upd (upd (upd (upd (upd (upd (upd (upd (upd (upd (upd (upd (upd (upd (upd (upd (upd (upd (upd (upd (upd (upd (upd (upd (upd (upd (upd (upd (upd (upd (upd (upd (upd (upd (upd (upd (upd (upd (upd (sx 256) (3 : Int32).toNatClampNeg 1) (4 : Int32).toNatClampNeg 0) (17 : Int32).toNatClampNeg 0) (5 : Int32).toNatClampNeg 1) (6 : Int32).toNatClampNeg 0) (7 : Int32).toNatClampNeg 0) (8 : Int32).toNatClampNeg 0) (9 : Int32).toNatClampNeg 0) (15 : Int32).toNatClampNeg 0) (10100 : Int32).toNatClampNeg ((-1))) (18100 : Int32).toNatClampNeg ((-1))) (15 : Int32).toNatClampNeg 1) (10101 : Int32).toNatClampNeg ((-1))) (18101 : Int32).toNatClampNeg ((-1))) (15 : Int32).toNatClampNeg 2) (10102 : Int32).toNatClampNeg ((-1))) (18102 : Int32).toNatClampNeg ((-1))) (15 : Int32).toNatClampNeg 3) (10103 : Int32).toNatClampNeg ((-1))) (18103 : Int32).toNatClampNeg ((-1))) (15 : Int32).toNatClampNeg 4) (10104 : Int32).toNatClampNeg ((-1))) (18104 : Int32).toNatClampNeg ((-1))) (15 : Int32).toNatClampNeg 5) (10105 : Int32).toNatClampNeg ((-1))) (18105 : Int32).toNatClampNeg ((-1))) (15 : Int32).toNatClampNeg 6) (10106 : Int32).toNatClampNeg ((-1))) (18106 : Int32).toNatClampNeg ((-1))) (15 : Int32).toNatClampNeg 7) (10107 : Int32).toNatClampNeg ((-1))) (18107 : Int32).toNatClampNeg ((-1))) (15 : Int32).toNatClampNeg 8) (10108 : Int32).toNatClampNeg ((-1))) (18108 : Int32).toNatClampNeg ((-1))) (15 : Int32).toNatClampNeg 9) (10109 : Int32).toNatClampNeg ((-1))) (18109 : Int32).toNatClampNeg ((-1))) (15 : Int32).toNatClampNeg 10) (10110 : Int32).toNatClampNeg ((-1))) (18110 : Int32).toNatClampNeg ((-1))) (15 : Int32).toNatClampNeg 11) (10111 : Int32).toNatClampNeg ((-1))) (18111 : Int32).toNatClampNeg ((-1))) (15 : Int32).toNatClampNeg 12) (10112 : Int32).toNatClampNeg ((-1))) (18112 : Int32).toNatClampNeg ((-1))) (15 : Int32).toNatClampNeg 13) (10113 : Int32).toNatClampNeg ((-1))) (18113 : Int32).toNatClampNeg ((-1))) (15 : Int32).toNatClampNeg 14) (10114 : Int32).toNatClampNeg ((-1))) (18114 : Int32).toNatClampNeg ((-1))) (15 : Int32).toNatClampNeg 15) (10115 : Int32).toNatClampNeg ((-1))) (18115 : Int32).toNatClampNeg ((-1))) (15 : Int32).toNatClampNeg 16) (10116 : Int32).toNatClampNeg ((-1))) (18116 : Int32).toNatClampNeg ((-1))) (15 : Int32).toNatClampNeg 17) (10117 : Int32).toNatClampNeg ((-1))) (18117 : Int32).toNatClampNeg ((-1))) (15 : Int32).toNatClampNeg 18) (10118 : Int32).toNatClampNeg ((-1))) (18118 : Int32).toNatClampNeg ((-1))) (15 : Int32).toNatClampNeg 19) (10119 : Int32).toNatClampNeg ((-1))) (18119 : Int32).toNatClampNeg ((-1))) (15 : Int32).toNatClampNeg 20) (10120 : Int32).toNatClampNeg ((-1))) (18120 : Int32).toNatClampNeg ((-1))) (15 : Int32).toNatClampNeg 21) (10121 : Int32).toNatClampNeg ((-1))) (18121 : Int32).toNatClampNeg ((-1))) (15 : Int32).toNatClampNeg 22) (10122 : Int32).toNatClampNeg ((-1))) (18122 : Int32).toNatClampNeg ((-1))) (15 : Int32).toNatClampNeg 23) (10123 : Int32).toNatClampNeg ((-1))) (18123 : Int32).toNatClampNeg ((-1))) (15 : Int32).toNatClampNeg 24) (10124 : Int32).toNatClampNeg 0) (18124 : Int32).toNatClampNeg 0) (15 : Int32).toNatClampNeg 25) (16 : Int32).toNatClampNeg 0) (10125 : Int32).toNatClampNeg 0) (18125 : Int32).toNatClampNeg 0) (15 : Int32).toNatClampNeg 26) (10126 : Int32).toNatClampNeg 1072725825) (18126 : Int32).toNatClampNeg 1072725825) (15 : Int32).toNatClampNeg 27)))) := by
  refine Ct.of (by decide) (Nat.le_of_ble_eq_true rfl) ⟨Nat.le_refl _, Nat.le_refl _⟩ ?_
  show Go l G mX10_slide _ 0 [(0, .ref (G.2.1 + 32))] [] n k (va_up w (G.2.1 + 33) (ai G 26100 (upd (upd (upd (upd (upd (upd (upd (upd (sx 256) (3 : Int32).toNatClampNeg 1) (4 : Int32).toNatClampNeg 0) (17 : Int32).toNatClampNeg 0) (5 : Int32).toNatClampNeg 1) (6 : Int32).toNatClampNeg 0) (7 : Int32).toNatClampNeg 0) (8 : Int32).toNatClampNeg 0) (9 : Int32).toNatClampNeg 0)))
  refine go_aload_n (pc := 0) dX10_slide_0 rfl rfl ?_
  refine go_get (pc := 1) fX10_9 rfl (gz_b (by omega)) ((va_up_ne _ _ (gz_ne (by decide))).trans ((hw 32 (by decide) (by decide)).trans (wl_at (i := 32) rfl))) rfl dX10_slide_1 ?_
  refine go_bipush (pc := 4) (v := 15) dX10_slide_4 (by decide) ?_
  refine go_iconst (pc := 6) (v := 0) dX10_slide_6 (by decide) ?_
  refine go_iast (pc := 7) (gz_b (by omega)) (va_up_self _ _ _) (gv_in (by decide)) dX10_slide_7 ?_
  refine go_w (va_up_up _ _ _ _) ?_
  refine go_iconst (pc := 8) (v := 0) dX10_slide_8 (by decide) ?_
  refine go_istore_n (pc := 9) (lv' := [(1, .int 0), (0, .ref (G.2.1 + 32))]) dX10_slide_9 rfl (by decide) rfl ?_
  refine go_iload_n (pc := 10) dX10_slide_10 rfl rfl ?_
  refine go_bipush (pc := 11) (v := 24) dX10_slide_11 (by decide) ?_
  refine go_icmp_ge_f (pc := 13) (tgt := 35) dX10_slide_13 (by decide) (by decide) ?_
  refine go_aload_n (pc := 16) dX10_slide_16 rfl rfl ?_
  refine go_aload_n (pc := 17) dX10_slide_17 rfl rfl ?_
  refine go_get (pc := 18) fX10_9 rfl (gz_b (by omega)) ((va_up_ne _ _ (gz_ne (by decide))).trans ((hw 32 (by decide) (by decide)).trans (wl_at (i := 32) rfl))) rfl dX10_slide_18 ?_
  refine go_bipush (pc := 21) (v := 20) dX10_slide_21 (by decide) ?_
  refine go_iload_n (pc := 23) dX10_slide_23 rfl rfl ?_
  refine go_iadd (pc := 24) dX10_slide_24 ?_
  refine go_top (y := 20) (by decide) ?_
  refine go_iald (pc := 25) (gz_b (by omega)) (va_up_self _ _ _) (gv_in (by decide)) dX10_slide_25 ?_
  refine go_top (y := (-1)) rfl ?_
  refine go_callV_v (pc := 26) vX10_123 rfl (cX10_write_28 hn hw) rfl rfl (gz_b (by omega)) ((va_up_ne _ _ (gz_ne (by decide))).trans ((hw 32 (by decide) (by decide)).trans (wl_at (i := 32) rfl))) rfl (Nat.le_of_ble_eq_true rfl) ⟨Nat.le_of_ble_eq_true rfl, Nat.le_of_ble_eq_true rfl, (Nat.le_add_right _ _), (Nat.le_add_right _ _)⟩ dX10_slide_26 ?_
  refine go_iinc (pc := 29) (v := 1) (lv' := [(1, .int 1), (0, .ref (G.2.1 + 32))]) dX10_slide_29 0 rfl (by first | rfl | decide) (by decide) rfl ?_
  refine go_goto (pc := 32) (tgt := 10) dX10_slide_32 (by decide) ?_
  refine go_iload_n (pc := 10) dX10_slide_10 rfl rfl ?_
  refine go_bipush (pc := 11) (v := 24) dX10_slide_11 (by decide) ?_
  refine go_icmp_ge_f (pc := 13) (tgt := 35) dX10_slide_13 (by decide) (by decide) ?_
  refine go_aload_n (pc := 16) dX10_slide_16 rfl rfl ?_
  refine go_aload_n (pc := 17) dX10_slide_17 rfl rfl ?_
  refine go_get (pc := 18) fX10_9 rfl (gz_b (by omega)) ((va_up_ne _ _ (gz_ne (by decide))).trans ((hw 32 (by decide) (by decide)).trans (wl_at (i := 32) rfl))) rfl dX10_slide_18 ?_
  refine go_bipush (pc := 21) (v := 20) dX10_slide_21 (by decide) ?_
  refine go_iload_n (pc := 23) dX10_slide_23 rfl rfl ?_
  refine go_iadd (pc := 24) dX10_slide_24 ?_
  refine go_top (y := 21) (by decide) ?_
  refine go_iald (pc := 25) (gz_b (by omega)) (va_up_self _ _ _) (gv_in (by decide)) dX10_slide_25 ?_
  refine go_top (y := (-1)) rfl ?_
  refine go_callV_v (pc := 26) vX10_123 rfl (cX10_write_29 hn hw) rfl rfl (gz_b (by omega)) ((va_up_ne _ _ (gz_ne (by decide))).trans ((hw 32 (by decide) (by decide)).trans (wl_at (i := 32) rfl))) rfl (Nat.le_of_ble_eq_true rfl) ⟨Nat.le_of_ble_eq_true rfl, Nat.le_of_ble_eq_true rfl, (Nat.le_add_right _ _), (Nat.le_add_right _ _)⟩ dX10_slide_26 ?_
  refine go_iinc (pc := 29) (v := 2) (lv' := [(1, .int 2), (0, .ref (G.2.1 + 32))]) dX10_slide_29 0 rfl (by first | rfl | decide) (by decide) rfl ?_
  refine go_goto (pc := 32) (tgt := 10) dX10_slide_32 (by decide) ?_
  refine go_iload_n (pc := 10) dX10_slide_10 rfl rfl ?_
  refine go_bipush (pc := 11) (v := 24) dX10_slide_11 (by decide) ?_
  refine go_icmp_ge_f (pc := 13) (tgt := 35) dX10_slide_13 (by decide) (by decide) ?_
  refine go_aload_n (pc := 16) dX10_slide_16 rfl rfl ?_
  refine go_aload_n (pc := 17) dX10_slide_17 rfl rfl ?_
  refine go_get (pc := 18) fX10_9 rfl (gz_b (by omega)) ((va_up_ne _ _ (gz_ne (by decide))).trans ((hw 32 (by decide) (by decide)).trans (wl_at (i := 32) rfl))) rfl dX10_slide_18 ?_
  refine go_bipush (pc := 21) (v := 20) dX10_slide_21 (by decide) ?_
  refine go_iload_n (pc := 23) dX10_slide_23 rfl rfl ?_
  refine go_iadd (pc := 24) dX10_slide_24 ?_
  refine go_top (y := 22) (by decide) ?_
  refine go_iald (pc := 25) (gz_b (by omega)) (va_up_self _ _ _) (gv_in (by decide)) dX10_slide_25 ?_
  refine go_top (y := (-1)) rfl ?_
  refine go_callV_v (pc := 26) vX10_123 rfl (cX10_write_30 hn hw) rfl rfl (gz_b (by omega)) ((va_up_ne _ _ (gz_ne (by decide))).trans ((hw 32 (by decide) (by decide)).trans (wl_at (i := 32) rfl))) rfl (Nat.le_of_ble_eq_true rfl) ⟨Nat.le_of_ble_eq_true rfl, Nat.le_of_ble_eq_true rfl, (Nat.le_add_right _ _), (Nat.le_add_right _ _)⟩ dX10_slide_26 ?_
  refine go_iinc (pc := 29) (v := 3) (lv' := [(1, .int 3), (0, .ref (G.2.1 + 32))]) dX10_slide_29 0 rfl (by first | rfl | decide) (by decide) rfl ?_
  refine go_goto (pc := 32) (tgt := 10) dX10_slide_32 (by decide) ?_
  refine go_iload_n (pc := 10) dX10_slide_10 rfl rfl ?_
  refine go_bipush (pc := 11) (v := 24) dX10_slide_11 (by decide) ?_
  refine go_icmp_ge_f (pc := 13) (tgt := 35) dX10_slide_13 (by decide) (by decide) ?_
  refine go_aload_n (pc := 16) dX10_slide_16 rfl rfl ?_
  refine go_aload_n (pc := 17) dX10_slide_17 rfl rfl ?_
  refine go_get (pc := 18) fX10_9 rfl (gz_b (by omega)) ((va_up_ne _ _ (gz_ne (by decide))).trans ((hw 32 (by decide) (by decide)).trans (wl_at (i := 32) rfl))) rfl dX10_slide_18 ?_
  refine go_bipush (pc := 21) (v := 20) dX10_slide_21 (by decide) ?_
  refine go_iload_n (pc := 23) dX10_slide_23 rfl rfl ?_
  refine go_iadd (pc := 24) dX10_slide_24 ?_
  refine go_top (y := 23) (by decide) ?_
  refine go_iald (pc := 25) (gz_b (by omega)) (va_up_self _ _ _) (gv_in (by decide)) dX10_slide_25 ?_
  refine go_top (y := (-1)) rfl ?_
  refine go_callV_v (pc := 26) vX10_123 rfl (cX10_write_31 hn hw) rfl rfl (gz_b (by omega)) ((va_up_ne _ _ (gz_ne (by decide))).trans ((hw 32 (by decide) (by decide)).trans (wl_at (i := 32) rfl))) rfl (Nat.le_of_ble_eq_true rfl) ⟨Nat.le_of_ble_eq_true rfl, Nat.le_of_ble_eq_true rfl, (Nat.le_add_right _ _), (Nat.le_add_right _ _)⟩ dX10_slide_26 ?_
  refine go_iinc (pc := 29) (v := 4) (lv' := [(1, .int 4), (0, .ref (G.2.1 + 32))]) dX10_slide_29 0 rfl (by first | rfl | decide) (by decide) rfl ?_
  refine go_goto (pc := 32) (tgt := 10) dX10_slide_32 (by decide) ?_
  refine go_iload_n (pc := 10) dX10_slide_10 rfl rfl ?_
  refine go_bipush (pc := 11) (v := 24) dX10_slide_11 (by decide) ?_
  refine go_icmp_ge_f (pc := 13) (tgt := 35) dX10_slide_13 (by decide) (by decide) ?_
  refine go_aload_n (pc := 16) dX10_slide_16 rfl rfl ?_
  refine go_aload_n (pc := 17) dX10_slide_17 rfl rfl ?_
  refine go_get (pc := 18) fX10_9 rfl (gz_b (by omega)) ((va_up_ne _ _ (gz_ne (by decide))).trans ((hw 32 (by decide) (by decide)).trans (wl_at (i := 32) rfl))) rfl dX10_slide_18 ?_
  refine go_bipush (pc := 21) (v := 20) dX10_slide_21 (by decide) ?_
  refine go_iload_n (pc := 23) dX10_slide_23 rfl rfl ?_
  refine go_iadd (pc := 24) dX10_slide_24 ?_
  refine go_top (y := 24) (by decide) ?_
  refine go_iald (pc := 25) (gz_b (by omega)) (va_up_self _ _ _) (gv_in (by decide)) dX10_slide_25 ?_
  refine go_top (y := (-1)) rfl ?_
  refine go_callV_v (pc := 26) vX10_123 rfl (cX10_write_32 hn hw) rfl rfl (gz_b (by omega)) ((va_up_ne _ _ (gz_ne (by decide))).trans ((hw 32 (by decide) (by decide)).trans (wl_at (i := 32) rfl))) rfl (Nat.le_of_ble_eq_true rfl) ⟨Nat.le_of_ble_eq_true rfl, Nat.le_of_ble_eq_true rfl, (Nat.le_add_right _ _), (Nat.le_add_right _ _)⟩ dX10_slide_26 ?_
  refine go_iinc (pc := 29) (v := 5) (lv' := [(1, .int 5), (0, .ref (G.2.1 + 32))]) dX10_slide_29 0 rfl (by first | rfl | decide) (by decide) rfl ?_
  refine go_goto (pc := 32) (tgt := 10) dX10_slide_32 (by decide) ?_
  refine go_iload_n (pc := 10) dX10_slide_10 rfl rfl ?_
  refine go_bipush (pc := 11) (v := 24) dX10_slide_11 (by decide) ?_
  refine go_icmp_ge_f (pc := 13) (tgt := 35) dX10_slide_13 (by decide) (by decide) ?_
  refine go_aload_n (pc := 16) dX10_slide_16 rfl rfl ?_
  refine go_aload_n (pc := 17) dX10_slide_17 rfl rfl ?_
  refine go_get (pc := 18) fX10_9 rfl (gz_b (by omega)) ((va_up_ne _ _ (gz_ne (by decide))).trans ((hw 32 (by decide) (by decide)).trans (wl_at (i := 32) rfl))) rfl dX10_slide_18 ?_
  refine go_bipush (pc := 21) (v := 20) dX10_slide_21 (by decide) ?_
  refine go_iload_n (pc := 23) dX10_slide_23 rfl rfl ?_
  refine go_iadd (pc := 24) dX10_slide_24 ?_
  refine go_top (y := 25) (by decide) ?_
  refine go_iald (pc := 25) (gz_b (by omega)) (va_up_self _ _ _) (gv_in (by decide)) dX10_slide_25 ?_
  refine go_top (y := (-1)) rfl ?_
  refine go_callV_v (pc := 26) vX10_123 rfl (cX10_write_33 hn hw) rfl rfl (gz_b (by omega)) ((va_up_ne _ _ (gz_ne (by decide))).trans ((hw 32 (by decide) (by decide)).trans (wl_at (i := 32) rfl))) rfl (Nat.le_of_ble_eq_true rfl) ⟨Nat.le_of_ble_eq_true rfl, Nat.le_of_ble_eq_true rfl, (Nat.le_add_right _ _), (Nat.le_add_right _ _)⟩ dX10_slide_26 ?_
  refine go_iinc (pc := 29) (v := 6) (lv' := [(1, .int 6), (0, .ref (G.2.1 + 32))]) dX10_slide_29 0 rfl (by first | rfl | decide) (by decide) rfl ?_
  refine go_goto (pc := 32) (tgt := 10) dX10_slide_32 (by decide) ?_
  refine go_iload_n (pc := 10) dX10_slide_10 rfl rfl ?_
  refine go_bipush (pc := 11) (v := 24) dX10_slide_11 (by decide) ?_
  refine go_icmp_ge_f (pc := 13) (tgt := 35) dX10_slide_13 (by decide) (by decide) ?_
  refine go_aload_n (pc := 16) dX10_slide_16 rfl rfl ?_
  refine go_aload_n (pc := 17) dX10_slide_17 rfl rfl ?_
  refine go_get (pc := 18) fX10_9 rfl (gz_b (by omega)) ((va_up_ne _ _ (gz_ne (by decide))).trans ((hw 32 (by decide) (by decide)).trans (wl_at (i := 32) rfl))) rfl dX10_slide_18 ?_
  refine go_bipush (pc := 21) (v := 20) dX10_slide_21 (by decide) ?_
  refine go_iload_n (pc := 23) dX10_slide_23 rfl rfl ?_
  refine go_iadd (pc := 24) dX10_slide_24 ?_
  refine go_top (y := 26) (by decide) ?_
  refine go_iald (pc := 25) (gz_b (by omega)) (va_up_self _ _ _) (gv_in (by decide)) dX10_slide_25 ?_
  refine go_top (y := (-1)) rfl ?_
  refine go_callV_v (pc := 26) vX10_123 rfl (cX10_write_34 hn hw) rfl rfl (gz_b (by omega)) ((va_up_ne _ _ (gz_ne (by decide))).trans ((hw 32 (by decide) (by decide)).trans (wl_at (i := 32) rfl))) rfl (Nat.le_of_ble_eq_true rfl) ⟨Nat.le_of_ble_eq_true rfl, Nat.le_of_ble_eq_true rfl, (Nat.le_add_right _ _), (Nat.le_add_right _ _)⟩ dX10_slide_26 ?_
  refine go_iinc (pc := 29) (v := 7) (lv' := [(1, .int 7), (0, .ref (G.2.1 + 32))]) dX10_slide_29 0 rfl (by first | rfl | decide) (by decide) rfl ?_
  refine go_goto (pc := 32) (tgt := 10) dX10_slide_32 (by decide) ?_
  refine go_iload_n (pc := 10) dX10_slide_10 rfl rfl ?_
  refine go_bipush (pc := 11) (v := 24) dX10_slide_11 (by decide) ?_
  refine go_icmp_ge_f (pc := 13) (tgt := 35) dX10_slide_13 (by decide) (by decide) ?_
  refine go_aload_n (pc := 16) dX10_slide_16 rfl rfl ?_
  refine go_aload_n (pc := 17) dX10_slide_17 rfl rfl ?_
  refine go_get (pc := 18) fX10_9 rfl (gz_b (by omega)) ((va_up_ne _ _ (gz_ne (by decide))).trans ((hw 32 (by decide) (by decide)).trans (wl_at (i := 32) rfl))) rfl dX10_slide_18 ?_
  refine go_bipush (pc := 21) (v := 20) dX10_slide_21 (by decide) ?_
  refine go_iload_n (pc := 23) dX10_slide_23 rfl rfl ?_
  refine go_iadd (pc := 24) dX10_slide_24 ?_
  refine go_top (y := 27) (by decide) ?_
  refine go_iald (pc := 25) (gz_b (by omega)) (va_up_self _ _ _) (gv_in (by decide)) dX10_slide_25 ?_
  refine go_top (y := (-1)) rfl ?_
  refine go_callV_v (pc := 26) vX10_123 rfl (cX10_write_35 hn hw) rfl rfl (gz_b (by omega)) ((va_up_ne _ _ (gz_ne (by decide))).trans ((hw 32 (by decide) (by decide)).trans (wl_at (i := 32) rfl))) rfl (Nat.le_of_ble_eq_true rfl) ⟨Nat.le_of_ble_eq_true rfl, Nat.le_of_ble_eq_true rfl, (Nat.le_add_right _ _), (Nat.le_add_right _ _)⟩ dX10_slide_26 ?_
  refine go_iinc (pc := 29) (v := 8) (lv' := [(1, .int 8), (0, .ref (G.2.1 + 32))]) dX10_slide_29 0 rfl (by first | rfl | decide) (by decide) rfl ?_
  refine go_goto (pc := 32) (tgt := 10) dX10_slide_32 (by decide) ?_
  refine go_iload_n (pc := 10) dX10_slide_10 rfl rfl ?_
  refine go_bipush (pc := 11) (v := 24) dX10_slide_11 (by decide) ?_
  refine go_icmp_ge_f (pc := 13) (tgt := 35) dX10_slide_13 (by decide) (by decide) ?_
  refine go_aload_n (pc := 16) dX10_slide_16 rfl rfl ?_
  refine go_aload_n (pc := 17) dX10_slide_17 rfl rfl ?_
  refine go_get (pc := 18) fX10_9 rfl (gz_b (by omega)) ((va_up_ne _ _ (gz_ne (by decide))).trans ((hw 32 (by decide) (by decide)).trans (wl_at (i := 32) rfl))) rfl dX10_slide_18 ?_
  refine go_bipush (pc := 21) (v := 20) dX10_slide_21 (by decide) ?_
  refine go_iload_n (pc := 23) dX10_slide_23 rfl rfl ?_
  refine go_iadd (pc := 24) dX10_slide_24 ?_
  refine go_top (y := 28) (by decide) ?_
  refine go_iald (pc := 25) (gz_b (by omega)) (va_up_self _ _ _) (gv_in (by decide)) dX10_slide_25 ?_
  refine go_top (y := (-1)) rfl ?_
  refine go_callV_v (pc := 26) vX10_123 rfl (cX10_write_36 hn hw) rfl rfl (gz_b (by omega)) ((va_up_ne _ _ (gz_ne (by decide))).trans ((hw 32 (by decide) (by decide)).trans (wl_at (i := 32) rfl))) rfl (Nat.le_of_ble_eq_true rfl) ⟨Nat.le_of_ble_eq_true rfl, Nat.le_of_ble_eq_true rfl, (Nat.le_add_right _ _), (Nat.le_add_right _ _)⟩ dX10_slide_26 ?_
  refine go_iinc (pc := 29) (v := 9) (lv' := [(1, .int 9), (0, .ref (G.2.1 + 32))]) dX10_slide_29 0 rfl (by first | rfl | decide) (by decide) rfl ?_
  refine go_goto (pc := 32) (tgt := 10) dX10_slide_32 (by decide) ?_
  refine go_iload_n (pc := 10) dX10_slide_10 rfl rfl ?_
  refine go_bipush (pc := 11) (v := 24) dX10_slide_11 (by decide) ?_
  refine go_icmp_ge_f (pc := 13) (tgt := 35) dX10_slide_13 (by decide) (by decide) ?_
  refine go_aload_n (pc := 16) dX10_slide_16 rfl rfl ?_
  refine go_aload_n (pc := 17) dX10_slide_17 rfl rfl ?_
  refine go_get (pc := 18) fX10_9 rfl (gz_b (by omega)) ((va_up_ne _ _ (gz_ne (by decide))).trans ((hw 32 (by decide) (by decide)).trans (wl_at (i := 32) rfl))) rfl dX10_slide_18 ?_
  refine go_bipush (pc := 21) (v := 20) dX10_slide_21 (by decide) ?_
  refine go_iload_n (pc := 23) dX10_slide_23 rfl rfl ?_
  refine go_iadd (pc := 24) dX10_slide_24 ?_
  refine go_top (y := 29) (by decide) ?_
  refine go_iald (pc := 25) (gz_b (by omega)) (va_up_self _ _ _) (gv_in (by decide)) dX10_slide_25 ?_
  refine go_top (y := (-1)) rfl ?_
  refine go_callV_v (pc := 26) vX10_123 rfl (cX10_write_37 hn hw) rfl rfl (gz_b (by omega)) ((va_up_ne _ _ (gz_ne (by decide))).trans ((hw 32 (by decide) (by decide)).trans (wl_at (i := 32) rfl))) rfl (Nat.le_of_ble_eq_true rfl) ⟨Nat.le_of_ble_eq_true rfl, Nat.le_of_ble_eq_true rfl, (Nat.le_add_right _ _), (Nat.le_add_right _ _)⟩ dX10_slide_26 ?_
  refine go_iinc (pc := 29) (v := 10) (lv' := [(1, .int 10), (0, .ref (G.2.1 + 32))]) dX10_slide_29 0 rfl (by first | rfl | decide) (by decide) rfl ?_
  refine go_goto (pc := 32) (tgt := 10) dX10_slide_32 (by decide) ?_
  refine go_iload_n (pc := 10) dX10_slide_10 rfl rfl ?_
  refine go_bipush (pc := 11) (v := 24) dX10_slide_11 (by decide) ?_
  refine go_icmp_ge_f (pc := 13) (tgt := 35) dX10_slide_13 (by decide) (by decide) ?_
  refine go_aload_n (pc := 16) dX10_slide_16 rfl rfl ?_
  refine go_aload_n (pc := 17) dX10_slide_17 rfl rfl ?_
  refine go_get (pc := 18) fX10_9 rfl (gz_b (by omega)) ((va_up_ne _ _ (gz_ne (by decide))).trans ((hw 32 (by decide) (by decide)).trans (wl_at (i := 32) rfl))) rfl dX10_slide_18 ?_
  refine go_bipush (pc := 21) (v := 20) dX10_slide_21 (by decide) ?_
  refine go_iload_n (pc := 23) dX10_slide_23 rfl rfl ?_
  refine go_iadd (pc := 24) dX10_slide_24 ?_
  refine go_top (y := 30) (by decide) ?_
  refine go_iald (pc := 25) (gz_b (by omega)) (va_up_self _ _ _) (gv_in (by decide)) dX10_slide_25 ?_
  refine go_top (y := (-1)) rfl ?_
  refine go_callV_v (pc := 26) vX10_123 rfl (cX10_write_38 hn hw) rfl rfl (gz_b (by omega)) ((va_up_ne _ _ (gz_ne (by decide))).trans ((hw 32 (by decide) (by decide)).trans (wl_at (i := 32) rfl))) rfl (Nat.le_of_ble_eq_true rfl) ⟨Nat.le_of_ble_eq_true rfl, Nat.le_of_ble_eq_true rfl, (Nat.le_add_right _ _), (Nat.le_add_right _ _)⟩ dX10_slide_26 ?_
  refine go_iinc (pc := 29) (v := 11) (lv' := [(1, .int 11), (0, .ref (G.2.1 + 32))]) dX10_slide_29 0 rfl (by first | rfl | decide) (by decide) rfl ?_
  refine go_goto (pc := 32) (tgt := 10) dX10_slide_32 (by decide) ?_
  refine go_iload_n (pc := 10) dX10_slide_10 rfl rfl ?_
  refine go_bipush (pc := 11) (v := 24) dX10_slide_11 (by decide) ?_
  refine go_icmp_ge_f (pc := 13) (tgt := 35) dX10_slide_13 (by decide) (by decide) ?_
  refine go_aload_n (pc := 16) dX10_slide_16 rfl rfl ?_
  refine go_aload_n (pc := 17) dX10_slide_17 rfl rfl ?_
  refine go_get (pc := 18) fX10_9 rfl (gz_b (by omega)) ((va_up_ne _ _ (gz_ne (by decide))).trans ((hw 32 (by decide) (by decide)).trans (wl_at (i := 32) rfl))) rfl dX10_slide_18 ?_
  refine go_bipush (pc := 21) (v := 20) dX10_slide_21 (by decide) ?_
  refine go_iload_n (pc := 23) dX10_slide_23 rfl rfl ?_
  refine go_iadd (pc := 24) dX10_slide_24 ?_
  refine go_top (y := 31) (by decide) ?_
  refine go_iald (pc := 25) (gz_b (by omega)) (va_up_self _ _ _) (gv_in (by decide)) dX10_slide_25 ?_
  refine go_top (y := (-1)) rfl ?_
  refine go_callV_v (pc := 26) vX10_123 rfl (cX10_write_39 hn hw) rfl rfl (gz_b (by omega)) ((va_up_ne _ _ (gz_ne (by decide))).trans ((hw 32 (by decide) (by decide)).trans (wl_at (i := 32) rfl))) rfl (Nat.le_of_ble_eq_true rfl) ⟨Nat.le_of_ble_eq_true rfl, Nat.le_of_ble_eq_true rfl, (Nat.le_add_right _ _), (Nat.le_add_right _ _)⟩ dX10_slide_26 ?_
  refine go_iinc (pc := 29) (v := 12) (lv' := [(1, .int 12), (0, .ref (G.2.1 + 32))]) dX10_slide_29 0 rfl (by first | rfl | decide) (by decide) rfl ?_
  refine go_goto (pc := 32) (tgt := 10) dX10_slide_32 (by decide) ?_
  refine go_iload_n (pc := 10) dX10_slide_10 rfl rfl ?_
  refine go_bipush (pc := 11) (v := 24) dX10_slide_11 (by decide) ?_
  refine go_icmp_ge_f (pc := 13) (tgt := 35) dX10_slide_13 (by decide) (by decide) ?_
  refine go_aload_n (pc := 16) dX10_slide_16 rfl rfl ?_
  refine go_aload_n (pc := 17) dX10_slide_17 rfl rfl ?_
  refine go_get (pc := 18) fX10_9 rfl (gz_b (by omega)) ((va_up_ne _ _ (gz_ne (by decide))).trans ((hw 32 (by decide) (by decide)).trans (wl_at (i := 32) rfl))) rfl dX10_slide_18 ?_
  refine go_bipush (pc := 21) (v := 20) dX10_slide_21 (by decide) ?_
  refine go_iload_n (pc := 23) dX10_slide_23 rfl rfl ?_
  refine go_iadd (pc := 24) dX10_slide_24 ?_
  refine go_top (y := 32) (by decide) ?_
  refine go_iald (pc := 25) (gz_b (by omega)) (va_up_self _ _ _) (gv_in (by decide)) dX10_slide_25 ?_
  refine go_top (y := (-1)) rfl ?_
  refine go_callV_v (pc := 26) vX10_123 rfl (cX10_write_40 hn hw) rfl rfl (gz_b (by omega)) ((va_up_ne _ _ (gz_ne (by decide))).trans ((hw 32 (by decide) (by decide)).trans (wl_at (i := 32) rfl))) rfl (Nat.le_of_ble_eq_true rfl) ⟨Nat.le_of_ble_eq_true rfl, Nat.le_of_ble_eq_true rfl, (Nat.le_add_right _ _), (Nat.le_add_right _ _)⟩ dX10_slide_26 ?_
  refine go_iinc (pc := 29) (v := 13) (lv' := [(1, .int 13), (0, .ref (G.2.1 + 32))]) dX10_slide_29 0 rfl (by first | rfl | decide) (by decide) rfl ?_
  refine go_goto (pc := 32) (tgt := 10) dX10_slide_32 (by decide) ?_
  refine go_iload_n (pc := 10) dX10_slide_10 rfl rfl ?_
  refine go_bipush (pc := 11) (v := 24) dX10_slide_11 (by decide) ?_
  refine go_icmp_ge_f (pc := 13) (tgt := 35) dX10_slide_13 (by decide) (by decide) ?_
  refine go_aload_n (pc := 16) dX10_slide_16 rfl rfl ?_
  refine go_aload_n (pc := 17) dX10_slide_17 rfl rfl ?_
  refine go_get (pc := 18) fX10_9 rfl (gz_b (by omega)) ((va_up_ne _ _ (gz_ne (by decide))).trans ((hw 32 (by decide) (by decide)).trans (wl_at (i := 32) rfl))) rfl dX10_slide_18 ?_
  refine go_bipush (pc := 21) (v := 20) dX10_slide_21 (by decide) ?_
  refine go_iload_n (pc := 23) dX10_slide_23 rfl rfl ?_
  refine go_iadd (pc := 24) dX10_slide_24 ?_
  refine go_top (y := 33) (by decide) ?_
  refine go_iald (pc := 25) (gz_b (by omega)) (va_up_self _ _ _) (gv_in (by decide)) dX10_slide_25 ?_
  refine go_top (y := (-1)) rfl ?_
  refine go_callV_v (pc := 26) vX10_123 rfl (cX10_write_41 hn hw) rfl rfl (gz_b (by omega)) ((va_up_ne _ _ (gz_ne (by decide))).trans ((hw 32 (by decide) (by decide)).trans (wl_at (i := 32) rfl))) rfl (Nat.le_of_ble_eq_true rfl) ⟨Nat.le_of_ble_eq_true rfl, Nat.le_of_ble_eq_true rfl, (Nat.le_add_right _ _), (Nat.le_add_right _ _)⟩ dX10_slide_26 ?_
  refine go_iinc (pc := 29) (v := 14) (lv' := [(1, .int 14), (0, .ref (G.2.1 + 32))]) dX10_slide_29 0 rfl (by first | rfl | decide) (by decide) rfl ?_
  refine go_goto (pc := 32) (tgt := 10) dX10_slide_32 (by decide) ?_
  refine go_iload_n (pc := 10) dX10_slide_10 rfl rfl ?_
  refine go_bipush (pc := 11) (v := 24) dX10_slide_11 (by decide) ?_
  refine go_icmp_ge_f (pc := 13) (tgt := 35) dX10_slide_13 (by decide) (by decide) ?_
  refine go_aload_n (pc := 16) dX10_slide_16 rfl rfl ?_
  refine go_aload_n (pc := 17) dX10_slide_17 rfl rfl ?_
  refine go_get (pc := 18) fX10_9 rfl (gz_b (by omega)) ((va_up_ne _ _ (gz_ne (by decide))).trans ((hw 32 (by decide) (by decide)).trans (wl_at (i := 32) rfl))) rfl dX10_slide_18 ?_
  refine go_bipush (pc := 21) (v := 20) dX10_slide_21 (by decide) ?_
  refine go_iload_n (pc := 23) dX10_slide_23 rfl rfl ?_
  refine go_iadd (pc := 24) dX10_slide_24 ?_
  refine go_top (y := 34) (by decide) ?_
  refine go_iald (pc := 25) (gz_b (by omega)) (va_up_self _ _ _) (gv_in (by decide)) dX10_slide_25 ?_
  refine go_top (y := (-1)) rfl ?_
  refine go_callV_v (pc := 26) vX10_123 rfl (cX10_write_42 hn hw) rfl rfl (gz_b (by omega)) ((va_up_ne _ _ (gz_ne (by decide))).trans ((hw 32 (by decide) (by decide)).trans (wl_at (i := 32) rfl))) rfl (Nat.le_of_ble_eq_true rfl) ⟨Nat.le_of_ble_eq_true rfl, Nat.le_of_ble_eq_true rfl, (Nat.le_add_right _ _), (Nat.le_add_right _ _)⟩ dX10_slide_26 ?_
  refine go_iinc (pc := 29) (v := 15) (lv' := [(1, .int 15), (0, .ref (G.2.1 + 32))]) dX10_slide_29 0 rfl (by first | rfl | decide) (by decide) rfl ?_
  refine go_goto (pc := 32) (tgt := 10) dX10_slide_32 (by decide) ?_
  refine go_iload_n (pc := 10) dX10_slide_10 rfl rfl ?_
  refine go_bipush (pc := 11) (v := 24) dX10_slide_11 (by decide) ?_
  refine go_icmp_ge_f (pc := 13) (tgt := 35) dX10_slide_13 (by decide) (by decide) ?_
  refine go_aload_n (pc := 16) dX10_slide_16 rfl rfl ?_
  refine go_aload_n (pc := 17) dX10_slide_17 rfl rfl ?_
  refine go_get (pc := 18) fX10_9 rfl (gz_b (by omega)) ((va_up_ne _ _ (gz_ne (by decide))).trans ((hw 32 (by decide) (by decide)).trans (wl_at (i := 32) rfl))) rfl dX10_slide_18 ?_
  refine go_bipush (pc := 21) (v := 20) dX10_slide_21 (by decide) ?_
  refine go_iload_n (pc := 23) dX10_slide_23 rfl rfl ?_
  refine go_iadd (pc := 24) dX10_slide_24 ?_
  refine go_top (y := 35) (by decide) ?_
  refine go_iald (pc := 25) (gz_b (by omega)) (va_up_self _ _ _) (gv_in (by decide)) dX10_slide_25 ?_
  refine go_top (y := (-1)) rfl ?_
  refine go_callV_v (pc := 26) vX10_123 rfl (cX10_write_43 hn hw) rfl rfl (gz_b (by omega)) ((va_up_ne _ _ (gz_ne (by decide))).trans ((hw 32 (by decide) (by decide)).trans (wl_at (i := 32) rfl))) rfl (Nat.le_of_ble_eq_true rfl) ⟨Nat.le_of_ble_eq_true rfl, Nat.le_of_ble_eq_true rfl, (Nat.le_add_right _ _), (Nat.le_add_right _ _)⟩ dX10_slide_26 ?_
  refine go_iinc (pc := 29) (v := 16) (lv' := [(1, .int 16), (0, .ref (G.2.1 + 32))]) dX10_slide_29 0 rfl (by first | rfl | decide) (by decide) rfl ?_
  refine go_goto (pc := 32) (tgt := 10) dX10_slide_32 (by decide) ?_
  refine go_iload_n (pc := 10) dX10_slide_10 rfl rfl ?_
  refine go_bipush (pc := 11) (v := 24) dX10_slide_11 (by decide) ?_
  refine go_icmp_ge_f (pc := 13) (tgt := 35) dX10_slide_13 (by decide) (by decide) ?_
  refine go_aload_n (pc := 16) dX10_slide_16 rfl rfl ?_
  refine go_aload_n (pc := 17) dX10_slide_17 rfl rfl ?_
  refine go_get (pc := 18) fX10_9 rfl (gz_b (by omega)) ((va_up_ne _ _ (gz_ne (by decide))).trans ((hw 32 (by decide) (by decide)).trans (wl_at (i := 32) rfl))) rfl dX10_slide_18 ?_
  refine go_bipush (pc := 21) (v := 20) dX10_slide_21 (by decide) ?_
  refine go_iload_n (pc := 23) dX10_slide_23 rfl rfl ?_
  refine go_iadd (pc := 24) dX10_slide_24 ?_
  refine go_top (y := 36) (by decide) ?_
  refine go_iald (pc := 25) (gz_b (by omega)) (va_up_self _ _ _) (gv_in (by decide)) dX10_slide_25 ?_
  refine go_top (y := (-1)) rfl ?_
  refine go_callV_v (pc := 26) vX10_123 rfl (cX10_write_44 hn hw) rfl rfl (gz_b (by omega)) ((va_up_ne _ _ (gz_ne (by decide))).trans ((hw 32 (by decide) (by decide)).trans (wl_at (i := 32) rfl))) rfl (Nat.le_of_ble_eq_true rfl) ⟨Nat.le_of_ble_eq_true rfl, Nat.le_of_ble_eq_true rfl, (Nat.le_add_right _ _), (Nat.le_add_right _ _)⟩ dX10_slide_26 ?_
  refine go_iinc (pc := 29) (v := 17) (lv' := [(1, .int 17), (0, .ref (G.2.1 + 32))]) dX10_slide_29 0 rfl (by first | rfl | decide) (by decide) rfl ?_
  refine go_goto (pc := 32) (tgt := 10) dX10_slide_32 (by decide) ?_
  refine go_iload_n (pc := 10) dX10_slide_10 rfl rfl ?_
  refine go_bipush (pc := 11) (v := 24) dX10_slide_11 (by decide) ?_
  refine go_icmp_ge_f (pc := 13) (tgt := 35) dX10_slide_13 (by decide) (by decide) ?_
  refine go_aload_n (pc := 16) dX10_slide_16 rfl rfl ?_
  refine go_aload_n (pc := 17) dX10_slide_17 rfl rfl ?_
  refine go_get (pc := 18) fX10_9 rfl (gz_b (by omega)) ((va_up_ne _ _ (gz_ne (by decide))).trans ((hw 32 (by decide) (by decide)).trans (wl_at (i := 32) rfl))) rfl dX10_slide_18 ?_
  refine go_bipush (pc := 21) (v := 20) dX10_slide_21 (by decide) ?_
  refine go_iload_n (pc := 23) dX10_slide_23 rfl rfl ?_
  refine go_iadd (pc := 24) dX10_slide_24 ?_
  refine go_top (y := 37) (by decide) ?_
  refine go_iald (pc := 25) (gz_b (by omega)) (va_up_self _ _ _) (gv_in (by decide)) dX10_slide_25 ?_
  refine go_top (y := (-1)) rfl ?_
  refine go_callV_v (pc := 26) vX10_123 rfl (cX10_write_45 hn hw) rfl rfl (gz_b (by omega)) ((va_up_ne _ _ (gz_ne (by decide))).trans ((hw 32 (by decide) (by decide)).trans (wl_at (i := 32) rfl))) rfl (Nat.le_of_ble_eq_true rfl) ⟨Nat.le_of_ble_eq_true rfl, Nat.le_of_ble_eq_true rfl, (Nat.le_add_right _ _), (Nat.le_add_right _ _)⟩ dX10_slide_26 ?_
  refine go_iinc (pc := 29) (v := 18) (lv' := [(1, .int 18), (0, .ref (G.2.1 + 32))]) dX10_slide_29 0 rfl (by first | rfl | decide) (by decide) rfl ?_
  refine go_goto (pc := 32) (tgt := 10) dX10_slide_32 (by decide) ?_
  refine go_iload_n (pc := 10) dX10_slide_10 rfl rfl ?_
  refine go_bipush (pc := 11) (v := 24) dX10_slide_11 (by decide) ?_
  refine go_icmp_ge_f (pc := 13) (tgt := 35) dX10_slide_13 (by decide) (by decide) ?_
  refine go_aload_n (pc := 16) dX10_slide_16 rfl rfl ?_
  refine go_aload_n (pc := 17) dX10_slide_17 rfl rfl ?_
  refine go_get (pc := 18) fX10_9 rfl (gz_b (by omega)) ((va_up_ne _ _ (gz_ne (by decide))).trans ((hw 32 (by decide) (by decide)).trans (wl_at (i := 32) rfl))) rfl dX10_slide_18 ?_
  refine go_bipush (pc := 21) (v := 20) dX10_slide_21 (by decide) ?_
  refine go_iload_n (pc := 23) dX10_slide_23 rfl rfl ?_
  refine go_iadd (pc := 24) dX10_slide_24 ?_
  refine go_top (y := 38) (by decide) ?_
  refine go_iald (pc := 25) (gz_b (by omega)) (va_up_self _ _ _) (gv_in (by decide)) dX10_slide_25 ?_
  refine go_top (y := (-1)) rfl ?_
  refine go_callV_v (pc := 26) vX10_123 rfl (cX10_write_46 hn hw) rfl rfl (gz_b (by omega)) ((va_up_ne _ _ (gz_ne (by decide))).trans ((hw 32 (by decide) (by decide)).trans (wl_at (i := 32) rfl))) rfl (Nat.le_of_ble_eq_true rfl) ⟨Nat.le_of_ble_eq_true rfl, Nat.le_of_ble_eq_true rfl, (Nat.le_add_right _ _), (Nat.le_add_right _ _)⟩ dX10_slide_26 ?_
  refine go_iinc (pc := 29) (v := 19) (lv' := [(1, .int 19), (0, .ref (G.2.1 + 32))]) dX10_slide_29 0 rfl (by first | rfl | decide) (by decide) rfl ?_
  refine go_goto (pc := 32) (tgt := 10) dX10_slide_32 (by decide) ?_
  refine go_iload_n (pc := 10) dX10_slide_10 rfl rfl ?_
  refine go_bipush (pc := 11) (v := 24) dX10_slide_11 (by decide) ?_
  refine go_icmp_ge_f (pc := 13) (tgt := 35) dX10_slide_13 (by decide) (by decide) ?_
  refine go_aload_n (pc := 16) dX10_slide_16 rfl rfl ?_
  refine go_aload_n (pc := 17) dX10_slide_17 rfl rfl ?_
  refine go_get (pc := 18) fX10_9 rfl (gz_b (by omega)) ((va_up_ne _ _ (gz_ne (by decide))).trans ((hw 32 (by decide) (by decide)).trans (wl_at (i := 32) rfl))) rfl dX10_slide_18 ?_
  refine go_bipush (pc := 21) (v := 20) dX10_slide_21 (by decide) ?_
  refine go_iload_n (pc := 23) dX10_slide_23 rfl rfl ?_
  refine go_iadd (pc := 24) dX10_slide_24 ?_
  refine go_top (y := 39) (by decide) ?_
  refine go_iald (pc := 25) (gz_b (by omega)) (va_up_self _ _ _) (gv_in (by decide)) dX10_slide_25 ?_
  refine go_top (y := (-1)) rfl ?_
  refine go_callV_v (pc := 26) vX10_123 rfl (cX10_write_47 hn hw) rfl rfl (gz_b (by omega)) ((va_up_ne _ _ (gz_ne (by decide))).trans ((hw 32 (by decide) (by decide)).trans (wl_at (i := 32) rfl))) rfl (Nat.le_of_ble_eq_true rfl) ⟨Nat.le_of_ble_eq_true rfl, Nat.le_of_ble_eq_true rfl, (Nat.le_add_right _ _), (Nat.le_add_right _ _)⟩ dX10_slide_26 ?_
  refine go_iinc (pc := 29) (v := 20) (lv' := [(1, .int 20), (0, .ref (G.2.1 + 32))]) dX10_slide_29 0 rfl (by first | rfl | decide) (by decide) rfl ?_
  refine go_goto (pc := 32) (tgt := 10) dX10_slide_32 (by decide) ?_
  refine go_iload_n (pc := 10) dX10_slide_10 rfl rfl ?_
  refine go_bipush (pc := 11) (v := 24) dX10_slide_11 (by decide) ?_
  refine go_icmp_ge_f (pc := 13) (tgt := 35) dX10_slide_13 (by decide) (by decide) ?_
  refine go_aload_n (pc := 16) dX10_slide_16 rfl rfl ?_
  refine go_aload_n (pc := 17) dX10_slide_17 rfl rfl ?_
  refine go_get (pc := 18) fX10_9 rfl (gz_b (by omega)) ((va_up_ne _ _ (gz_ne (by decide))).trans ((hw 32 (by decide) (by decide)).trans (wl_at (i := 32) rfl))) rfl dX10_slide_18 ?_
  refine go_bipush (pc := 21) (v := 20) dX10_slide_21 (by decide) ?_
  refine go_iload_n (pc := 23) dX10_slide_23 rfl rfl ?_
  refine go_iadd (pc := 24) dX10_slide_24 ?_
  refine go_top (y := 40) (by decide) ?_
  refine go_iald (pc := 25) (gz_b (by omega)) (va_up_self _ _ _) (gv_in (by decide)) dX10_slide_25 ?_
  refine go_top (y := (-1)) rfl ?_
  refine go_callV_v (pc := 26) vX10_123 rfl (cX10_write_48 hn hw) rfl rfl (gz_b (by omega)) ((va_up_ne _ _ (gz_ne (by decide))).trans ((hw 32 (by decide) (by decide)).trans (wl_at (i := 32) rfl))) rfl (Nat.le_of_ble_eq_true rfl) ⟨Nat.le_of_ble_eq_true rfl, Nat.le_of_ble_eq_true rfl, (Nat.le_add_right _ _), (Nat.le_add_right _ _)⟩ dX10_slide_26 ?_
  refine go_iinc (pc := 29) (v := 21) (lv' := [(1, .int 21), (0, .ref (G.2.1 + 32))]) dX10_slide_29 0 rfl (by first | rfl | decide) (by decide) rfl ?_
  refine go_goto (pc := 32) (tgt := 10) dX10_slide_32 (by decide) ?_
  refine go_iload_n (pc := 10) dX10_slide_10 rfl rfl ?_
  refine go_bipush (pc := 11) (v := 24) dX10_slide_11 (by decide) ?_
  refine go_icmp_ge_f (pc := 13) (tgt := 35) dX10_slide_13 (by decide) (by decide) ?_
  refine go_aload_n (pc := 16) dX10_slide_16 rfl rfl ?_
  refine go_aload_n (pc := 17) dX10_slide_17 rfl rfl ?_
  refine go_get (pc := 18) fX10_9 rfl (gz_b (by omega)) ((va_up_ne _ _ (gz_ne (by decide))).trans ((hw 32 (by decide) (by decide)).trans (wl_at (i := 32) rfl))) rfl dX10_slide_18 ?_
  refine go_bipush (pc := 21) (v := 20) dX10_slide_21 (by decide) ?_
  refine go_iload_n (pc := 23) dX10_slide_23 rfl rfl ?_
  refine go_iadd (pc := 24) dX10_slide_24 ?_
  refine go_top (y := 41) (by decide) ?_
  refine go_iald (pc := 25) (gz_b (by omega)) (va_up_self _ _ _) (gv_in (by decide)) dX10_slide_25 ?_
  refine go_top (y := (-1)) rfl ?_
  refine go_callV_v (pc := 26) vX10_123 rfl (cX10_write_49 hn hw) rfl rfl (gz_b (by omega)) ((va_up_ne _ _ (gz_ne (by decide))).trans ((hw 32 (by decide) (by decide)).trans (wl_at (i := 32) rfl))) rfl (Nat.le_of_ble_eq_true rfl) ⟨Nat.le_of_ble_eq_true rfl, Nat.le_of_ble_eq_true rfl, (Nat.le_add_right _ _), (Nat.le_add_right _ _)⟩ dX10_slide_26 ?_
  refine go_iinc (pc := 29) (v := 22) (lv' := [(1, .int 22), (0, .ref (G.2.1 + 32))]) dX10_slide_29 0 rfl (by first | rfl | decide) (by decide) rfl ?_
  refine go_goto (pc := 32) (tgt := 10) dX10_slide_32 (by decide) ?_
  refine go_iload_n (pc := 10) dX10_slide_10 rfl rfl ?_
  refine go_bipush (pc := 11) (v := 24) dX10_slide_11 (by decide) ?_
  refine go_icmp_ge_f (pc := 13) (tgt := 35) dX10_slide_13 (by decide) (by decide) ?_
  refine go_aload_n (pc := 16) dX10_slide_16 rfl rfl ?_
  refine go_aload_n (pc := 17) dX10_slide_17 rfl rfl ?_
  refine go_get (pc := 18) fX10_9 rfl (gz_b (by omega)) ((va_up_ne _ _ (gz_ne (by decide))).trans ((hw 32 (by decide) (by decide)).trans (wl_at (i := 32) rfl))) rfl dX10_slide_18 ?_
  refine go_bipush (pc := 21) (v := 20) dX10_slide_21 (by decide) ?_
  refine go_iload_n (pc := 23) dX10_slide_23 rfl rfl ?_
  refine go_iadd (pc := 24) dX10_slide_24 ?_
  refine go_top (y := 42) (by decide) ?_
  refine go_iald (pc := 25) (gz_b (by omega)) (va_up_self _ _ _) (gv_in (by decide)) dX10_slide_25 ?_
  refine go_top (y := (-1)) rfl ?_
  refine go_callV_v (pc := 26) vX10_123 rfl (cX10_write_50 hn hw) rfl rfl (gz_b (by omega)) ((va_up_ne _ _ (gz_ne (by decide))).trans ((hw 32 (by decide) (by decide)).trans (wl_at (i := 32) rfl))) rfl (Nat.le_of_ble_eq_true rfl) ⟨Nat.le_of_ble_eq_true rfl, Nat.le_of_ble_eq_true rfl, (Nat.le_add_right _ _), (Nat.le_add_right _ _)⟩ dX10_slide_26 ?_
  refine go_iinc (pc := 29) (v := 23) (lv' := [(1, .int 23), (0, .ref (G.2.1 + 32))]) dX10_slide_29 0 rfl (by first | rfl | decide) (by decide) rfl ?_
  refine go_goto (pc := 32) (tgt := 10) dX10_slide_32 (by decide) ?_
  refine go_iload_n (pc := 10) dX10_slide_10 rfl rfl ?_
  refine go_bipush (pc := 11) (v := 24) dX10_slide_11 (by decide) ?_
  refine go_icmp_ge_f (pc := 13) (tgt := 35) dX10_slide_13 (by decide) (by decide) ?_
  refine go_aload_n (pc := 16) dX10_slide_16 rfl rfl ?_
  refine go_aload_n (pc := 17) dX10_slide_17 rfl rfl ?_
  refine go_get (pc := 18) fX10_9 rfl (gz_b (by omega)) ((va_up_ne _ _ (gz_ne (by decide))).trans ((hw 32 (by decide) (by decide)).trans (wl_at (i := 32) rfl))) rfl dX10_slide_18 ?_
  refine go_bipush (pc := 21) (v := 20) dX10_slide_21 (by decide) ?_
  refine go_iload_n (pc := 23) dX10_slide_23 rfl rfl ?_
  refine go_iadd (pc := 24) dX10_slide_24 ?_
  refine go_top (y := 43) (by decide) ?_
  refine go_iald (pc := 25) (gz_b (by omega)) (va_up_self _ _ _) (gv_in (by decide)) dX10_slide_25 ?_
  refine go_top (y := (-1)) rfl ?_
  refine go_callV_v (pc := 26) vX10_123 rfl (cX10_write_51 hn hw) rfl rfl (gz_b (by omega)) ((va_up_ne _ _ (gz_ne (by decide))).trans ((hw 32 (by decide) (by decide)).trans (wl_at (i := 32) rfl))) rfl (Nat.le_of_ble_eq_true rfl) ⟨Nat.le_of_ble_eq_true rfl, Nat.le_of_ble_eq_true rfl, (Nat.le_add_right _ _), (Nat.le_add_right _ _)⟩ dX10_slide_26 ?_
  refine go_iinc (pc := 29) (v := 24) (lv' := [(1, .int 24), (0, .ref (G.2.1 + 32))]) dX10_slide_29 0 rfl (by first | rfl | decide) (by decide) rfl ?_
  refine go_goto (pc := 32) (tgt := 10) dX10_slide_32 (by decide) ?_
  refine go_iload_n (pc := 10) dX10_slide_10 rfl rfl ?_
  refine go_bipush (pc := 11) (v := 24) dX10_slide_11 (by decide) ?_
  refine go_icmp_ge_t (pc := 13) (tgt := 35) dX10_slide_13 (by decide) (by decide) ?_
  refine go_aload_n (pc := 35) dX10_slide_35 rfl rfl ?_
  refine go_aload_n (pc := 36) dX10_slide_36 rfl rfl ?_
  refine go_get (pc := 37) fX10_9 rfl (gz_b (by omega)) ((va_up_ne _ _ (gz_ne (by decide))).trans ((hw 32 (by decide) (by decide)).trans (wl_at (i := 32) rfl))) rfl dX10_slide_37 ?_
  refine go_bipush (pc := 40) (v := 6) dX10_slide_40 (by decide) ?_
  refine go_iald (pc := 42) (gz_b (by omega)) (va_up_self _ _ _) (gv_in (by decide)) dX10_slide_42 ?_
  refine go_top (y := 0) rfl ?_
  refine go_callV_v (pc := 43) vX10_123 rfl (cX10_write_52 hn hw) rfl rfl (gz_b (by omega)) ((va_up_ne _ _ (gz_ne (by decide))).trans ((hw 32 (by decide) (by decide)).trans (wl_at (i := 32) rfl))) rfl (Nat.le_of_ble_eq_true rfl) ⟨Nat.le_of_ble_eq_true rfl, Nat.le_of_ble_eq_true rfl, (Nat.le_add_right _ _), (Nat.le_add_right _ _)⟩ dX10_slide_43 ?_
  refine go_iconst (pc := 46) (v := 0) dX10_slide_46 (by decide) ?_
  refine go_istore_n (pc := 47) (lv' := [(1, .int 0), (0, .ref (G.2.1 + 32))]) dX10_slide_47 rfl (by decide) rfl ?_
  refine go_iconst (pc := 48) (v := 0) dX10_slide_48 (by decide) ?_
  refine go_istore_n (pc := 49) (lv' := [(2, .int 0), (1, .int 0), (0, .ref (G.2.1 + 32))]) dX10_slide_49 rfl (by decide) rfl ?_
  refine go_iload_n (pc := 50) dX10_slide_50 rfl rfl ?_
  refine go_aload_n (pc := 51) dX10_slide_51 rfl rfl ?_
  refine go_get (pc := 52) fX10_9 rfl (gz_b (by omega)) ((va_up_ne _ _ (gz_ne (by decide))).trans ((hw 32 (by decide) (by decide)).trans (wl_at (i := 32) rfl))) rfl dX10_slide_52 ?_
  refine go_bipush (pc := 55) (v := 16) dX10_slide_55 (by decide) ?_
  refine go_iald (pc := 57) (gz_b (by omega)) (va_up_self _ _ _) (gv_in (by decide)) dX10_slide_57 ?_
  refine go_top (y := 0) rfl ?_
  refine go_icmp_ge_t (pc := 58) (tgt := 207) dX10_slide_58 (by decide) (by decide) ?_
  refine go_iload_n (pc := 207) dX10_slide_207 rfl rfl ?_
  refine go_istore_n (pc := 208) (lv' := [(3, .int 0), (2, .int 0), (1, .int 0), (0, .ref (G.2.1 + 32))]) dX10_slide_208 rfl (by decide) rfl ?_
  refine go_iload_n (pc := 209) dX10_slide_209 rfl rfl ?_
  refine go_aload_n (pc := 210) dX10_slide_210 rfl rfl ?_
  refine go_get (pc := 211) fX10_9 rfl (gz_b (by omega)) ((va_up_ne _ _ (gz_ne (by decide))).trans ((hw 32 (by decide) (by decide)).trans (wl_at (i := 32) rfl))) rfl dX10_slide_211 ?_
  refine go_bipush (pc := 214) (v := 16) dX10_slide_214 (by decide) ?_
  refine go_iald (pc := 216) (gz_b (by omega)) (va_up_self _ _ _) (gv_in (by decide)) dX10_slide_216 ?_
  refine go_top (y := 0) rfl ?_
  refine go_icmp_ge_t (pc := 217) (tgt := 237) dX10_slide_217 (by decide) (by decide) ?_
  refine go_aload_n (pc := 237) dX10_slide_237 rfl rfl ?_
  refine go_get (pc := 238) fX10_9 rfl (gz_b (by omega)) ((va_up_ne _ _ (gz_ne (by decide))).trans ((hw 32 (by decide) (by decide)).trans (wl_at (i := 32) rfl))) rfl dX10_slide_238 ?_
  refine go_bipush (pc := 241) (v := 16) dX10_slide_241 (by decide) ?_
  refine go_iload_n (pc := 243) dX10_slide_243 rfl rfl ?_
  refine go_iast (pc := 244) (gz_b (by omega)) (va_up_self _ _ _) (gv_in (by decide)) dX10_slide_244 ?_
  refine go_w (va_up_up _ _ _ _) ?_
  refine go_aload_n (pc := 245) dX10_slide_245 rfl rfl ?_
  refine go_aload_n (pc := 246) dX10_slide_246 rfl rfl ?_
  refine go_get (pc := 247) fX10_9 rfl (gz_b (by omega)) ((va_up_ne _ _ (gz_ne (by decide))).trans ((hw 32 (by decide) (by decide)).trans (wl_at (i := 32) rfl))) rfl dX10_slide_247 ?_
  refine go_bipush (pc := 250) (v := 7) dX10_slide_250 (by decide) ?_
  refine go_iald (pc := 252) (gz_b (by omega)) (va_up_self _ _ _) (gv_in (by decide)) dX10_slide_252 ?_
  refine go_top (y := 0) rfl ?_
  refine go_callV_v (pc := 253) vX10_123 rfl (cX10_write_53 hn hw) rfl rfl (gz_b (by omega)) ((va_up_ne _ _ (gz_ne (by decide))).trans ((hw 32 (by decide) (by decide)).trans (wl_at (i := 32) rfl))) rfl (Nat.le_of_ble_eq_true rfl) ⟨Nat.le_of_ble_eq_true rfl, Nat.le_of_ble_eq_true rfl, (Nat.le_add_right _ _), (Nat.le_add_right _ _)⟩ dX10_slide_253 ?_
  refine go_iconst (pc := 256) (v := 0) dX10_slide_256 (by decide) ?_
  refine go_istore_n (pc := 257) (lv' := [(3, .int 0), (2, .int 0), (1, .int 0), (0, .ref (G.2.1 + 32))]) dX10_slide_257 rfl (by decide) rfl ?_
  refine go_iload_n (pc := 258) dX10_slide_258 rfl rfl ?_
  refine go_aload_n (pc := 259) dX10_slide_259 rfl rfl ?_
  refine go_get (pc := 260) fX10_9 rfl (gz_b (by omega)) ((va_up_ne _ _ (gz_ne (by decide))).trans ((hw 32 (by decide) (by decide)).trans (wl_at (i := 32) rfl))) rfl dX10_slide_260 ?_
  refine go_bipush (pc := 263) (v := 7) dX10_slide_263 (by decide) ?_
  refine go_iald (pc := 265) (gz_b (by omega)) (va_up_self _ _ _) (gv_in (by decide)) dX10_slide_265 ?_
  refine go_top (y := 0) rfl ?_
  refine go_icmp_ge_t (pc := 266) (tgt := 285) dX10_slide_266 (by decide) (by decide) ?_
  refine go_aload_n (pc := 285) dX10_slide_285 rfl rfl ?_
  refine go_aload_n (pc := 286) dX10_slide_286 rfl rfl ?_
  refine go_callV_i (pc := 287) vX10_132 rfl (cX10_sum_2 hn hw) rfl rfl (gz_b (by omega)) ((va_up_ne _ _ (gz_ne (by decide))).trans ((hw 32 (by decide) (by decide)).trans (wl_at (i := 32) rfl))) rfl (Nat.le_of_ble_eq_true rfl) ⟨Nat.le_of_ble_eq_true rfl, Nat.le_of_ble_eq_true rfl, (Nat.le_add_right _ _), (Nat.le_add_right _ _)⟩ dX10_slide_287 ?_
  refine go_callV_v (pc := 290) vX10_123 rfl (cX10_write_54 hn hw) rfl rfl (gz_b (by omega)) ((va_up_ne _ _ (gz_ne (by decide))).trans ((hw 32 (by decide) (by decide)).trans (wl_at (i := 32) rfl))) rfl (Nat.le_of_ble_eq_true rfl) ⟨Nat.le_of_ble_eq_true rfl, Nat.le_of_ble_eq_true rfl, (Nat.le_add_right _ _), (Nat.le_add_right _ _)⟩ dX10_slide_290 ?_
  exact go_vret (pc := 293) rfl dX10_slide_293
set_option maxRecDepth 100000 in
set_option maxHeartbeats 4000000 in
theorem cX10_end_2 {l : Launch} {G : gG} {n k : Nat} {w : Nat → va_E} (hn : 42 ≤ n) (hw : ∀ i, 32 ≤ i → i < 42 → w (G.2.1 + i) = wl G.2.1 (LF G) (G.2.1 + i)) : Ct l G mX10_end 2 47 [.ref (G.2.1 + 32)] n k (va_up w (G.2.1 + 33) (ai G 26100 (upd (upd (upd (sx 256) (3 : Int32).toNatClampNeg 1) (4 : Int32).toNatClampNeg 0) (17 : Int32).toNatClampNeg 0))) (none, n, k, (va_up w (G.2.1 + 33) (ai G 26100 (upd (upd (upd (upd (upd (upd (upd (upd (upd (upd (upd (upd (upd (upd (upd (upd (upd (upd (upd (upd (upd (upd (upd (upd (upd (upd (upd (upd (upd (upd (upd (upd (upd (upd (upd (upd (upd (upd (upd (upd (upd (upd (upd (upd (upd (upd (upd (upd (upd (upd (upd (upd (upd (upd (upd (upd (upd (upd (upd (upd (upd (upd (upd (upd (upd (upd (upd (upd (upd (upd (upd (upd (upd (upd (upd (upd (upd (upd (upd (upd (upd (upd (upd (upd (upd (upd (upd (upd (upd (upd (upd (upd (upd (upd (sx 256) (3 : Int32).toNatClampNeg 1) (4 : Int32).toNatClampNeg 0) (17 : Int32).toNatClampNeg 0) (5 : Int32).toNatClampNeg 1) (6 : Int32).toNatClampNeg 0) (7 : Int32).toNatClampNeg 0) (8 : Int32).toNatClampNeg 0) (9 : Int32).toNatClampNeg 0) (15 : Int32).toNatClampNeg 0) (10100 : Int32).toNatClampNeg ((-1))) (18100 : Int32).toNatClampNeg ((-1))) (15 : Int32).toNatClampNeg 1) (10101 : Int32).toNatClampNeg ((-1))) (18101 : Int32).toNatClampNeg ((-1))) (15 : Int32).toNatClampNeg 2) (10102 : Int32).toNatClampNeg ((-1))) (18102 : Int32).toNatClampNeg ((-1))) (15 : Int32).toNatClampNeg 3) (10103 : Int32).toNatClampNeg ((-1))) (18103 : Int32).toNatClampNeg ((-1))) (15 : Int32).toNatClampNeg 4) (10104 : Int32).toNatClampNeg ((-1))) (18104 : Int32).toNatClampNeg ((-1))) (15 : Int32).toNatClampNeg 5) (10105 : Int32).toNatClampNeg ((-1))) (18105 : Int32).toNatClampNeg ((-1))) (15 : Int32).toNatClampNeg 6) (10106 : Int32).toNatClampNeg ((-1))) (18106 : Int32).toNatClampNeg ((-1))) (15 : Int32).toNatClampNeg 7) (10107 : Int32).toNatClampNeg ((-1))) (18107 : Int32).toNatClampNeg ((-1))) (15 : Int32).toNatClampNeg 8) (10108 : Int32).toNatClampNeg ((-1))) (18108 : Int32).toNatClampNeg ((-1))) (15 : Int32).toNatClampNeg 9) (10109 : Int32).toNatClampNeg ((-1))) (18109 : Int32).toNatClampNeg ((-1))) (15 : Int32).toNatClampNeg 10) (10110 : Int32).toNatClampNeg ((-1))) (18110 : Int32).toNatClampNeg ((-1))) (15 : Int32).toNatClampNeg 11) (10111 : Int32).toNatClampNeg ((-1))) (18111 : Int32).toNatClampNeg ((-1))) (15 : Int32).toNatClampNeg 12) (10112 : Int32).toNatClampNeg ((-1))) (18112 : Int32).toNatClampNeg ((-1))) (15 : Int32).toNatClampNeg 13) (10113 : Int32).toNatClampNeg ((-1))) (18113 : Int32).toNatClampNeg ((-1))) (15 : Int32).toNatClampNeg 14) (10114 : Int32).toNatClampNeg ((-1))) (18114 : Int32).toNatClampNeg ((-1))) (15 : Int32).toNatClampNeg 15) (10115 : Int32).toNatClampNeg ((-1))) (18115 : Int32).toNatClampNeg ((-1))) (15 : Int32).toNatClampNeg 16) (10116 : Int32).toNatClampNeg ((-1))) (18116 : Int32).toNatClampNeg ((-1))) (15 : Int32).toNatClampNeg 17) (10117 : Int32).toNatClampNeg ((-1))) (18117 : Int32).toNatClampNeg ((-1))) (15 : Int32).toNatClampNeg 18) (10118 : Int32).toNatClampNeg ((-1))) (18118 : Int32).toNatClampNeg ((-1))) (15 : Int32).toNatClampNeg 19) (10119 : Int32).toNatClampNeg ((-1))) (18119 : Int32).toNatClampNeg ((-1))) (15 : Int32).toNatClampNeg 20) (10120 : Int32).toNatClampNeg ((-1))) (18120 : Int32).toNatClampNeg ((-1))) (15 : Int32).toNatClampNeg 21) (10121 : Int32).toNatClampNeg ((-1))) (18121 : Int32).toNatClampNeg ((-1))) (15 : Int32).toNatClampNeg 22) (10122 : Int32).toNatClampNeg ((-1))) (18122 : Int32).toNatClampNeg ((-1))) (15 : Int32).toNatClampNeg 23) (10123 : Int32).toNatClampNeg ((-1))) (18123 : Int32).toNatClampNeg ((-1))) (15 : Int32).toNatClampNeg 24) (10124 : Int32).toNatClampNeg 0) (18124 : Int32).toNatClampNeg 0) (15 : Int32).toNatClampNeg 25) (16 : Int32).toNatClampNeg 0) (10125 : Int32).toNatClampNeg 0) (18125 : Int32).toNatClampNeg 0) (15 : Int32).toNatClampNeg 26) (10126 : Int32).toNatClampNeg 1072725825) (18126 : Int32).toNatClampNeg 1072725825) (15 : Int32).toNatClampNeg 27) (4 : Int32).toNatClampNeg 0) (17 : Int32).toNatClampNeg 0) (3 : Int32).toNatClampNeg 0)))) := by
  refine Ct.of (by decide) (Nat.le_of_ble_eq_true rfl) ⟨Nat.le_refl _, Nat.le_refl _⟩ ?_
  show Go l G mX10_end _ 0 [(0, .ref (G.2.1 + 32))] [] n k (va_up w (G.2.1 + 33) (ai G 26100 (upd (upd (upd (sx 256) (3 : Int32).toNatClampNeg 1) (4 : Int32).toNatClampNeg 0) (17 : Int32).toNatClampNeg 0)))
  refine go_aload_n (pc := 0) dX10_end_0 rfl rfl ?_
  refine go_get (pc := 1) fX10_9 rfl (gz_b (by omega)) ((va_up_ne _ _ (gz_ne (by decide))).trans ((hw 32 (by decide) (by decide)).trans (wl_at (i := 32) rfl))) rfl dX10_end_1 ?_
  refine go_iconst (pc := 4) (v := 5) dX10_end_4 (by decide) ?_
  refine go_dup2 (pc := 5) dX10_end_5 rfl rfl ?_
  refine go_iald (pc := 6) (gz_b (by omega)) (va_up_self _ _ _) (gv_in (by decide)) dX10_end_6 ?_
  refine go_top (y := 0) rfl ?_
  refine go_iconst (pc := 7) (v := 1) dX10_end_7 (by decide) ?_
  refine go_iadd (pc := 8) dX10_end_8 ?_
  refine go_top (y := 1) (by decide) ?_
  refine go_iast (pc := 9) (gz_b (by omega)) (va_up_self _ _ _) (gv_in (by decide)) dX10_end_9 ?_
  refine go_w (va_up_up _ _ _ _) ?_
  refine go_aload_n (pc := 10) dX10_end_10 rfl rfl ?_
  refine go_get (pc := 11) fX10_9 rfl (gz_b (by omega)) ((va_up_ne _ _ (gz_ne (by decide))).trans ((hw 32 (by decide) (by decide)).trans (wl_at (i := 32) rfl))) rfl dX10_end_11 ?_
  refine go_bipush (pc := 14) (v := 6) dX10_end_14 (by decide) ?_
  refine go_aload_n (pc := 16) dX10_end_16 rfl rfl ?_
  refine go_get (pc := 17) fX10_9 rfl (gz_b (by omega)) ((va_up_ne _ _ (gz_ne (by decide))).trans ((hw 32 (by decide) (by decide)).trans (wl_at (i := 32) rfl))) rfl dX10_end_17 ?_
  refine go_iconst (pc := 20) (v := 4) dX10_end_20 (by decide) ?_
  refine go_iald (pc := 21) (gz_b (by omega)) (va_up_self _ _ _) (gv_in (by decide)) dX10_end_21 ?_
  refine go_top (y := 0) rfl ?_
  refine go_iast (pc := 22) (gz_b (by omega)) (va_up_self _ _ _) (gv_in (by decide)) dX10_end_22 ?_
  refine go_w (va_up_up _ _ _ _) ?_
  refine go_aload_n (pc := 23) dX10_end_23 rfl rfl ?_
  refine go_get (pc := 24) fX10_9 rfl (gz_b (by omega)) ((va_up_ne _ _ (gz_ne (by decide))).trans ((hw 32 (by decide) (by decide)).trans (wl_at (i := 32) rfl))) rfl dX10_end_24 ?_
  refine go_bipush (pc := 27) (v := 7) dX10_end_27 (by decide) ?_
  refine go_iconst (pc := 29) (v := 0) dX10_end_29 (by decide) ?_
  refine go_iast (pc := 30) (gz_b (by omega)) (va_up_self _ _ _) (gv_in (by decide)) dX10_end_30 ?_
  refine go_w (va_up_up _ _ _ _) ?_
  refine go_aload_n (pc := 31) dX10_end_31 rfl rfl ?_
  refine go_get (pc := 32) fX10_9 rfl (gz_b (by omega)) ((va_up_ne _ _ (gz_ne (by decide))).trans ((hw 32 (by decide) (by decide)).trans (wl_at (i := 32) rfl))) rfl dX10_end_32 ?_
  refine go_bipush (pc := 35) (v := 8) dX10_end_35 (by decide) ?_
  refine go_iconst (pc := 37) (v := 0) dX10_end_37 (by decide) ?_
  refine go_iast (pc := 38) (gz_b (by omega)) (va_up_self _ _ _) (gv_in (by decide)) dX10_end_38 ?_
  refine go_w (va_up_up _ _ _ _) ?_
  refine go_aload_n (pc := 39) dX10_end_39 rfl rfl ?_
  refine go_callV_v (pc := 40) vX10_111 rfl (cX10_giveBack_2 hn hw) rfl rfl (gz_b (by omega)) ((va_up_ne _ _ (gz_ne (by decide))).trans ((hw 32 (by decide) (by decide)).trans (wl_at (i := 32) rfl))) rfl (Nat.le_of_ble_eq_true rfl) ⟨Nat.le_of_ble_eq_true rfl, Nat.le_of_ble_eq_true rfl, (Nat.le_add_right _ _), (Nat.le_add_right _ _)⟩ dX10_end_40 ?_
  refine go_aload_n (pc := 43) dX10_end_43 rfl rfl ?_
  refine go_callV_v (pc := 44) vX10_114 rfl (cX10_fade_2 hn hw) rfl rfl (gz_b (by omega)) ((va_up_ne _ _ (gz_ne (by decide))).trans ((hw 32 (by decide) (by decide)).trans (wl_at (i := 32) rfl))) rfl (Nat.le_of_ble_eq_true rfl) ⟨Nat.le_of_ble_eq_true rfl, Nat.le_of_ble_eq_true rfl, (Nat.le_add_right _ _), (Nat.le_add_right _ _)⟩ dX10_end_44 ?_
  refine go_aload_n (pc := 47) dX10_end_47 rfl rfl ?_
  refine go_get (pc := 48) fX10_9 rfl (gz_b (by omega)) ((va_up_ne _ _ (gz_ne (by decide))).trans ((hw 32 (by decide) (by decide)).trans (wl_at (i := 32) rfl))) rfl dX10_end_48 ?_
  refine go_bipush (pc := 51) (v := 7) dX10_end_51 (by decide) ?_
  refine go_iald (pc := 53) (gz_b (by omega)) (va_up_self _ _ _) (gv_in (by decide)) dX10_end_53 ?_
  refine go_top (y := 0) rfl ?_
  refine go_istore_n (pc := 54) (lv' := [(1, .int 0), (0, .ref (G.2.1 + 32))]) dX10_end_54 rfl (by decide) rfl ?_
  refine go_aload_n (pc := 55) dX10_end_55 rfl rfl ?_
  refine go_get (pc := 56) fX10_9 rfl (gz_b (by omega)) ((va_up_ne _ _ (gz_ne (by decide))).trans ((hw 32 (by decide) (by decide)).trans (wl_at (i := 32) rfl))) rfl dX10_end_56 ?_
  refine go_bipush (pc := 59) (v := 9) dX10_end_59 (by decide) ?_
  refine go_dup2 (pc := 61) dX10_end_61 rfl rfl ?_
  refine go_iald (pc := 62) (gz_b (by omega)) (va_up_self _ _ _) (gv_in (by decide)) dX10_end_62 ?_
  refine go_top (y := 0) rfl ?_
  refine go_iload_n (pc := 63) dX10_end_63 rfl rfl ?_
  refine go_iadd (pc := 64) dX10_end_64 ?_
  refine go_top (y := 0) (by decide) ?_
  refine go_iast (pc := 65) (gz_b (by omega)) (va_up_self _ _ _) (gv_in (by decide)) dX10_end_65 ?_
  refine go_w (va_up_up _ _ _ _) ?_
  refine go_aload_n (pc := 66) dX10_end_66 rfl rfl ?_
  refine go_callV_v (pc := 67) vX10_117 rfl (cX10_slide_2 hn hw) rfl rfl (gz_b (by omega)) ((va_up_ne _ _ (gz_ne (by decide))).trans ((hw 32 (by decide) (by decide)).trans (wl_at (i := 32) rfl))) rfl (Nat.le_of_ble_eq_true rfl) ⟨Nat.le_of_ble_eq_true rfl, Nat.le_of_ble_eq_true rfl, (Nat.le_add_right _ _), (Nat.le_add_right _ _)⟩ dX10_end_67 ?_
  refine go_iconst (pc := 70) (v := 0) dX10_end_70 (by decide) ?_
  refine go_istore_n (pc := 71) (lv' := [(2, .int 0), (1, .int 0), (0, .ref (G.2.1 + 32))]) dX10_end_71 rfl (by decide) rfl ?_
  refine go_iload_n (pc := 72) dX10_end_72 rfl rfl ?_
  refine go_aload_n (pc := 73) dX10_end_73 rfl rfl ?_
  refine go_get (pc := 74) fX10_9 rfl (gz_b (by omega)) ((va_up_ne _ _ (gz_ne (by decide))).trans ((hw 32 (by decide) (by decide)).trans (wl_at (i := 32) rfl))) rfl dX10_end_74 ?_
  refine go_iconst (pc := 77) (v := 4) dX10_end_77 (by decide) ?_
  refine go_iald (pc := 78) (gz_b (by omega)) (va_up_self _ _ _) (gv_in (by decide)) dX10_end_78 ?_
  refine go_top (y := 0) rfl ?_
  refine go_icmp_ge_t (pc := 79) (tgt := 104) dX10_end_79 (by decide) (by decide) ?_
  refine go_aload_n (pc := 104) dX10_end_104 rfl rfl ?_
  refine go_get (pc := 105) fX10_9 rfl (gz_b (by omega)) ((va_up_ne _ _ (gz_ne (by decide))).trans ((hw 32 (by decide) (by decide)).trans (wl_at (i := 32) rfl))) rfl dX10_end_105 ?_
  refine go_iconst (pc := 108) (v := 4) dX10_end_108 (by decide) ?_
  refine go_iconst (pc := 109) (v := 0) dX10_end_109 (by decide) ?_
  refine go_iast (pc := 110) (gz_b (by omega)) (va_up_self _ _ _) (gv_in (by decide)) dX10_end_110 ?_
  refine go_w (va_up_up _ _ _ _) ?_
  refine go_aload_n (pc := 111) dX10_end_111 rfl rfl ?_
  refine go_get (pc := 112) fX10_9 rfl (gz_b (by omega)) ((va_up_ne _ _ (gz_ne (by decide))).trans ((hw 32 (by decide) (by decide)).trans (wl_at (i := 32) rfl))) rfl dX10_end_112 ?_
  refine go_bipush (pc := 115) (v := 17) dX10_end_115 (by decide) ?_
  refine go_iconst (pc := 117) (v := 0) dX10_end_117 (by decide) ?_
  refine go_iast (pc := 118) (gz_b (by omega)) (va_up_self _ _ _) (gv_in (by decide)) dX10_end_118 ?_
  refine go_w (va_up_up _ _ _ _) ?_
  refine go_aload_n (pc := 119) dX10_end_119 rfl rfl ?_
  refine go_get (pc := 120) fX10_9 rfl (gz_b (by omega)) ((va_up_ne _ _ (gz_ne (by decide))).trans ((hw 32 (by decide) (by decide)).trans (wl_at (i := 32) rfl))) rfl dX10_end_120 ?_
  refine go_iconst (pc := 123) (v := 3) dX10_end_123 (by decide) ?_
  refine go_iconst (pc := 124) (v := 0) dX10_end_124 (by decide) ?_
  refine go_iast (pc := 125) (gz_b (by omega)) (va_up_self _ _ _) (gv_in (by decide)) dX10_end_125 ?_
  refine go_w (va_up_up _ _ _ _) ?_
  exact go_vret (pc := 126) rfl dX10_end_126
set_option maxRecDepth 100000 in
set_option maxHeartbeats 4000000 in
theorem cX10_wholeCycle_1 {l : Launch} {G : gG} {n k : Nat} {w : Nat → va_E} (hn : 42 ≤ n) (hw : ∀ i, 32 ≤ i → i < 42 → w (G.2.1 + i) = wl G.2.1 (LF G) (G.2.1 + i)) : Ct l G mX10_wholeCycle 3 69 [.ref (G.2.1 + 32)] n k w (some (.int 0), n, k, (va_up w (G.2.1 + 33) (ai G 26100 (upd (upd (upd (upd (upd (upd (upd (upd (upd (upd (upd (upd (upd (upd (upd (upd (upd (upd (upd (upd (upd (upd (upd (upd (upd (upd (upd (upd (upd (upd (upd (upd (upd (upd (upd (upd (upd (upd (upd (upd (upd (upd (upd (upd (upd (upd (upd (upd (upd (upd (upd (upd (upd (upd (upd (upd (upd (upd (upd (upd (upd (upd (upd (upd (upd (upd (upd (upd (upd (upd (upd (upd (upd (upd (upd (upd (upd (upd (upd (upd (upd (upd (upd (upd (upd (upd (upd (upd (upd (upd (upd (upd (upd (upd (sx 256) (3 : Int32).toNatClampNeg 1) (4 : Int32).toNatClampNeg 0) (17 : Int32).toNatClampNeg 0) (5 : Int32).toNatClampNeg 1) (6 : Int32).toNatClampNeg 0) (7 : Int32).toNatClampNeg 0) (8 : Int32).toNatClampNeg 0) (9 : Int32).toNatClampNeg 0) (15 : Int32).toNatClampNeg 0) (10100 : Int32).toNatClampNeg ((-1))) (18100 : Int32).toNatClampNeg ((-1))) (15 : Int32).toNatClampNeg 1) (10101 : Int32).toNatClampNeg ((-1))) (18101 : Int32).toNatClampNeg ((-1))) (15 : Int32).toNatClampNeg 2) (10102 : Int32).toNatClampNeg ((-1))) (18102 : Int32).toNatClampNeg ((-1))) (15 : Int32).toNatClampNeg 3) (10103 : Int32).toNatClampNeg ((-1))) (18103 : Int32).toNatClampNeg ((-1))) (15 : Int32).toNatClampNeg 4) (10104 : Int32).toNatClampNeg ((-1))) (18104 : Int32).toNatClampNeg ((-1))) (15 : Int32).toNatClampNeg 5) (10105 : Int32).toNatClampNeg ((-1))) (18105 : Int32).toNatClampNeg ((-1))) (15 : Int32).toNatClampNeg 6) (10106 : Int32).toNatClampNeg ((-1))) (18106 : Int32).toNatClampNeg ((-1))) (15 : Int32).toNatClampNeg 7) (10107 : Int32).toNatClampNeg ((-1))) (18107 : Int32).toNatClampNeg ((-1))) (15 : Int32).toNatClampNeg 8) (10108 : Int32).toNatClampNeg ((-1))) (18108 : Int32).toNatClampNeg ((-1))) (15 : Int32).toNatClampNeg 9) (10109 : Int32).toNatClampNeg ((-1))) (18109 : Int32).toNatClampNeg ((-1))) (15 : Int32).toNatClampNeg 10) (10110 : Int32).toNatClampNeg ((-1))) (18110 : Int32).toNatClampNeg ((-1))) (15 : Int32).toNatClampNeg 11) (10111 : Int32).toNatClampNeg ((-1))) (18111 : Int32).toNatClampNeg ((-1))) (15 : Int32).toNatClampNeg 12) (10112 : Int32).toNatClampNeg ((-1))) (18112 : Int32).toNatClampNeg ((-1))) (15 : Int32).toNatClampNeg 13) (10113 : Int32).toNatClampNeg ((-1))) (18113 : Int32).toNatClampNeg ((-1))) (15 : Int32).toNatClampNeg 14) (10114 : Int32).toNatClampNeg ((-1))) (18114 : Int32).toNatClampNeg ((-1))) (15 : Int32).toNatClampNeg 15) (10115 : Int32).toNatClampNeg ((-1))) (18115 : Int32).toNatClampNeg ((-1))) (15 : Int32).toNatClampNeg 16) (10116 : Int32).toNatClampNeg ((-1))) (18116 : Int32).toNatClampNeg ((-1))) (15 : Int32).toNatClampNeg 17) (10117 : Int32).toNatClampNeg ((-1))) (18117 : Int32).toNatClampNeg ((-1))) (15 : Int32).toNatClampNeg 18) (10118 : Int32).toNatClampNeg ((-1))) (18118 : Int32).toNatClampNeg ((-1))) (15 : Int32).toNatClampNeg 19) (10119 : Int32).toNatClampNeg ((-1))) (18119 : Int32).toNatClampNeg ((-1))) (15 : Int32).toNatClampNeg 20) (10120 : Int32).toNatClampNeg ((-1))) (18120 : Int32).toNatClampNeg ((-1))) (15 : Int32).toNatClampNeg 21) (10121 : Int32).toNatClampNeg ((-1))) (18121 : Int32).toNatClampNeg ((-1))) (15 : Int32).toNatClampNeg 22) (10122 : Int32).toNatClampNeg ((-1))) (18122 : Int32).toNatClampNeg ((-1))) (15 : Int32).toNatClampNeg 23) (10123 : Int32).toNatClampNeg ((-1))) (18123 : Int32).toNatClampNeg ((-1))) (15 : Int32).toNatClampNeg 24) (10124 : Int32).toNatClampNeg 0) (18124 : Int32).toNatClampNeg 0) (15 : Int32).toNatClampNeg 25) (16 : Int32).toNatClampNeg 0) (10125 : Int32).toNatClampNeg 0) (18125 : Int32).toNatClampNeg 0) (15 : Int32).toNatClampNeg 26) (10126 : Int32).toNatClampNeg 1072725825) (18126 : Int32).toNatClampNeg 1072725825) (15 : Int32).toNatClampNeg 27) (4 : Int32).toNatClampNeg 0) (17 : Int32).toNatClampNeg 0) (3 : Int32).toNatClampNeg 0)))) := by
  refine Ct.of (by decide) (Nat.le_of_ble_eq_true rfl) ⟨Nat.le_refl _, Nat.le_refl _⟩ ?_
  show Go l G mX10_wholeCycle _ 0 [(0, .ref (G.2.1 + 32))] [] n k w
  refine go_aload_n (pc := 0) dX10_wholeCycle_0 rfl rfl ?_
  refine go_get (pc := 1) fX10_9 rfl (gz_b (by omega)) ((hw 32 (by decide) (by decide)).trans (wl_at (i := 32) rfl)) rfl dX10_wholeCycle_1 ?_
  refine go_iconst (pc := 4) (v := 3) dX10_wholeCycle_4 (by decide) ?_
  refine go_iald (pc := 5) (gz_b (by omega)) ((hw 33 (by decide) (by decide)).trans (wl_at (i := 33) rfl)) (gv_in (by decide)) dX10_wholeCycle_5 ?_
  refine go_top (y := 0) rfl ?_
  refine go_if_ne_f (pc := 6) (tgt := 13) dX10_wholeCycle_6 (by decide) (by decide) ?_
  refine go_aload_n (pc := 9) dX10_wholeCycle_9 rfl rfl ?_
  refine go_callV_v (pc := 10) vX10_101 rfl (cX10_begin_2 hn hw) rfl rfl (gz_b (by omega)) ((hw 32 (by decide) (by decide)).trans (wl_at (i := 32) rfl)) rfl (Nat.le_of_ble_eq_true rfl) ⟨Nat.le_of_ble_eq_true rfl, Nat.le_of_ble_eq_true rfl, (Nat.le_add_right _ _), (Nat.le_add_right _ _)⟩ dX10_wholeCycle_10 ?_
  refine go_aload_n (pc := 13) dX10_wholeCycle_13 rfl rfl ?_
  refine go_ldc (pc := 14) rfl qX10_110 dX10_wholeCycle_14 ?_
  refine go_callV_i (pc := 16) vX10_104 rfl (cX10_lookThrough_2 hn hw) rfl rfl (gz_b (by omega)) ((va_up_ne _ _ (gz_ne (by decide))).trans ((hw 32 (by decide) (by decide)).trans (wl_at (i := 32) rfl))) rfl (Nat.le_of_ble_eq_true rfl) ⟨Nat.le_of_ble_eq_true rfl, Nat.le_of_ble_eq_true rfl, (Nat.le_add_right _ _), (Nat.le_add_right _ _)⟩ dX10_wholeCycle_16 ?_
  refine go_pop (pc := 19) dX10_wholeCycle_19 rfl ?_
  refine go_aload_n (pc := 20) dX10_wholeCycle_20 rfl rfl ?_
  refine go_callV_v (pc := 21) vX10_107 rfl (cX10_end_2 hn hw) rfl rfl (gz_b (by omega)) ((va_up_ne _ _ (gz_ne (by decide))).trans ((hw 32 (by decide) (by decide)).trans (wl_at (i := 32) rfl))) rfl (Nat.le_of_ble_eq_true rfl) ⟨Nat.le_of_ble_eq_true rfl, Nat.le_of_ble_eq_true rfl, (Nat.le_add_right _ _), (Nat.le_add_right _ _)⟩ dX10_wholeCycle_21 ?_
  refine go_aload_n (pc := 24) dX10_wholeCycle_24 rfl rfl ?_
  refine go_get (pc := 25) fX10_9 rfl (gz_b (by omega)) ((va_up_ne _ _ (gz_ne (by decide))).trans ((hw 32 (by decide) (by decide)).trans (wl_at (i := 32) rfl))) rfl dX10_wholeCycle_25 ?_
  refine go_bipush (pc := 28) (v := 7) dX10_wholeCycle_28 (by decide) ?_
  refine go_iald (pc := 30) (gz_b (by omega)) (va_up_self _ _ _) (gv_in (by decide)) dX10_wholeCycle_30 ?_
  refine go_top (y := 0) rfl ?_
  exact go_iret (pc := 31) rfl dX10_wholeCycle_31
set_option maxRecDepth 100000 in
set_option maxHeartbeats 4000000 in
theorem cm_cycle_o {l : Launch} {G : gG} {n k : Nat} {w : Nat → va_E} (hn : 42 ≤ n) (hw : ∀ i, 32 ≤ i → i < 42 → w (G.2.1 + i) = wl G.2.1 (LF G) (G.2.1 + i)) : Ct l G mX10_cycle 4 89 [.ref (G.2.1 + 32)] n k w (some (.int 0), n, k, (va_up w (G.2.1 + 33) (ai G 26100 (upd (upd (upd (upd (upd (upd (upd (upd (upd (upd (upd (upd (upd (upd (upd (upd (upd (upd (upd (upd (upd (upd (upd (upd (upd (upd (upd (upd (upd (upd (upd (upd (upd (upd (upd (upd (upd (upd (upd (upd (upd (upd (upd (upd (upd (upd (upd (upd (upd (upd (upd (upd (upd (upd (upd (upd (upd (upd (upd (upd (upd (upd (upd (upd (upd (upd (upd (upd (upd (upd (upd (upd (upd (upd (upd (upd (upd (upd (upd (upd (upd (upd (upd (upd (upd (upd (upd (upd (upd (upd (upd (upd (upd (upd (sx 256) (3 : Int32).toNatClampNeg 1) (4 : Int32).toNatClampNeg 0) (17 : Int32).toNatClampNeg 0) (5 : Int32).toNatClampNeg 1) (6 : Int32).toNatClampNeg 0) (7 : Int32).toNatClampNeg 0) (8 : Int32).toNatClampNeg 0) (9 : Int32).toNatClampNeg 0) (15 : Int32).toNatClampNeg 0) (10100 : Int32).toNatClampNeg ((-1))) (18100 : Int32).toNatClampNeg ((-1))) (15 : Int32).toNatClampNeg 1) (10101 : Int32).toNatClampNeg ((-1))) (18101 : Int32).toNatClampNeg ((-1))) (15 : Int32).toNatClampNeg 2) (10102 : Int32).toNatClampNeg ((-1))) (18102 : Int32).toNatClampNeg ((-1))) (15 : Int32).toNatClampNeg 3) (10103 : Int32).toNatClampNeg ((-1))) (18103 : Int32).toNatClampNeg ((-1))) (15 : Int32).toNatClampNeg 4) (10104 : Int32).toNatClampNeg ((-1))) (18104 : Int32).toNatClampNeg ((-1))) (15 : Int32).toNatClampNeg 5) (10105 : Int32).toNatClampNeg ((-1))) (18105 : Int32).toNatClampNeg ((-1))) (15 : Int32).toNatClampNeg 6) (10106 : Int32).toNatClampNeg ((-1))) (18106 : Int32).toNatClampNeg ((-1))) (15 : Int32).toNatClampNeg 7) (10107 : Int32).toNatClampNeg ((-1))) (18107 : Int32).toNatClampNeg ((-1))) (15 : Int32).toNatClampNeg 8) (10108 : Int32).toNatClampNeg ((-1))) (18108 : Int32).toNatClampNeg ((-1))) (15 : Int32).toNatClampNeg 9) (10109 : Int32).toNatClampNeg ((-1))) (18109 : Int32).toNatClampNeg ((-1))) (15 : Int32).toNatClampNeg 10) (10110 : Int32).toNatClampNeg ((-1))) (18110 : Int32).toNatClampNeg ((-1))) (15 : Int32).toNatClampNeg 11) (10111 : Int32).toNatClampNeg ((-1))) (18111 : Int32).toNatClampNeg ((-1))) (15 : Int32).toNatClampNeg 12) (10112 : Int32).toNatClampNeg ((-1))) (18112 : Int32).toNatClampNeg ((-1))) (15 : Int32).toNatClampNeg 13) (10113 : Int32).toNatClampNeg ((-1))) (18113 : Int32).toNatClampNeg ((-1))) (15 : Int32).toNatClampNeg 14) (10114 : Int32).toNatClampNeg ((-1))) (18114 : Int32).toNatClampNeg ((-1))) (15 : Int32).toNatClampNeg 15) (10115 : Int32).toNatClampNeg ((-1))) (18115 : Int32).toNatClampNeg ((-1))) (15 : Int32).toNatClampNeg 16) (10116 : Int32).toNatClampNeg ((-1))) (18116 : Int32).toNatClampNeg ((-1))) (15 : Int32).toNatClampNeg 17) (10117 : Int32).toNatClampNeg ((-1))) (18117 : Int32).toNatClampNeg ((-1))) (15 : Int32).toNatClampNeg 18) (10118 : Int32).toNatClampNeg ((-1))) (18118 : Int32).toNatClampNeg ((-1))) (15 : Int32).toNatClampNeg 19) (10119 : Int32).toNatClampNeg ((-1))) (18119 : Int32).toNatClampNeg ((-1))) (15 : Int32).toNatClampNeg 20) (10120 : Int32).toNatClampNeg ((-1))) (18120 : Int32).toNatClampNeg ((-1))) (15 : Int32).toNatClampNeg 21) (10121 : Int32).toNatClampNeg ((-1))) (18121 : Int32).toNatClampNeg ((-1))) (15 : Int32).toNatClampNeg 22) (10122 : Int32).toNatClampNeg ((-1))) (18122 : Int32).toNatClampNeg ((-1))) (15 : Int32).toNatClampNeg 23) (10123 : Int32).toNatClampNeg ((-1))) (18123 : Int32).toNatClampNeg ((-1))) (15 : Int32).toNatClampNeg 24) (10124 : Int32).toNatClampNeg 0) (18124 : Int32).toNatClampNeg 0) (15 : Int32).toNatClampNeg 25) (16 : Int32).toNatClampNeg 0) (10125 : Int32).toNatClampNeg 0) (18125 : Int32).toNatClampNeg 0) (15 : Int32).toNatClampNeg 26) (10126 : Int32).toNatClampNeg 1072725825) (18126 : Int32).toNatClampNeg 1072725825) (15 : Int32).toNatClampNeg 27) (4 : Int32).toNatClampNeg 0) (17 : Int32).toNatClampNeg 0) (3 : Int32).toNatClampNeg 0)))) := by
  refine Ct.of (by decide) (Nat.le_of_ble_eq_true rfl) ⟨Nat.le_refl _, Nat.le_refl _⟩ ?_
  show Go l G mX10_cycle _ 0 [(0, .ref (G.2.1 + 32))] [] n k w
  refine go_aload_n (pc := 0) dX10_cycle_0 rfl rfl ?_
  refine go_callV_i (pc := 1) vX10_147 rfl (cX10_wholeCycle_1 hn hw) rfl rfl (gz_b (by omega)) ((hw 32 (by decide) (by decide)).trans (wl_at (i := 32) rfl)) rfl (Nat.le_of_ble_eq_true rfl) ⟨Nat.le_of_ble_eq_true rfl, Nat.le_of_ble_eq_true rfl, (Nat.le_add_right _ _), (Nat.le_add_right _ _)⟩ dX10_cycle_1 ?_
  exact go_iret (pc := 4) rfl dX10_cycle_4
theorem cm_cycle {l : Launch} {G : gG} : CM l G mX10_cycle [.ref (G.2.1 + 32)] 0 := by
  intro n k w hn hw
  exact ⟨4, 89, _, by decide, by decide, cm_cycle_o hn hw⟩
